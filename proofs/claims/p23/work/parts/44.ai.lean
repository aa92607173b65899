/-! CONTRACTS THAT THE CHECKER TAKES, printed by wip/ai2/emall.py -/
section
variable {O : pOut} {I : PH → Prop}
def kc_0 : aCon := (12, 0, ([(.negSucc 2147483647, .ofNat 2147483647)], []), [(1, (.ofNat 65, [])), (0, (.ofNat 0, [(.ofNat 1, 0)]))], [], [], [(([(.negSucc 2147483647, .ofNat 2147483647)], []), (1, (0, (.ofNat 0, []))), [], 0, 0), (([(.negSucc 2147483647, .ofNat 2147483647)], []), (1, (0, (.ofNat 1, []))), [], 0, 0)])
def kq_0 : List aCut := []
/-- yX8_hasRoom 65 _ -/
theorem kv_0 (w : aWd O I) : conOK O gG I kc_0 := ckMeth_ok w.1 w.2.1 (CL := []) (cl_nil) w.2.2 (cuts := kq_0) (inl := gInl) (fuel := 1000000) (row := _) rfl (by decide +kernel)
def kc_1 : aCon := (14, 0, ([(.negSucc 2147483647, .ofNat 2147483647), (.negSucc 2147483647, .ofNat 2147483647)], []), [(1, (.ofNat 66, [])), (0, (.ofNat 0, [(.ofNat 1, 0)])), (0, (.ofNat 0, [(.ofNat 1, 1)]))], [], [(2, 0, 0, 400)], [(([(.negSucc 2147483647, .ofNat 2147483647), (.negSucc 2147483647, .ofNat 2147483647)], []), (0, (0, (.ofNat 0, []))), [], 0, 0)])
def kq_1 : List aCut := []
/-- yX11_set 66 _ _ -/
theorem kv_1 (w : aWd O I) : conOK O gG I kc_1 := ckMeth_ok w.1 w.2.1 (CL := []) (cl_nil) w.2.2 (cuts := kq_1) (inl := gInl) (fuel := 1000000) (row := _) rfl (by decide +kernel)
def kc_2 : aCon := (13, 1, ([(.negSucc 2147483647, .ofNat 2147483647)], []), [(1, (.ofNat 65, [])), (0, (.ofNat 0, [(.ofNat 1, 0)]))], [], [(2, 0, 0, 400), (1, 3, 0, 1)], [(([(.negSucc 2147483647, .ofNat 2147483647)], []), (0, (0, (.ofNat 0, []))), [], 0, 0)])
def kq_2 : List aCut := [(3, ([(.negSucc 2147483647, .ofNat 2147483647), (.negSucc 127, .ofNat 24)], []), [(1, (.ofNat 65, [])), (0, (.ofNat 0, [(.ofNat 1, 0)])), (0, (.ofNat 0, [(.ofNat 1, 1)]))], [], [], (.ofNat 4722366482869645213824, [(.ofNat 1, 1)]), [])]
/-- yX8_append 65 _ -/
theorem kv_2 (w : aWd O I) : conOK O gG I kc_2 := ckMeth_ok w.1 w.2.1 (CL := [kc_1]) (cl_cons (kv_1 w) (cl_nil)) w.2.2 (cuts := kq_2) (inl := gInl) (fuel := 1000000) (row := _) rfl (by decide +kernel)
def kc_3 : aCon := (11, 2, ([(.negSucc 2147483647, .ofNat 2147483647), (.negSucc 2147483647, .ofNat 2147483647), (.negSucc 2147483647, .ofNat 2147483647), (.negSucc 2147483647, .ofNat 2147483647), (.negSucc 2147483647, .ofNat 2147483647)], []), [(1, (.ofNat 64, [])), (0, (.ofNat 0, [(.ofNat 1, 0)])), (0, (.ofNat 0, [(.ofNat 1, 1)])), (0, (.ofNat 0, [(.ofNat 1, 2)])), (0, (.ofNat 0, [(.ofNat 1, 3)])), (0, (.ofNat 0, [(.ofNat 1, 4)]))], [], [(2, 0, 0, 400), (1, 3, 0, 1)], [(([(.negSucc 2147483647, .ofNat 2147483647), (.negSucc 2147483647, .ofNat 2147483647), (.negSucc 2147483647, .ofNat 2147483647), (.negSucc 2147483647, .ofNat 2147483647), (.negSucc 2147483647, .ofNat 2147483647), (.negSucc 2147483647, .ofNat 2147483647)], []), (1, (0, (.ofNat 0, [(.ofNat 1, 5)]))), [], 0, 0)])
def kq_3 : List aCut := []
/-- yX11_feed 64 _ _ _ _ _ -/
theorem kv_3 (w : aWd O I) : conOK O gG I kc_3 := ckMeth_ok w.1 w.2.1 (CL := [kc_0, kc_2]) (cl_cons (kv_0 w) (cl_cons (kv_2 w) (cl_nil))) w.2.2 (cuts := kq_3) (inl := gInl) (fuel := 1000000) (row := _) rfl (by decide +kernel)
def kc_4 : aCon := (15, 0, ([(.negSucc 2147483647, .ofNat 2147483647)], []), [(1, (.ofNat 64, [])), (0, (.ofNat 0, [(.ofNat 1, 0)]))], [], [(1, 3, 0, 1)], [(([(.negSucc 2147483647, .ofNat 2147483647)], []), (1, (0, (.ofNat 0, []))), [], 0, 0), (([(.ofNat 0, .ofNat 2147483647)], []), (1, (0, (.ofNat 1, []))), [], 0, 0)])
def kq_4 : List aCut := []
/-- yX11_end 64 _ -/
theorem kv_4 (w : aWd O I) : conOK O gG I kc_4 := ckMeth_ok w.1 w.2.1 (CL := []) (cl_nil) w.2.2 (cuts := kq_4) (inl := gInl) (fuel := 1000000) (row := _) rfl (by decide +kernel)
def kc_5 : aCon := (28, 0, ([(.negSucc 2147483647, .ofNat 2147483647)], []), [(1, (.ofNat 66, [])), (0, (.ofNat 0, [(.ofNat 1, 0)]))], [], [], [(([(.negSucc 2147483647, .ofNat 2147483647), (.negSucc 2147483647, .ofNat 2147483647)], []), (1, (0, (.ofNat 0, [(.ofNat 1, 1)]))), [], 0, 0)])
def kq_5 : List aCut := []
/-- yX11_at 66 _ -/
theorem kv_5 (w : aWd O I) : conOK O gG I kc_5 := ckMeth_ok w.1 w.2.1 (CL := []) (cl_nil) w.2.2 (cuts := kq_5) (inl := gInl) (fuel := 1000000) (row := _) rfl (by decide +kernel)
def kc_6 : aCon := (81, 2, ([(.negSucc 2147483647, .ofNat 2147483647)], []), [(1, (.ofNat 67, [])), (0, (.ofNat 0, [(.ofNat 1, 0)]))], [], [], [(([(.negSucc 2147483647, .ofNat 2147483647), (.negSucc 2147483647, .ofNat 2147483647)], []), (1, (0, (.ofNat 0, [(.ofNat 1, 1)]))), [], 0, 0)])
def kq_6 : List aCut := [(45, ([(.negSucc 2147483647, .ofNat 2147483647), (.negSucc 2147483647, .ofNat 2147483647)], []), [(1, (.ofNat 67, [])), aX, (0, (.ofNat 0, [(.ofNat 1, 1)]))], [], [], (.ofNat 4722366482871792697343, [(.negSucc 0, 1)]), []),
  (12, ([(.negSucc 2147483647, .ofNat 2147483647), (.negSucc 2147483647, .ofNat 2147483647)], []), [(1, (.ofNat 67, [])), aX, (0, (.ofNat 0, [(.ofNat 1, 1)]))], [], [], (.ofNat 9444732965741437911039, [(.negSucc 0, 1)]), [])]
/-- yX2_behindToken 67 _ -/
theorem kv_6 (w : aWd O I) : conOK O gG I kc_6 := ckMeth_ok w.1 w.2.1 (CL := [kc_5]) (cl_cons (kv_5 w) (cl_nil)) w.2.2 (cuts := kq_6) (inl := gInl) (fuel := 1000000) (row := _) rfl (by decide +kernel)
def kc_7 : aCon := (86, 1, ([(.negSucc 2147483647, .ofNat 2147483647), (.negSucc 2147483647, .ofNat 2147483647)], []), [(1, (.ofNat 67, [])), (0, (.ofNat 0, [(.ofNat 1, 0)])), (0, (.ofNat 0, [(.ofNat 1, 1)]))], [], [], [(([(.negSucc 2147483647, .ofNat 2147483647), (.negSucc 2147483647, .ofNat 2147483647), (.negSucc 2147483647, .ofNat 2147483647)], []), (1, (0, (.ofNat 0, [(.ofNat 1, 2)]))), [], 0, 0)])
def kq_7 : List aCut := [(16, ([(.negSucc 2147483647, .ofNat 2147483647), (.negSucc 2147483647, .ofNat 2147483647), (.negSucc 2147483647, .ofNat 2147483647), (.negSucc 2147483647, .ofNat 2147483647)], []), [(1, (.ofNat 67, [])), aX, (0, (.ofNat 0, [(.ofNat 1, 1)])), (0, (.ofNat 0, [(.ofNat 1, 2)])), (0, (.ofNat 0, [(.ofNat 1, 3)]))], [], [], (.ofNat 4722366482871792697343, [(.negSucc 0, 3)]), [])]
/-- yX2_numberOf 67 _ _ -/
theorem kv_7 (w : aWd O I) : conOK O gG I kc_7 := ckMeth_ok w.1 w.2.1 (CL := [kc_5]) (cl_cons (kv_5 w) (cl_nil)) w.2.2 (cuts := kq_7) (inl := gInl) (fuel := 1000000) (row := _) rfl (by decide +kernel)
def kc_8 : aCon := (85, 1, ([(.negSucc 2147483647, .ofNat 2147483647), (.negSucc 2147483647, .ofNat 2147483647)], []), [(1, (.ofNat 67, [])), (0, (.ofNat 0, [(.ofNat 1, 0)])), (0, (.ofNat 0, [(.ofNat 1, 1)]))], [], [], [(([(.negSucc 2147483647, .ofNat 2147483647), (.negSucc 2147483647, .ofNat 2147483647), (.negSucc 2147483647, .ofNat 2147483647)], []), (1, (0, (.ofNat 0, [(.ofNat 1, 2)]))), [], 0, 0)])
def kq_8 : List aCut := [(8, ([(.negSucc 2147483647, .ofNat 2147483647), (.negSucc 2147483647, .ofNat 2147483647), (.negSucc 2147483647, .ofNat 2147483647), (.negSucc 2147483647, .ofNat 2147483647), (.ofNat 0, .ofNat 89)], []), [(1, (.ofNat 67, [])), (0, (.ofNat 0, [(.ofNat 1, 0)])), (0, (.ofNat 0, [(.ofNat 1, 1)])), (0, (.ofNat 0, [(.ofNat 1, 2)])), (0, (.ofNat 0, [(.ofNat 1, 3)])), (0, (.ofNat 0, [(.ofNat 1, 4)]))], [], [], (.ofNat 4722366482869645213785, [(.negSucc 0, 4)]), [])]
/-- yX2_wordOf 67 _ _ -/
theorem kv_8 (w : aWd O I) : conOK O gG I kc_8 := ckMeth_ok w.1 w.2.1 (CL := [kc_5]) (cl_cons (kv_5 w) (cl_nil)) w.2.2 (cuts := kq_8) (inl := gInl) (fuel := 1000000) (row := _) rfl (by decide +kernel)
def kc_9 : aCon := (84, 2, ([(.negSucc 2147483647, .ofNat 2147483647), (.negSucc 2147483647, .ofNat 2147483647)], []), [(1, (.ofNat 67, [])), (0, (.ofNat 0, [(.ofNat 1, 0)])), (0, (.ofNat 0, [(.ofNat 1, 1)]))], [], [], [(([(.negSucc 2147483647, .ofNat 2147483647), (.negSucc 2147483647, .ofNat 2147483647), (.negSucc 2147483647, .ofNat 2147483647)], []), (1, (0, (.ofNat 0, [(.ofNat 1, 2)]))), [], 0, 0)])
def kq_9 : List aCut := []
/-- yX2_tokenOf 67 _ _ -/
theorem kv_9 (w : aWd O I) : conOK O gG I kc_9 := ckMeth_ok w.1 w.2.1 (CL := [kc_5, kc_7, kc_8]) (cl_cons (kv_5 w) (cl_cons (kv_7 w) (cl_cons (kv_8 w) (cl_nil)))) w.2.2 (cuts := kq_9) (inl := gInl) (fuel := 1000000) (row := _) rfl (by decide +kernel)
def kc_10 : aCon := (14, 0, ([(.negSucc 2147483647, .ofNat 2147483647), (.negSucc 2147483647, .ofNat 2147483647)], []), [(1, (.ofNat 70, [])), (0, (.ofNat 0, [(.ofNat 1, 0)])), (0, (.ofNat 0, [(.ofNat 1, 1)]))], [], [(6, 0, 0, 401)], [(([(.negSucc 2147483647, .ofNat 2147483647), (.negSucc 2147483647, .ofNat 2147483647)], []), (0, (0, (.ofNat 0, []))), [], 0, 0)])
def kq_10 : List aCut := []
/-- yX11_set 70 _ _ -/
theorem kv_10 (w : aWd O I) : conOK O gG I kc_10 := ckMeth_ok w.1 w.2.1 (CL := []) (cl_nil) w.2.2 (cuts := kq_10) (inl := gInl) (fuel := 1000000) (row := _) rfl (by decide +kernel)
def kc_11 : aCon := (14, 0, ([(.negSucc 2147483647, .ofNat 2147483647), (.negSucc 2147483647, .ofNat 2147483647)], []), [(1, (.ofNat 69, [])), (0, (.ofNat 0, [(.ofNat 1, 0)])), (0, (.ofNat 0, [(.ofNat 1, 1)]))], [], [(5, 0, 0, 401)], [(([(.negSucc 2147483647, .ofNat 2147483647), (.negSucc 2147483647, .ofNat 2147483647)], []), (0, (0, (.ofNat 0, []))), [], 0, 0)])
def kq_11 : List aCut := []
/-- yX11_set 69 _ _ -/
theorem kv_11 (w : aWd O I) : conOK O gG I kc_11 := ckMeth_ok w.1 w.2.1 (CL := []) (cl_nil) w.2.2 (cuts := kq_11) (inl := gInl) (fuel := 1000000) (row := _) rfl (by decide +kernel)
def kc_12 : aCon := (80, 3, ([], []), [(1, (.ofNat 67, []))], [], [(3, 9, 0, 1), (3, 10, 0, 1), (6, 0, 0, 401), (5, 0, 0, 401)], [(([], []), (0, (0, (.ofNat 0, []))), [], 0, 0)])
def kq_12 : List aCut := [(6, ([(.negSucc 2147483647, .ofNat 2147483647), (.negSucc 2147483647, .ofNat 2147483647), (.ofNat 0, .ofNat 400)], []), [(1, (.ofNat 67, [])), (0, (.ofNat 0, [(.ofNat 1, 0)])), (0, (.ofNat 0, [(.ofNat 1, 1)])), (0, (.ofNat 0, [(.ofNat 1, 2)])), aX], [], [], (.ofNat 4722366482869645214096, [(.negSucc 0, 2)]), [])]
/-- yX2_split 67 -/
theorem kv_12 (w : aWd O I) : conOK O gG I kc_12 := ckMeth_ok w.1 w.2.1 (CL := [kc_6, kc_9, kc_5, kc_10, kc_11]) (cl_cons (kv_6 w) (cl_cons (kv_9 w) (cl_cons (kv_5 w) (cl_cons (kv_10 w) (cl_cons (kv_11 w) (cl_nil)))))) w.2.2 (cuts := kq_12) (inl := gInl) (fuel := 1000000) (row := _) rfl (by decide +kernel)
def kc_13 : aCon := (28, 0, ([(.negSucc 2147483647, .ofNat 2147483647)], []), [(1, (.ofNat 70, [])), (0, (.ofNat 0, [(.ofNat 1, 0)]))], [], [], [(([(.negSucc 2147483647, .ofNat 2147483647), (.negSucc 2147483647, .ofNat 2147483647)], []), (1, (0, (.ofNat 0, [(.ofNat 1, 1)]))), [], 0, 0)])
def kq_13 : List aCut := []
/-- yX11_at 70 _ -/
theorem kv_13 (w : aWd O I) : conOK O gG I kc_13 := ckMeth_ok w.1 w.2.1 (CL := []) (cl_nil) w.2.2 (cuts := kq_13) (inl := gInl) (fuel := 1000000) (row := _) rfl (by decide +kernel)
def kc_14 : aCon := (88, 1, ([], []), [(1, (.ofNat 67, []))], [], [(3, 6, 0, 1)], [(([], []), (1, (0, (.ofNat 0, []))), [], 0, 0)])
def kq_14 : List aCut := []
/-- yX2_fail 67 -/
theorem kv_14 (w : aWd O I) : conOK O gG I kc_14 := ckMeth_ok w.1 w.2.1 (CL := [kc_13]) (cl_cons (kv_13 w) (cl_nil)) w.2.2 (cuts := kq_14) (inl := gInl) (fuel := 1000000) (row := _) rfl (by decide +kernel)
def kc_15 : aCon := (28, 0, ([(.negSucc 2147483647, .ofNat 2147483647)], []), [(1, (.ofNat 69, [])), (0, (.ofNat 0, [(.ofNat 1, 0)]))], [], [], [(([(.negSucc 2147483647, .ofNat 2147483647), (.negSucc 2147483647, .ofNat 2147483647)], []), (1, (0, (.ofNat 0, [(.ofNat 1, 1)]))), [], 0, 0)])
def kq_15 : List aCut := []
/-- yX11_at 69 _ -/
theorem kv_15 (w : aWd O I) : conOK O gG I kc_15 := ckMeth_ok w.1 w.2.1 (CL := []) (cl_nil) w.2.2 (cuts := kq_15) (inl := gInl) (fuel := 1000000) (row := _) rfl (by decide +kernel)
def kc_16 : aCon := (89, 1, ([], []), [(1, (.ofNat 67, []))], [], [(3, 9, 0, 1), (3, 10, 0, 1)], [(([], []), (0, (0, (.ofNat 0, []))), [], 0, 0)])
def kq_16 : List aCut := []
/-- yX2_pass 67 -/
theorem kv_16 (w : aWd O I) : conOK O gG I kc_16 := ckMeth_ok w.1 w.2.1 (CL := [kc_15]) (cl_cons (kv_15 w) (cl_nil)) w.2.2 (cuts := kq_16) (inl := gInl) (fuel := 1000000) (row := _) rfl (by decide +kernel)
def kc_17 : aCon := (14, 0, ([(.negSucc 2147483647, .ofNat 2147483647), (.negSucc 2147483647, .ofNat 2147483647)], []), [(1, (.ofNat 68, [])), (0, (.ofNat 0, [(.ofNat 1, 0)])), (0, (.ofNat 0, [(.ofNat 1, 1)]))], [], [(4, 0, 0, 400)], [(([(.negSucc 2147483647, .ofNat 2147483647), (.negSucc 2147483647, .ofNat 2147483647)], []), (0, (0, (.ofNat 0, []))), [], 0, 0)])
def kq_17 : List aCut := []
/-- yX11_set 68 _ _ -/
theorem kv_17 (w : aWd O I) : conOK O gG I kc_17 := ckMeth_ok w.1 w.2.1 (CL := []) (cl_nil) w.2.2 (cuts := kq_17) (inl := gInl) (fuel := 1000000) (row := _) rfl (by decide +kernel)
def kc_18 : aCon := (90, 1, ([(.negSucc 2147483647, .ofNat 2147483647)], []), [(1, (.ofNat 67, [])), (0, (.ofNat 0, [(.ofNat 1, 0)]))], [], [(4, 0, 0, 400), (3, 4, 0, 1)], [(([(.negSucc 2147483647, .ofNat 2147483647)], []), (0, (0, (.ofNat 0, []))), [], 0, 0)])
def kq_18 : List aCut := []
/-- yX2_emit 67 _ -/
theorem kv_18 (w : aWd O I) : conOK O gG I kc_18 := ckMeth_ok w.1 w.2.1 (CL := [kc_17]) (cl_cons (kv_17 w) (cl_nil)) w.2.2 (cuts := kq_18) (inl := gInl) (fuel := 1000000) (row := _) rfl (by decide +kernel)
def kc_19 : aCon := (96, 2, ([], []), [(1, (.ofNat 67, []))], [], [(3, 6, 0, 1), (3, 9, 0, 1), (3, 10, 0, 1), (4, 0, 0, 400), (3, 4, 0, 1)], [(([], []), (1, (0, (.ofNat 0, []))), [], 0, 0), (([], []), (1, (0, (.ofNat 1, []))), [], 0, 0)])
def kq_19 : List aCut := []
/-- yX2_isKindLine 67 -/
theorem kv_19 (w : aWd O I) : conOK O gG I kc_19 := ckMeth_ok w.1 w.2.1 (CL := [kc_14, kc_16, kc_18]) (cl_cons (kv_14 w) (cl_cons (kv_16 w) (cl_cons (kv_18 w) (cl_nil)))) w.2.2 (cuts := kq_19) (inl := gInl) (fuel := 1000000) (row := _) rfl (by decide +kernel)
def kc_20 : aCon := (91, 0, ([], []), [(1, (.ofNat 67, []))], [], [], [(([], []), (1, (0, (.ofNat 0, []))), [], 0, 0), (([], []), (1, (0, (.ofNat 1, []))), [], 0, 0)])
def kq_20 : List aCut := []
/-- yX2_isFact 67 -/
theorem kv_20 (w : aWd O I) : conOK O gG I kc_20 := ckMeth_ok w.1 w.2.1 (CL := []) (cl_nil) w.2.2 (cuts := kq_20) (inl := gInl) (fuel := 1000000) (row := _) rfl (by decide +kernel)
def kc_21 : aCon := (95, 2, ([], []), [(1, (.ofNat 67, []))], [], [(4, 0, 0, 400), (3, 4, 0, 1), (3, 9, 0, 1), (3, 10, 0, 1), (3, 6, 0, 1)], [(([], []), (1, (0, (.ofNat 0, []))), [], 0, 0), (([], []), (1, (0, (.ofNat 1, []))), [], 0, 0)])
def kq_21 : List aCut := [(2, ([(.ofNat 0, .ofNat 400)], []), [(1, (.ofNat 67, [])), (0, (.ofNat 0, [(.ofNat 1, 0)]))], [], [], (.ofNat 4722366482869645214096, [(.negSucc 0, 0)]), [])]
/-- yX2_isSum 67 -/
theorem kv_21 (w : aWd O I) : conOK O gG I kc_21 := ckMeth_ok w.1 w.2.1 (CL := [kc_18, kc_16, kc_20, kc_14]) (cl_cons (kv_18 w) (cl_cons (kv_16 w) (cl_cons (kv_20 w) (cl_cons (kv_14 w) (cl_nil))))) w.2.2 (cuts := kq_21) (inl := gInl) (fuel := 1000000) (row := _) rfl (by decide +kernel)
def kc_22 : aCon := (93, 3, ([], []), [(1, (.ofNat 67, [])), (0, (.ofNat 6, []))], [], [(3, 6, 0, 1), (4, 0, 0, 400), (3, 4, 0, 1), (3, 9, 0, 1), (3, 10, 0, 1)], [(([], []), (1, (0, (.ofNat 0, []))), [], 0, 0), (([], []), (1, (0, (.ofNat 1, []))), [], 0, 0)])
def kq_22 : List aCut := []
/-- yX2_isAtom 67 6 -/
theorem kv_22 (w : aWd O I) : conOK O gG I kc_22 := ckMeth_ok w.1 w.2.1 (CL := [kc_14, kc_18, kc_16, kc_21]) (cl_cons (kv_14 w) (cl_cons (kv_18 w) (cl_cons (kv_16 w) (cl_cons (kv_21 w) (cl_nil))))) w.2.2 (cuts := kq_22) (inl := gInl) (fuel := 1000000) (row := _) rfl (by decide +kernel)
def kc_23 : aCon := (92, 4, ([], []), [(1, (.ofNat 67, [])), (0, (.ofNat 6, []))], [], [(3, 6, 0, 1), (4, 0, 0, 400), (3, 4, 0, 1), (3, 9, 0, 1), (3, 10, 0, 1)], [(([], []), (1, (0, (.ofNat 0, []))), [], 0, 0), (([], []), (1, (0, (.ofNat 1, []))), [], 0, 0)])
def kq_23 : List aCut := [(14, ([(.ofNat 0, .ofNat 1), (.ofNat 0, .ofNat 400)], []), [(1, (.ofNat 67, [])), (0, (.ofNat 6, [])), (0, (.ofNat 0, [(.ofNat 1, 0)])), (0, (.ofNat 0, [(.ofNat 1, 1)])), aX], [], [], (.ofNat 4722366482869645214096, [(.negSucc 0, 1)]), [])]
/-- yX2_isCondition 67 6 -/
theorem kv_23 (w : aWd O I) : conOK O gG I kc_23 := ckMeth_ok w.1 w.2.1 (CL := [kc_22, kc_16, kc_18]) (cl_cons (kv_22 w) (cl_cons (kv_16 w) (cl_cons (kv_18 w) (cl_nil)))) w.2.2 (cuts := kq_23) (inl := gInl) (fuel := 1000000) (row := _) rfl (by decide +kernel)
def kc_24 : aCon := (94, 5, ([], []), [(1, (.ofNat 67, [])), (0, (.ofNat 6, []))], [], [(3, 9, 0, 1), (3, 10, 0, 1), (3, 6, 0, 1), (4, 0, 0, 400), (3, 4, 0, 1)], [(([], []), (1, (0, (.ofNat 0, []))), [], 0, 0), (([], []), (1, (0, (.ofNat 1, []))), [], 0, 0)])
def kq_24 : List aCut := []
/-- yX2_isNested 67 6 -/
theorem kv_24 (w : aWd O I) : conOK O gG I kc_24 := ckMeth_ok w.1 w.2.1 (CL := [kc_16, kc_23, kc_14, kc_22, kc_18]) (cl_cons (kv_16 w) (cl_cons (kv_23 w) (cl_cons (kv_14 w) (cl_cons (kv_22 w) (cl_cons (kv_18 w) (cl_nil)))))) w.2.2 (cuts := kq_24) (inl := gInl) (fuel := 1000000) (row := _) rfl (by decide +kernel)
def kc_25 : aCon := (93, 6, ([], []), [(1, (.ofNat 67, [])), (0, (.ofNat 5, []))], [], [(3, 9, 0, 1), (3, 10, 0, 1), (3, 6, 0, 1), (4, 0, 0, 400), (3, 4, 0, 1)], [(([], []), (1, (0, (.ofNat 0, []))), [], 0, 0), (([], []), (1, (0, (.ofNat 1, []))), [], 0, 0)])
def kq_25 : List aCut := []
/-- yX2_isAtom 67 5 -/
theorem kv_25 (w : aWd O I) : conOK O gG I kc_25 := ckMeth_ok w.1 w.2.1 (CL := [kc_24, kc_18, kc_16, kc_21, kc_14]) (cl_cons (kv_24 w) (cl_cons (kv_18 w) (cl_cons (kv_16 w) (cl_cons (kv_21 w) (cl_cons (kv_14 w) (cl_nil)))))) w.2.2 (cuts := kq_25) (inl := gInl) (fuel := 1000000) (row := _) rfl (by decide +kernel)
def kc_26 : aCon := (92, 7, ([], []), [(1, (.ofNat 67, [])), (0, (.ofNat 5, []))], [], [(3, 9, 0, 1), (3, 10, 0, 1), (3, 6, 0, 1), (4, 0, 0, 400), (3, 4, 0, 1)], [(([], []), (1, (0, (.ofNat 0, []))), [], 0, 0), (([], []), (1, (0, (.ofNat 1, []))), [], 0, 0)])
def kq_26 : List aCut := [(14, ([(.ofNat 0, .ofNat 1), (.ofNat 0, .ofNat 400)], []), [(1, (.ofNat 67, [])), (0, (.ofNat 5, [])), (0, (.ofNat 0, [(.ofNat 1, 0)])), (0, (.ofNat 0, [(.ofNat 1, 1)])), aX], [], [], (.ofNat 4722366482869645214096, [(.negSucc 0, 1)]), [])]
/-- yX2_isCondition 67 5 -/
theorem kv_26 (w : aWd O I) : conOK O gG I kc_26 := ckMeth_ok w.1 w.2.1 (CL := [kc_25, kc_16, kc_18]) (cl_cons (kv_25 w) (cl_cons (kv_16 w) (cl_cons (kv_18 w) (cl_nil)))) w.2.2 (cuts := kq_26) (inl := gInl) (fuel := 1000000) (row := _) rfl (by decide +kernel)
def kc_27 : aCon := (94, 8, ([], []), [(1, (.ofNat 67, [])), (0, (.ofNat 5, []))], [], [(3, 9, 0, 1), (3, 10, 0, 1), (3, 6, 0, 1), (4, 0, 0, 400), (3, 4, 0, 1)], [(([], []), (1, (0, (.ofNat 0, []))), [], 0, 0), (([], []), (1, (0, (.ofNat 1, []))), [], 0, 0)])
def kq_27 : List aCut := []
/-- yX2_isNested 67 5 -/
theorem kv_27 (w : aWd O I) : conOK O gG I kc_27 := ckMeth_ok w.1 w.2.1 (CL := [kc_16, kc_26, kc_14, kc_25, kc_18]) (cl_cons (kv_16 w) (cl_cons (kv_26 w) (cl_cons (kv_14 w) (cl_cons (kv_25 w) (cl_cons (kv_18 w) (cl_nil)))))) w.2.2 (cuts := kq_27) (inl := gInl) (fuel := 1000000) (row := _) rfl (by decide +kernel)
def kc_28 : aCon := (93, 9, ([], []), [(1, (.ofNat 67, [])), (0, (.ofNat 4, []))], [], [(3, 9, 0, 1), (3, 10, 0, 1), (3, 6, 0, 1), (4, 0, 0, 400), (3, 4, 0, 1)], [(([], []), (1, (0, (.ofNat 0, []))), [], 0, 0), (([], []), (1, (0, (.ofNat 1, []))), [], 0, 0)])
def kq_28 : List aCut := []
/-- yX2_isAtom 67 4 -/
theorem kv_28 (w : aWd O I) : conOK O gG I kc_28 := ckMeth_ok w.1 w.2.1 (CL := [kc_27, kc_18, kc_16, kc_21, kc_14]) (cl_cons (kv_27 w) (cl_cons (kv_18 w) (cl_cons (kv_16 w) (cl_cons (kv_21 w) (cl_cons (kv_14 w) (cl_nil)))))) w.2.2 (cuts := kq_28) (inl := gInl) (fuel := 1000000) (row := _) rfl (by decide +kernel)
def kc_29 : aCon := (92, 10, ([], []), [(1, (.ofNat 67, [])), (0, (.ofNat 4, []))], [], [(3, 9, 0, 1), (3, 10, 0, 1), (3, 6, 0, 1), (4, 0, 0, 400), (3, 4, 0, 1)], [(([], []), (1, (0, (.ofNat 0, []))), [], 0, 0), (([], []), (1, (0, (.ofNat 1, []))), [], 0, 0)])
def kq_29 : List aCut := [(14, ([(.ofNat 0, .ofNat 1), (.ofNat 0, .ofNat 400)], []), [(1, (.ofNat 67, [])), (0, (.ofNat 4, [])), (0, (.ofNat 0, [(.ofNat 1, 0)])), (0, (.ofNat 0, [(.ofNat 1, 1)])), aX], [], [], (.ofNat 4722366482869645214096, [(.negSucc 0, 1)]), [])]
/-- yX2_isCondition 67 4 -/
theorem kv_29 (w : aWd O I) : conOK O gG I kc_29 := ckMeth_ok w.1 w.2.1 (CL := [kc_28, kc_16, kc_18]) (cl_cons (kv_28 w) (cl_cons (kv_16 w) (cl_cons (kv_18 w) (cl_nil)))) w.2.2 (cuts := kq_29) (inl := gInl) (fuel := 1000000) (row := _) rfl (by decide +kernel)
def kc_30 : aCon := (94, 11, ([], []), [(1, (.ofNat 67, [])), (0, (.ofNat 4, []))], [], [(3, 9, 0, 1), (3, 10, 0, 1), (3, 6, 0, 1), (4, 0, 0, 400), (3, 4, 0, 1)], [(([], []), (1, (0, (.ofNat 0, []))), [], 0, 0), (([], []), (1, (0, (.ofNat 1, []))), [], 0, 0)])
def kq_30 : List aCut := []
/-- yX2_isNested 67 4 -/
theorem kv_30 (w : aWd O I) : conOK O gG I kc_30 := ckMeth_ok w.1 w.2.1 (CL := [kc_16, kc_29, kc_14, kc_28, kc_18]) (cl_cons (kv_16 w) (cl_cons (kv_29 w) (cl_cons (kv_14 w) (cl_cons (kv_28 w) (cl_cons (kv_18 w) (cl_nil)))))) w.2.2 (cuts := kq_30) (inl := gInl) (fuel := 1000000) (row := _) rfl (by decide +kernel)
def kc_31 : aCon := (93, 12, ([], []), [(1, (.ofNat 67, [])), (0, (.ofNat 3, []))], [], [(3, 9, 0, 1), (3, 10, 0, 1), (3, 6, 0, 1), (4, 0, 0, 400), (3, 4, 0, 1)], [(([], []), (1, (0, (.ofNat 0, []))), [], 0, 0), (([], []), (1, (0, (.ofNat 1, []))), [], 0, 0)])
def kq_31 : List aCut := []
/-- yX2_isAtom 67 3 -/
theorem kv_31 (w : aWd O I) : conOK O gG I kc_31 := ckMeth_ok w.1 w.2.1 (CL := [kc_30, kc_18, kc_16, kc_21, kc_14]) (cl_cons (kv_30 w) (cl_cons (kv_18 w) (cl_cons (kv_16 w) (cl_cons (kv_21 w) (cl_cons (kv_14 w) (cl_nil)))))) w.2.2 (cuts := kq_31) (inl := gInl) (fuel := 1000000) (row := _) rfl (by decide +kernel)
def kc_32 : aCon := (92, 13, ([], []), [(1, (.ofNat 67, [])), (0, (.ofNat 3, []))], [], [(3, 9, 0, 1), (3, 10, 0, 1), (3, 6, 0, 1), (4, 0, 0, 400), (3, 4, 0, 1)], [(([], []), (1, (0, (.ofNat 0, []))), [], 0, 0), (([], []), (1, (0, (.ofNat 1, []))), [], 0, 0)])
def kq_32 : List aCut := [(14, ([(.ofNat 0, .ofNat 1), (.ofNat 0, .ofNat 400)], []), [(1, (.ofNat 67, [])), (0, (.ofNat 3, [])), (0, (.ofNat 0, [(.ofNat 1, 0)])), (0, (.ofNat 0, [(.ofNat 1, 1)])), aX], [], [], (.ofNat 4722366482869645214096, [(.negSucc 0, 1)]), [])]
/-- yX2_isCondition 67 3 -/
theorem kv_32 (w : aWd O I) : conOK O gG I kc_32 := ckMeth_ok w.1 w.2.1 (CL := [kc_31, kc_16, kc_18]) (cl_cons (kv_31 w) (cl_cons (kv_16 w) (cl_cons (kv_18 w) (cl_nil)))) w.2.2 (cuts := kq_32) (inl := gInl) (fuel := 1000000) (row := _) rfl (by decide +kernel)
def kc_33 : aCon := (94, 14, ([], []), [(1, (.ofNat 67, [])), (0, (.ofNat 3, []))], [], [(3, 9, 0, 1), (3, 10, 0, 1), (3, 6, 0, 1), (4, 0, 0, 400), (3, 4, 0, 1)], [(([], []), (1, (0, (.ofNat 0, []))), [], 0, 0), (([], []), (1, (0, (.ofNat 1, []))), [], 0, 0)])
def kq_33 : List aCut := []
/-- yX2_isNested 67 3 -/
theorem kv_33 (w : aWd O I) : conOK O gG I kc_33 := ckMeth_ok w.1 w.2.1 (CL := [kc_16, kc_32, kc_14, kc_31, kc_18]) (cl_cons (kv_16 w) (cl_cons (kv_32 w) (cl_cons (kv_14 w) (cl_cons (kv_31 w) (cl_cons (kv_18 w) (cl_nil)))))) w.2.2 (cuts := kq_33) (inl := gInl) (fuel := 1000000) (row := _) rfl (by decide +kernel)
def kc_34 : aCon := (93, 15, ([], []), [(1, (.ofNat 67, [])), (0, (.ofNat 2, []))], [], [(3, 9, 0, 1), (3, 10, 0, 1), (3, 6, 0, 1), (4, 0, 0, 400), (3, 4, 0, 1)], [(([], []), (1, (0, (.ofNat 0, []))), [], 0, 0), (([], []), (1, (0, (.ofNat 1, []))), [], 0, 0)])
def kq_34 : List aCut := []
/-- yX2_isAtom 67 2 -/
theorem kv_34 (w : aWd O I) : conOK O gG I kc_34 := ckMeth_ok w.1 w.2.1 (CL := [kc_33, kc_18, kc_16, kc_21, kc_14]) (cl_cons (kv_33 w) (cl_cons (kv_18 w) (cl_cons (kv_16 w) (cl_cons (kv_21 w) (cl_cons (kv_14 w) (cl_nil)))))) w.2.2 (cuts := kq_34) (inl := gInl) (fuel := 1000000) (row := _) rfl (by decide +kernel)
def kc_35 : aCon := (92, 16, ([], []), [(1, (.ofNat 67, [])), (0, (.ofNat 2, []))], [], [(3, 9, 0, 1), (3, 10, 0, 1), (3, 6, 0, 1), (4, 0, 0, 400), (3, 4, 0, 1)], [(([], []), (1, (0, (.ofNat 0, []))), [], 0, 0), (([], []), (1, (0, (.ofNat 1, []))), [], 0, 0)])
def kq_35 : List aCut := [(14, ([(.ofNat 0, .ofNat 1), (.ofNat 0, .ofNat 400)], []), [(1, (.ofNat 67, [])), (0, (.ofNat 2, [])), (0, (.ofNat 0, [(.ofNat 1, 0)])), (0, (.ofNat 0, [(.ofNat 1, 1)])), aX], [], [], (.ofNat 4722366482869645214096, [(.negSucc 0, 1)]), [])]
/-- yX2_isCondition 67 2 -/
theorem kv_35 (w : aWd O I) : conOK O gG I kc_35 := ckMeth_ok w.1 w.2.1 (CL := [kc_34, kc_16, kc_18]) (cl_cons (kv_34 w) (cl_cons (kv_16 w) (cl_cons (kv_18 w) (cl_nil)))) w.2.2 (cuts := kq_35) (inl := gInl) (fuel := 1000000) (row := _) rfl (by decide +kernel)
def kc_36 : aCon := (94, 17, ([], []), [(1, (.ofNat 67, [])), (0, (.ofNat 2, []))], [], [(3, 9, 0, 1), (3, 10, 0, 1), (3, 6, 0, 1), (4, 0, 0, 400), (3, 4, 0, 1)], [(([], []), (1, (0, (.ofNat 0, []))), [], 0, 0), (([], []), (1, (0, (.ofNat 1, []))), [], 0, 0)])
def kq_36 : List aCut := []
/-- yX2_isNested 67 2 -/
theorem kv_36 (w : aWd O I) : conOK O gG I kc_36 := ckMeth_ok w.1 w.2.1 (CL := [kc_16, kc_35, kc_14, kc_34, kc_18]) (cl_cons (kv_16 w) (cl_cons (kv_35 w) (cl_cons (kv_14 w) (cl_cons (kv_34 w) (cl_cons (kv_18 w) (cl_nil)))))) w.2.2 (cuts := kq_36) (inl := gInl) (fuel := 1000000) (row := _) rfl (by decide +kernel)
def kc_37 : aCon := (93, 18, ([], []), [(1, (.ofNat 67, [])), (0, (.ofNat 1, []))], [], [(3, 9, 0, 1), (3, 10, 0, 1), (3, 6, 0, 1), (4, 0, 0, 400), (3, 4, 0, 1)], [(([], []), (1, (0, (.ofNat 0, []))), [], 0, 0), (([], []), (1, (0, (.ofNat 1, []))), [], 0, 0)])
def kq_37 : List aCut := []
/-- yX2_isAtom 67 1 -/
theorem kv_37 (w : aWd O I) : conOK O gG I kc_37 := ckMeth_ok w.1 w.2.1 (CL := [kc_36, kc_18, kc_16, kc_21, kc_14]) (cl_cons (kv_36 w) (cl_cons (kv_18 w) (cl_cons (kv_16 w) (cl_cons (kv_21 w) (cl_cons (kv_14 w) (cl_nil)))))) w.2.2 (cuts := kq_37) (inl := gInl) (fuel := 1000000) (row := _) rfl (by decide +kernel)
def kc_38 : aCon := (92, 19, ([], []), [(1, (.ofNat 67, [])), (0, (.ofNat 1, []))], [], [(3, 9, 0, 1), (3, 10, 0, 1), (3, 6, 0, 1), (4, 0, 0, 400), (3, 4, 0, 1)], [(([], []), (1, (0, (.ofNat 0, []))), [], 0, 0), (([], []), (1, (0, (.ofNat 1, []))), [], 0, 0)])
def kq_38 : List aCut := [(14, ([(.ofNat 0, .ofNat 1), (.ofNat 0, .ofNat 400)], []), [(1, (.ofNat 67, [])), (0, (.ofNat 1, [])), (0, (.ofNat 0, [(.ofNat 1, 0)])), (0, (.ofNat 0, [(.ofNat 1, 1)])), aX], [], [], (.ofNat 4722366482869645214096, [(.negSucc 0, 1)]), [])]
/-- yX2_isCondition 67 1 -/
theorem kv_38 (w : aWd O I) : conOK O gG I kc_38 := ckMeth_ok w.1 w.2.1 (CL := [kc_37, kc_16, kc_18]) (cl_cons (kv_37 w) (cl_cons (kv_16 w) (cl_cons (kv_18 w) (cl_nil)))) w.2.2 (cuts := kq_38) (inl := gInl) (fuel := 1000000) (row := _) rfl (by decide +kernel)
def kc_39 : aCon := (94, 20, ([], []), [(1, (.ofNat 67, [])), (0, (.ofNat 1, []))], [], [(3, 9, 0, 1), (3, 10, 0, 1), (3, 6, 0, 1), (4, 0, 0, 400), (3, 4, 0, 1)], [(([], []), (1, (0, (.ofNat 0, []))), [], 0, 0), (([], []), (1, (0, (.ofNat 1, []))), [], 0, 0)])
def kq_39 : List aCut := []
/-- yX2_isNested 67 1 -/
theorem kv_39 (w : aWd O I) : conOK O gG I kc_39 := ckMeth_ok w.1 w.2.1 (CL := [kc_16, kc_38, kc_14, kc_37, kc_18]) (cl_cons (kv_16 w) (cl_cons (kv_38 w) (cl_cons (kv_14 w) (cl_cons (kv_37 w) (cl_cons (kv_18 w) (cl_nil)))))) w.2.2 (cuts := kq_39) (inl := gInl) (fuel := 1000000) (row := _) rfl (by decide +kernel)
def kc_40 : aCon := (93, 21, ([], []), [(1, (.ofNat 67, [])), (0, (.ofNat 0, []))], [], [(3, 9, 0, 1), (3, 10, 0, 1), (3, 6, 0, 1), (4, 0, 0, 400), (3, 4, 0, 1)], [(([], []), (1, (0, (.ofNat 0, []))), [], 0, 0), (([], []), (1, (0, (.ofNat 1, []))), [], 0, 0)])
def kq_40 : List aCut := []
/-- yX2_isAtom 67 0 -/
theorem kv_40 (w : aWd O I) : conOK O gG I kc_40 := ckMeth_ok w.1 w.2.1 (CL := [kc_39, kc_18, kc_16, kc_21, kc_14]) (cl_cons (kv_39 w) (cl_cons (kv_18 w) (cl_cons (kv_16 w) (cl_cons (kv_21 w) (cl_cons (kv_14 w) (cl_nil)))))) w.2.2 (cuts := kq_40) (inl := gInl) (fuel := 1000000) (row := _) rfl (by decide +kernel)
def kc_41 : aCon := (92, 22, ([], []), [(1, (.ofNat 67, [])), (0, (.ofNat 0, []))], [], [(3, 9, 0, 1), (3, 10, 0, 1), (3, 6, 0, 1), (4, 0, 0, 400), (3, 4, 0, 1)], [(([], []), (1, (0, (.ofNat 0, []))), [], 0, 0), (([], []), (1, (0, (.ofNat 1, []))), [], 0, 0)])
def kq_41 : List aCut := [(14, ([(.ofNat 0, .ofNat 1), (.ofNat 0, .ofNat 400)], []), [(1, (.ofNat 67, [])), (0, (.ofNat 0, [])), (0, (.ofNat 0, [(.ofNat 1, 0)])), (0, (.ofNat 0, [(.ofNat 1, 1)])), aX], [], [], (.ofNat 4722366482869645214096, [(.negSucc 0, 1)]), [])]
/-- yX2_isCondition 67 0 -/
theorem kv_41 (w : aWd O I) : conOK O gG I kc_41 := ckMeth_ok w.1 w.2.1 (CL := [kc_40, kc_16, kc_18]) (cl_cons (kv_40 w) (cl_cons (kv_16 w) (cl_cons (kv_18 w) (cl_nil)))) w.2.2 (cuts := kq_41) (inl := gInl) (fuel := 1000000) (row := _) rfl (by decide +kernel)
def kc_42 : aCon := (87, 23, ([], []), [(1, (.ofNat 67, []))], [], [(3, 9, 0, 1), (3, 10, 0, 1), (4, 0, 0, 400), (3, 4, 0, 1), (3, 6, 0, 1)], [(([], []), (1, (0, (.ofNat 1, []))), [], 0, 0), (([], []), (1, (0, (.ofNat 0, []))), [], 0, 0)])
def kq_42 : List aCut := []
/-- yX2_isMeasureLine 67 -/
theorem kv_42 (w : aWd O I) : conOK O gG I kc_42 := ckMeth_ok w.1 w.2.1 (CL := [kc_16, kc_18, kc_41, kc_20, kc_14]) (cl_cons (kv_16 w) (cl_cons (kv_18 w) (cl_cons (kv_41 w) (cl_cons (kv_20 w) (cl_cons (kv_14 w) (cl_nil)))))) w.2.2 (cuts := kq_42) (inl := gInl) (fuel := 1000000) (row := _) rfl (by decide +kernel)
def kc_43 : aCon := (79, 24, ([(.negSucc 2147483647, .ofNat 2147483647)], []), [(1, (.ofNat 67, [])), (0, (.ofNat 0, [(.ofNat 1, 0)]))], [], [(3, 4, 0, 1), (3, 5, 0, 1), (3, 6, 0, 1), (3, 9, 0, 1), (3, 10, 0, 1), (6, 0, 0, 401), (5, 0, 0, 401), (4, 0, 0, 400)], [(([(.negSucc 2147483647, .ofNat 2147483647)], []), (1, (0, (.ofNat 1, []))), [], 0, 0), (([(.negSucc 2147483647, .ofNat 2147483647)], []), (1, (0, (.ofNat 0, []))), [], 0, 0)])
def kq_43 : List aCut := [(45, ([(.negSucc 2147483647, .ofNat 2147483647), (.ofNat 6, .ofNat 10), (.ofNat 0, .ofNat 10)], []), [(1, (.ofNat 67, [])), (0, (.ofNat 0, [(.ofNat 1, 0)])), (0, (.ofNat 0, [(.ofNat 1, 1)])), (0, (.ofNat 0, [(.ofNat 1, 2)])), aX], [], [], (.ofNat 4722366482869645213706, [(.negSucc 0, 2)]), [])]
/-- yX2_reads 67 _ -/
theorem kv_43 (w : aWd O I) : conOK O gG I kc_43 := ckMeth_ok w.1 w.2.1 (CL := [kc_12, kc_19, kc_16, kc_14, kc_42]) (cl_cons (kv_12 w) (cl_cons (kv_19 w) (cl_cons (kv_16 w) (cl_cons (kv_14 w) (cl_cons (kv_42 w) (cl_nil)))))) w.2.2 (cuts := kq_43) (inl := gInl) (fuel := 1000000) (row := _) rfl (by decide +kernel)
def kc_44 : aCon := (97, 0, ([], []), [(1, (.ofNat 64, []))], [], [(0, 10, 0, 1), (1, 3, 0, 1)], [(([], []), (0, (0, (.ofNat 0, []))), [], 0, 0)])
def kq_44 : List aCut := []
/-- yX11_useTapeUp 64 -/
theorem kv_44 (w : aWd O I) : conOK O gG I kc_44 := ckMeth_ok w.1 w.2.1 (CL := []) (cl_nil) w.2.2 (cuts := kq_44) (inl := gInl) (fuel := 1000000) (row := _) rfl (by decide +kernel)
def kc_45 : aCon := (14, 0, ([(.negSucc 2147483647, .ofNat 2147483647), (.negSucc 2147483647, .ofNat 2147483647)], []), [(1, (.ofNat 72, [])), (0, (.ofNat 0, [(.ofNat 1, 0)])), (0, (.ofNat 0, [(.ofNat 1, 1)]))], [], [(8, 0, 0, 5)], [(([(.negSucc 2147483647, .ofNat 2147483647), (.negSucc 2147483647, .ofNat 2147483647)], []), (0, (0, (.ofNat 0, []))), [], 0, 0)])
def kq_45 : List aCut := []
/-- yX11_set 72 _ _ -/
theorem kv_45 (w : aWd O I) : conOK O gG I kc_45 := ckMeth_ok w.1 w.2.1 (CL := []) (cl_nil) w.2.2 (cuts := kq_45) (inl := gInl) (fuel := 1000000) (row := _) rfl (by decide +kernel)
def kc_46 : aCon := (14, 0, ([(.negSucc 2147483647, .ofNat 2147483647), (.negSucc 2147483647, .ofNat 2147483647)], []), [(1, (.ofNat 73, [])), (0, (.ofNat 0, [(.ofNat 1, 0)])), (0, (.ofNat 0, [(.ofNat 1, 1)]))], [], [(9, 0, 0, 5)], [(([(.negSucc 2147483647, .ofNat 2147483647), (.negSucc 2147483647, .ofNat 2147483647)], []), (0, (0, (.ofNat 0, []))), [], 0, 0)])
def kq_46 : List aCut := []
/-- yX11_set 73 _ _ -/
theorem kv_46 (w : aWd O I) : conOK O gG I kc_46 := ckMeth_ok w.1 w.2.1 (CL := []) (cl_nil) w.2.2 (cuts := kq_46) (inl := gInl) (fuel := 1000000) (row := _) rfl (by decide +kernel)
def kc_47 : aCon := (14, 0, ([(.negSucc 2147483647, .ofNat 2147483647), (.negSucc 2147483647, .ofNat 2147483647)], []), [(1, (.ofNat 74, [])), (0, (.ofNat 0, [(.ofNat 1, 0)])), (0, (.ofNat 0, [(.ofNat 1, 1)]))], [], [(10, 0, 0, 60)], [(([(.negSucc 2147483647, .ofNat 2147483647), (.negSucc 2147483647, .ofNat 2147483647)], []), (0, (0, (.ofNat 0, []))), [], 0, 0)])
def kq_47 : List aCut := []
/-- yX11_set 74 _ _ -/
theorem kv_47 (w : aWd O I) : conOK O gG I kc_47 := ckMeth_ok w.1 w.2.1 (CL := []) (cl_nil) w.2.2 (cuts := kq_47) (inl := gInl) (fuel := 1000000) (row := _) rfl (by decide +kernel)
def kc_48 : aCon := (98, 1, ([(.negSucc 2147483647, .ofNat 2147483647)], []), [(1, (.ofNat 71, [])), (0, (.ofNat 0, [(.ofNat 1, 0)])), (1, (.ofNat 67, []))], [], [(8, 0, 0, 5), (9, 0, 0, 5), (10, 0, 0, 60), (7, 2, 0, 1)], [(([(.negSucc 2147483647, .ofNat 2147483647)], []), (0, (0, (.ofNat 0, []))), [], 0, 0)])
def kq_48 : List aCut := [(29, ([(.negSucc 2147483647, .ofNat 2147483647), (.ofNat 0, .ofNat 12)], []), [(1, (.ofNat 71, [])), aX, (1, (.ofNat 67, [])), (0, (.ofNat 0, [(.ofNat 1, 1)]))], [], [], (.ofNat 4722366482869645213708, [(.negSucc 0, 1)]), [])]
/-- yX1_addKind 71 _ 67 -/
theorem kv_48 (w : aWd O I) : conOK O gG I kc_48 := ckMeth_ok w.1 w.2.1 (CL := [kc_45, kc_46, kc_47]) (cl_cons (kv_45 w) (cl_cons (kv_46 w) (cl_cons (kv_47 w) (cl_nil)))) w.2.2 (cuts := kq_48) (inl := gInl) (fuel := 1000000) (row := _) rfl (by decide +kernel)
end
