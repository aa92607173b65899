/-! the words of MEASURE's text, by the checker; blanks, letters, numbers, signs -/
def iswC (k : Nat) : aCon := (180, 1, ([], []), [(1, (.ofNat 143, [])), (1, (.ofNat k, []))], [], [], [(([], []), (1, (0, (.ofNat 0, []))), [], 0, 0), (([(.ofNat 0, .ofNat 400), (.ofNat 0, .ofNat 400)], [(.negSucc 0, [(.negSucc 0, 0), (.ofNat 1, 1)])]), (1, (0, (.ofNat 1, []))), [(79, 10, (.ofNat 0, []), (.ofNat 0, [(.ofNat 1, 0)])), (79, 8, (.ofNat 0, []), (.ofNat 0, [(.ofNat 1, 1)]))], 0, 0)])
def iswQ (k l : Nat) : List aCut := [(24, ([(.ofNat 0, .ofNat l), (.ofNat 0, .ofNat 400), (.ofNat 0, .ofNat 400)], []), [(1, (.ofNat 143, [])), (1, (.ofNat k, [])), (0, (.ofNat 0, [])), (0, (.ofNat 0, [(.ofNat 1, 0)]))], [], [(79, 10, (.ofNat 0, []), (.ofNat 0, [(.ofNat 1, 1)])), (79, 8, (.ofNat 0, []), (.ofNat 0, [(.ofNat 1, 2)]))], (.ofNat (4722366482869645213696 + l), [(.negSucc 0, 0)]), [(143, 12, 6), (143, 12, 8)]),
  (24, ([(.ofNat 0, .ofNat l), (.ofNat 0, .ofNat (400 - l)), (.ofNat l, .ofNat 400)], [(.negSucc (l - 1), [(.negSucc 0, 1), (.ofNat 1, 2)]), (.ofNat l, [(.ofNat 1, 1), (.negSucc 0, 2)])]), [(1, (.ofNat 143, [])), (1, (.ofNat k, [])), (0, (.ofNat 1, [])), (0, (.ofNat 0, [(.ofNat 1, 0)]))], [], [(79, 10, (.ofNat 0, []), (.ofNat 0, [(.ofNat 1, 1)])), (79, 8, (.ofNat 0, []), (.ofNat 0, [(.ofNat 1, 2)]))], (.ofNat (4722366482869645213696 + l), [(.negSucc 0, 0)]), [(143, 12, 6), (143, 12, 8)])]
def wrds : List Nat := [39, 40, 41, 42, 43, 44, 45, 46, 47, 48, 49]
def wordsOK (O : pOut) : Prop := ∀ k, k ∈ wrds → conOK O gG (fun _ => True) (iswC k)
section
variable {O : pOut} {I : PH → Prop}
theorem kw_39 (w : aWd O I) : conOK O gG I (iswC 39) := ckMeth_ok w.1 w.2.1 (CL := []) (cl_nil) w.2.2 (cuts := iswQ 39 3) (inl := gInl) (fuel := 1000000) (row := _) rfl (by decide +kernel)
theorem kw_40 (w : aWd O I) : conOK O gG I (iswC 40) := ckMeth_ok w.1 w.2.1 (CL := []) (cl_nil) w.2.2 (cuts := iswQ 40 4) (inl := gInl) (fuel := 1000000) (row := _) rfl (by decide +kernel)
theorem kw_41 (w : aWd O I) : conOK O gG I (iswC 41) := ckMeth_ok w.1 w.2.1 (CL := []) (cl_nil) w.2.2 (cuts := iswQ 41 5) (inl := gInl) (fuel := 1000000) (row := _) rfl (by decide +kernel)
theorem kw_42 (w : aWd O I) : conOK O gG I (iswC 42) := ckMeth_ok w.1 w.2.1 (CL := []) (cl_nil) w.2.2 (cuts := iswQ 42 6) (inl := gInl) (fuel := 1000000) (row := _) rfl (by decide +kernel)
theorem kw_43 (w : aWd O I) : conOK O gG I (iswC 43) := ckMeth_ok w.1 w.2.1 (CL := []) (cl_nil) w.2.2 (cuts := iswQ 43 3) (inl := gInl) (fuel := 1000000) (row := _) rfl (by decide +kernel)
theorem kw_44 (w : aWd O I) : conOK O gG I (iswC 44) := ckMeth_ok w.1 w.2.1 (CL := []) (cl_nil) w.2.2 (cuts := iswQ 44 2) (inl := gInl) (fuel := 1000000) (row := _) rfl (by decide +kernel)
theorem kw_45 (w : aWd O I) : conOK O gG I (iswC 45) := ckMeth_ok w.1 w.2.1 (CL := []) (cl_nil) w.2.2 (cuts := iswQ 45 3) (inl := gInl) (fuel := 1000000) (row := _) rfl (by decide +kernel)
theorem kw_46 (w : aWd O I) : conOK O gG I (iswC 46) := ckMeth_ok w.1 w.2.1 (CL := []) (cl_nil) w.2.2 (cuts := iswQ 46 5) (inl := gInl) (fuel := 1000000) (row := _) rfl (by decide +kernel)
theorem kw_47 (w : aWd O I) : conOK O gG I (iswC 47) := ckMeth_ok w.1 w.2.1 (CL := []) (cl_nil) w.2.2 (cuts := iswQ 47 4) (inl := gInl) (fuel := 1000000) (row := _) rfl (by decide +kernel)
theorem kw_48 (w : aWd O I) : conOK O gG I (iswC 48) := ckMeth_ok w.1 w.2.1 (CL := []) (cl_nil) w.2.2 (cuts := iswQ 48 3) (inl := gInl) (fuel := 1000000) (row := _) rfl (by decide +kernel)
theorem kw_49 (w : aWd O I) : conOK O gG I (iswC 49) := ckMeth_ok w.1 w.2.1 (CL := []) (cl_nil) w.2.2 (cuts := iswQ 49 2) (inl := gInl) (fuel := 1000000) (row := _) rfl (by decide +kernel)
end
theorem words_ok {O : pOut} (w : aWd O (fun _ => True)) : wordsOK O := by
  intro k hk
  simp only [wrds, List.mem_cons, List.not_mem_nil, or_false] at hk
  rcases hk with rfl | rfl | rfl | rfl | rfl | rfl | rfl | rfl | rfl | rfl | rfl
  · exact kw_39 w
  · exact kw_40 w
  · exact kw_41 w
  · exact kw_42 w
  · exact kw_43 w
  · exact kw_44 w
  · exact kw_45 w
  · exact kw_46 w
  · exact kw_47 w
  · exact kw_48 w
  · exact kw_49 w
theorem i_175_0 : iRow 175 0 = some (.aload_n 0, 0, 0, 0, (some (Jvm.ClassFile.FieldType.int))) := rfl
theorem i_175_1 : iRow 175 1 = some (.aload_n 0, 0, 0, 0, (some (Jvm.ClassFile.FieldType.int))) := rfl
theorem i_175_2 : iRow 175 2 = some (.getfield 118, 169, 12, 5, (some (Jvm.ClassFile.FieldType.int))) := rfl
theorem i_175_5 : iRow 175 5 = some (.putfield 124, 171, 12, 7, (some (Jvm.ClassFile.FieldType.int))) := rfl
theorem i_175_8 : iRow 175 8 = some (.aload_n 0, 0, 0, 0, (some (Jvm.ClassFile.FieldType.int))) := rfl
theorem i_175_9 : iRow 175 9 = some (.iconst 0, 0, 0, 0, (some (Jvm.ClassFile.FieldType.int))) := rfl
theorem i_175_10 : iRow 175 10 = some (.putfield 118, 169, 12, 5, (some (Jvm.ClassFile.FieldType.int))) := rfl
theorem i_175_13 : iRow 175 13 = some (.aload_n 0, 0, 0, 0, (some (Jvm.ClassFile.FieldType.int))) := rfl
theorem i_175_14 : iRow 175 14 = some (.iconst 0, 0, 0, 0, (some (Jvm.ClassFile.FieldType.int))) := rfl
theorem i_175_15 : iRow 175 15 = some (.putfield 121, 170, 12, 6, (some (Jvm.ClassFile.FieldType.int))) := rfl
theorem i_175_18 : iRow 175 18 = some (.aload_n 0, 0, 0, 0, (some (Jvm.ClassFile.FieldType.int))) := rfl
theorem i_175_19 : iRow 175 19 = some (.iconst 0, 0, 0, 0, (some (Jvm.ClassFile.FieldType.int))) := rfl
theorem i_175_20 : iRow 175 20 = some (.putfield 153, 176, 12, 12, (some (Jvm.ClassFile.FieldType.int))) := rfl
theorem i_175_23 : iRow 175 23 = some (.aload_n 0, 0, 0, 0, (some (Jvm.ClassFile.FieldType.int))) := rfl
theorem i_175_24 : iRow 175 24 = some (.invokevirtual 133, 263, 176, 1, (some (Jvm.ClassFile.FieldType.int))) := rfl
theorem i_175_27 : iRow 175 27 = some (.aload_n 0, 0, 0, 0, (some (Jvm.ClassFile.FieldType.int))) := rfl
theorem i_175_28 : iRow 175 28 = some (.getfield 121, 170, 12, 6, (some (Jvm.ClassFile.FieldType.int))) := rfl
theorem i_175_31 : iRow 175 31 = some (.aload_n 0, 0, 0, 0, (some (Jvm.ClassFile.FieldType.int))) := rfl
theorem i_175_32 : iRow 175 32 = some (.getfield 124, 171, 12, 7, (some (Jvm.ClassFile.FieldType.int))) := rfl
theorem i_175_35 : iRow 175 35 = some (.if_icmp .ne 5, 0, 0, 0, (some (Jvm.ClassFile.FieldType.int))) := rfl
theorem i_175_38 : iRow 175 38 = some (.iconst 0, 0, 0, 0, (some (Jvm.ClassFile.FieldType.int))) := rfl
theorem i_175_39 : iRow 175 39 = some (.ireturn, 0, 0, 0, (some (Jvm.ClassFile.FieldType.int))) := rfl
theorem i_175_40 : iRow 175 40 = some (.iconst 0, 0, 0, 0, (some (Jvm.ClassFile.FieldType.int))) := rfl
theorem i_175_41 : iRow 175 41 = some (.istore_n 2, 0, 0, 0, (some (Jvm.ClassFile.FieldType.int))) := rfl
theorem i_175_42 : iRow 175 42 = some (.aload_n 0, 0, 0, 0, (some (Jvm.ClassFile.FieldType.int))) := rfl
theorem i_175_43 : iRow 175 43 = some (.invokevirtual 146, 265, 178, 1, (some (Jvm.ClassFile.FieldType.int))) := rfl
theorem i_175_46 : iRow 175 46 = some (.iload_n 2, 0, 0, 0, (some (Jvm.ClassFile.FieldType.int))) := rfl
theorem i_175_47 : iRow 175 47 = some (.iload_n 1, 0, 0, 0, (some (Jvm.ClassFile.FieldType.int))) := rfl
theorem i_175_48 : iRow 175 48 = some (.ifCond .eq 8, 0, 0, 0, (some (Jvm.ClassFile.FieldType.int))) := rfl
theorem i_175_56 : iRow 175 56 = some (.bipush 10, 0, 0, 0, (some (Jvm.ClassFile.FieldType.int))) := rfl
theorem i_175_58 : iRow 175 58 = some (.if_icmp .ne 5, 0, 0, 0, (some (Jvm.ClassFile.FieldType.int))) := rfl
theorem i_175_61 : iRow 175 61 = some (.iconst (-1), 0, 0, 0, (some (Jvm.ClassFile.FieldType.int))) := rfl
theorem i_175_62 : iRow 175 62 = some (.ireturn, 0, 0, 0, (some (Jvm.ClassFile.FieldType.int))) := rfl
theorem i_175_63 : iRow 175 63 = some (.iload_n 1, 0, 0, 0, (some (Jvm.ClassFile.FieldType.int))) := rfl
theorem i_175_64 : iRow 175 64 = some (.ifCond .eq 14, 0, 0, 0, (some (Jvm.ClassFile.FieldType.int))) := rfl
theorem i_175_78 : iRow 175 78 = some (.aload_n 0, 0, 0, 0, (some (Jvm.ClassFile.FieldType.int))) := rfl
theorem i_175_79 : iRow 175 79 = some (.iload_n 2, 0, 0, 0, (some (Jvm.ClassFile.FieldType.int))) := rfl
theorem i_175_80 : iRow 175 80 = some (.invokevirtual 228, 271, 182, 1, (some (Jvm.ClassFile.FieldType.int))) := rfl
theorem i_175_83 : iRow 175 83 = some (.ifCond .ne 5, 0, 0, 0, (some (Jvm.ClassFile.FieldType.int))) := rfl
theorem i_175_86 : iRow 175 86 = some (.iconst (-1), 0, 0, 0, (some (Jvm.ClassFile.FieldType.int))) := rfl
theorem i_175_87 : iRow 175 87 = some (.ireturn, 0, 0, 0, (some (Jvm.ClassFile.FieldType.int))) := rfl
theorem i_175_88 : iRow 175 88 = some (.aload_n 0, 0, 0, 0, (some (Jvm.ClassFile.FieldType.int))) := rfl
theorem i_175_89 : iRow 175 89 = some (.invokevirtual 133, 263, 176, 1, (some (Jvm.ClassFile.FieldType.int))) := rfl
theorem i_175_92 : iRow 175 92 = some (.aload_n 0, 0, 0, 0, (some (Jvm.ClassFile.FieldType.int))) := rfl
theorem i_175_93 : iRow 175 93 = some (.getfield 121, 170, 12, 6, (some (Jvm.ClassFile.FieldType.int))) := rfl
theorem i_175_96 : iRow 175 96 = some (.aload_n 0, 0, 0, 0, (some (Jvm.ClassFile.FieldType.int))) := rfl
theorem i_175_97 : iRow 175 97 = some (.getfield 124, 171, 12, 7, (some (Jvm.ClassFile.FieldType.int))) := rfl
theorem i_175_100 : iRow 175 100 = some (.if_icmp .ne 7, 0, 0, 0, (some (Jvm.ClassFile.FieldType.int))) := rfl
theorem i_175_103 : iRow 175 103 = some (.iload_n 2, 0, 0, 0, (some (Jvm.ClassFile.FieldType.int))) := rfl
theorem i_175_104 : iRow 175 104 = some (.iconst 1, 0, 0, 0, (some (Jvm.ClassFile.FieldType.int))) := rfl
theorem i_175_105 : iRow 175 105 = some (.iadd, 0, 0, 0, (some (Jvm.ClassFile.FieldType.int))) := rfl
theorem i_175_106 : iRow 175 106 = some (.ireturn, 0, 0, 0, (some (Jvm.ClassFile.FieldType.int))) := rfl
theorem i_175_107 : iRow 175 107 = some (.aload_n 0, 0, 0, 0, (some (Jvm.ClassFile.FieldType.int))) := rfl
theorem i_175_108 : iRow 175 108 = some (.bipush 59, 0, 0, 0, (some (Jvm.ClassFile.FieldType.int))) := rfl
theorem i_175_110 : iRow 175 110 = some (.bipush 59, 0, 0, 0, (some (Jvm.ClassFile.FieldType.int))) := rfl
theorem i_175_112 : iRow 175 112 = some (.invokevirtual 127, 264, 177, 1, (some (Jvm.ClassFile.FieldType.int))) := rfl
theorem i_175_115 : iRow 175 115 = some (.ifCond .ne 5, 0, 0, 0, (some (Jvm.ClassFile.FieldType.int))) := rfl
theorem i_175_118 : iRow 175 118 = some (.iconst (-1), 0, 0, 0, (some (Jvm.ClassFile.FieldType.int))) := rfl
theorem i_175_119 : iRow 175 119 = some (.ireturn, 0, 0, 0, (some (Jvm.ClassFile.FieldType.int))) := rfl
theorem i_175_120 : iRow 175 120 = some (.aload_n 0, 0, 0, 0, (some (Jvm.ClassFile.FieldType.int))) := rfl
theorem i_175_121 : iRow 175 121 = some (.dup, 0, 0, 0, (some (Jvm.ClassFile.FieldType.int))) := rfl
theorem i_175_122 : iRow 175 122 = some (.getfield 121, 170, 12, 6, (some (Jvm.ClassFile.FieldType.int))) := rfl
theorem i_175_125 : iRow 175 125 = some (.iconst 1, 0, 0, 0, (some (Jvm.ClassFile.FieldType.int))) := rfl
theorem i_175_126 : iRow 175 126 = some (.iadd, 0, 0, 0, (some (Jvm.ClassFile.FieldType.int))) := rfl
theorem i_175_127 : iRow 175 127 = some (.putfield 121, 170, 12, 6, (some (Jvm.ClassFile.FieldType.int))) := rfl
theorem i_175_130 : iRow 175 130 = some (.iinc 2 1, 0, 0, 0, (some (Jvm.ClassFile.FieldType.int))) := rfl
theorem i_175_133 : iRow 175 133 = some (.goto (-91), 0, 0, 0, (some (Jvm.ClassFile.FieldType.int))) := rfl
theorem i_176_0 : iRow 176 0 = some (.aload_n 0, 0, 0, 0, none) := rfl
theorem i_176_1 : iRow 176 1 = some (.bipush 32, 0, 0, 0, none) := rfl
theorem i_176_3 : iRow 176 3 = some (.bipush 32, 0, 0, 0, none) := rfl
theorem i_176_5 : iRow 176 5 = some (.invokevirtual 127, 264, 177, 1, none) := rfl
theorem i_176_8 : iRow 176 8 = some (.ifCond .eq 16, 0, 0, 0, none) := rfl
theorem i_176_11 : iRow 176 11 = some (.aload_n 0, 0, 0, 0, none) := rfl
theorem i_176_12 : iRow 176 12 = some (.dup, 0, 0, 0, none) := rfl
theorem i_176_13 : iRow 176 13 = some (.getfield 121, 170, 12, 6, none) := rfl
theorem i_176_16 : iRow 176 16 = some (.iconst 1, 0, 0, 0, none) := rfl
theorem i_176_17 : iRow 176 17 = some (.iadd, 0, 0, 0, none) := rfl
theorem i_176_18 : iRow 176 18 = some (.putfield 121, 170, 12, 6, none) := rfl
theorem i_176_21 : iRow 176 21 = some (.goto (-21), 0, 0, 0, none) := rfl
theorem i_176_24 : iRow 176 24 = some (.aload_n 0, 0, 0, 0, none) := rfl
theorem i_176_25 : iRow 176 25 = some (.aload_n 0, 0, 0, 0, none) := rfl
theorem i_176_26 : iRow 176 26 = some (.getfield 121, 170, 12, 6, none) := rfl
theorem i_176_29 : iRow 176 29 = some (.putfield 130, 172, 12, 8, none) := rfl
theorem i_176_32 : iRow 176 32 = some (.return_, 0, 0, 0, none) := rfl
theorem i_177_0 : iRow 177 0 = some (.aload_n 0, 0, 0, 0, (some (Jvm.ClassFile.FieldType.boolean))) := rfl
theorem i_177_1 : iRow 177 1 = some (.getfield 121, 170, 12, 6, (some (Jvm.ClassFile.FieldType.boolean))) := rfl
theorem i_177_4 : iRow 177 4 = some (.aload_n 0, 0, 0, 0, (some (Jvm.ClassFile.FieldType.boolean))) := rfl
theorem i_177_5 : iRow 177 5 = some (.getfield 124, 171, 12, 7, (some (Jvm.ClassFile.FieldType.boolean))) := rfl
theorem i_177_8 : iRow 177 8 = some (.if_icmp .ge 33, 0, 0, 0, (some (Jvm.ClassFile.FieldType.boolean))) := rfl
theorem i_177_11 : iRow 177 11 = some (.aload_n 0, 0, 0, 0, (some (Jvm.ClassFile.FieldType.boolean))) := rfl
theorem i_177_12 : iRow 177 12 = some (.getfield 20, 168, 12, 4, (some (Jvm.ClassFile.FieldType.boolean))) := rfl
theorem i_177_15 : iRow 177 15 = some (.aload_n 0, 0, 0, 0, (some (Jvm.ClassFile.FieldType.boolean))) := rfl
theorem i_177_16 : iRow 177 16 = some (.getfield 121, 170, 12, 6, (some (Jvm.ClassFile.FieldType.boolean))) := rfl
theorem i_177_19 : iRow 177 19 = some (.baload, 0, 0, 0, (some (Jvm.ClassFile.FieldType.boolean))) := rfl
theorem i_177_20 : iRow 177 20 = some (.iload_n 1, 0, 0, 0, (some (Jvm.ClassFile.FieldType.boolean))) := rfl
theorem i_177_21 : iRow 177 21 = some (.if_icmp .lt 20, 0, 0, 0, (some (Jvm.ClassFile.FieldType.boolean))) := rfl
theorem i_177_24 : iRow 177 24 = some (.aload_n 0, 0, 0, 0, (some (Jvm.ClassFile.FieldType.boolean))) := rfl
theorem i_177_25 : iRow 177 25 = some (.getfield 20, 168, 12, 4, (some (Jvm.ClassFile.FieldType.boolean))) := rfl
theorem i_177_28 : iRow 177 28 = some (.aload_n 0, 0, 0, 0, (some (Jvm.ClassFile.FieldType.boolean))) := rfl
theorem i_177_29 : iRow 177 29 = some (.getfield 121, 170, 12, 6, (some (Jvm.ClassFile.FieldType.boolean))) := rfl
theorem i_177_32 : iRow 177 32 = some (.baload, 0, 0, 0, (some (Jvm.ClassFile.FieldType.boolean))) := rfl
theorem i_177_33 : iRow 177 33 = some (.iload_n 2, 0, 0, 0, (some (Jvm.ClassFile.FieldType.boolean))) := rfl
theorem i_177_34 : iRow 177 34 = some (.if_icmp .gt 7, 0, 0, 0, (some (Jvm.ClassFile.FieldType.boolean))) := rfl
theorem i_177_37 : iRow 177 37 = some (.iconst 1, 0, 0, 0, (some (Jvm.ClassFile.FieldType.boolean))) := rfl
theorem i_177_38 : iRow 177 38 = some (.goto 4, 0, 0, 0, (some (Jvm.ClassFile.FieldType.boolean))) := rfl
theorem i_177_41 : iRow 177 41 = some (.iconst 0, 0, 0, 0, (some (Jvm.ClassFile.FieldType.boolean))) := rfl
theorem i_177_42 : iRow 177 42 = some (.ireturn, 0, 0, 0, (some (Jvm.ClassFile.FieldType.boolean))) := rfl
theorem i_178_0 : iRow 178 0 = some (.aload_n 0, 0, 0, 0, none) := rfl
theorem i_178_1 : iRow 178 1 = some (.invokevirtual 133, 263, 176, 1, none) := rfl
theorem i_178_4 : iRow 178 4 = some (.aload_n 0, 0, 0, 0, none) := rfl
theorem i_178_5 : iRow 178 5 = some (.bipush 97, 0, 0, 0, none) := rfl
theorem i_178_7 : iRow 178 7 = some (.bipush 122, 0, 0, 0, none) := rfl
theorem i_178_9 : iRow 178 9 = some (.invokevirtual 127, 264, 177, 1, none) := rfl
theorem i_178_12 : iRow 178 12 = some (.ifCond .eq 16, 0, 0, 0, none) := rfl
theorem i_178_15 : iRow 178 15 = some (.aload_n 0, 0, 0, 0, none) := rfl
theorem i_178_16 : iRow 178 16 = some (.dup, 0, 0, 0, none) := rfl
theorem i_178_17 : iRow 178 17 = some (.getfield 121, 170, 12, 6, none) := rfl
theorem i_178_20 : iRow 178 20 = some (.iconst 1, 0, 0, 0, none) := rfl
theorem i_178_21 : iRow 178 21 = some (.iadd, 0, 0, 0, none) := rfl
theorem i_178_22 : iRow 178 22 = some (.putfield 121, 170, 12, 6, none) := rfl
theorem i_178_25 : iRow 178 25 = some (.goto (-21), 0, 0, 0, none) := rfl
theorem i_178_28 : iRow 178 28 = some (.return_, 0, 0, 0, none) := rfl
theorem i_181_0 : iRow 181 0 = some (.aload_n 0, 0, 0, 0, (some (Jvm.ClassFile.FieldType.int))) := rfl
theorem i_181_1 : iRow 181 1 = some (.invokevirtual 133, 263, 176, 1, (some (Jvm.ClassFile.FieldType.int))) := rfl
theorem i_181_4 : iRow 181 4 = some (.iconst 0, 0, 0, 0, (some (Jvm.ClassFile.FieldType.int))) := rfl
theorem i_181_5 : iRow 181 5 = some (.istore_n 3, 0, 0, 0, (some (Jvm.ClassFile.FieldType.int))) := rfl
theorem i_181_6 : iRow 181 6 = some (.aload_n 0, 0, 0, 0, (some (Jvm.ClassFile.FieldType.int))) := rfl
theorem i_181_7 : iRow 181 7 = some (.bipush 48, 0, 0, 0, (some (Jvm.ClassFile.FieldType.int))) := rfl
theorem i_181_9 : iRow 181 9 = some (.bipush 57, 0, 0, 0, (some (Jvm.ClassFile.FieldType.int))) := rfl
theorem i_181_11 : iRow 181 11 = some (.invokevirtual 127, 264, 177, 1, (some (Jvm.ClassFile.FieldType.int))) := rfl
theorem i_181_14 : iRow 181 14 = some (.ifCond .eq 51, 0, 0, 0, (some (Jvm.ClassFile.FieldType.int))) := rfl
theorem i_181_17 : iRow 181 17 = some (.aload_n 0, 0, 0, 0, (some (Jvm.ClassFile.FieldType.int))) := rfl
theorem i_181_18 : iRow 181 18 = some (.getfield 121, 170, 12, 6, (some (Jvm.ClassFile.FieldType.int))) := rfl
theorem i_181_21 : iRow 181 21 = some (.aload_n 0, 0, 0, 0, (some (Jvm.ClassFile.FieldType.int))) := rfl
theorem i_181_22 : iRow 181 22 = some (.getfield 130, 172, 12, 8, (some (Jvm.ClassFile.FieldType.int))) := rfl
theorem i_181_25 : iRow 181 25 = some (.isub, 0, 0, 0, (some (Jvm.ClassFile.FieldType.int))) := rfl
theorem i_181_26 : iRow 181 26 = some (.iconst 3, 0, 0, 0, (some (Jvm.ClassFile.FieldType.int))) := rfl
theorem i_181_27 : iRow 181 27 = some (.if_icmp .ge 23, 0, 0, 0, (some (Jvm.ClassFile.FieldType.int))) := rfl
theorem i_181_30 : iRow 181 30 = some (.bipush 10, 0, 0, 0, (some (Jvm.ClassFile.FieldType.int))) := rfl
theorem i_181_32 : iRow 181 32 = some (.iload_n 3, 0, 0, 0, (some (Jvm.ClassFile.FieldType.int))) := rfl
theorem i_181_33 : iRow 181 33 = some (.imul, 0, 0, 0, (some (Jvm.ClassFile.FieldType.int))) := rfl
theorem i_181_34 : iRow 181 34 = some (.aload_n 0, 0, 0, 0, (some (Jvm.ClassFile.FieldType.int))) := rfl
theorem i_181_35 : iRow 181 35 = some (.getfield 20, 168, 12, 4, (some (Jvm.ClassFile.FieldType.int))) := rfl
theorem i_181_38 : iRow 181 38 = some (.aload_n 0, 0, 0, 0, (some (Jvm.ClassFile.FieldType.int))) := rfl
theorem i_181_39 : iRow 181 39 = some (.getfield 121, 170, 12, 6, (some (Jvm.ClassFile.FieldType.int))) := rfl
theorem i_181_42 : iRow 181 42 = some (.baload, 0, 0, 0, (some (Jvm.ClassFile.FieldType.int))) := rfl
theorem i_181_43 : iRow 181 43 = some (.iadd, 0, 0, 0, (some (Jvm.ClassFile.FieldType.int))) := rfl
theorem i_181_44 : iRow 181 44 = some (.bipush 48, 0, 0, 0, (some (Jvm.ClassFile.FieldType.int))) := rfl
theorem i_181_46 : iRow 181 46 = some (.isub, 0, 0, 0, (some (Jvm.ClassFile.FieldType.int))) := rfl
theorem i_181_47 : iRow 181 47 = some (.goto 4, 0, 0, 0, (some (Jvm.ClassFile.FieldType.int))) := rfl
theorem i_181_50 : iRow 181 50 = some (.iload_n 3, 0, 0, 0, (some (Jvm.ClassFile.FieldType.int))) := rfl
theorem i_181_51 : iRow 181 51 = some (.istore_n 3, 0, 0, 0, (some (Jvm.ClassFile.FieldType.int))) := rfl
theorem i_181_52 : iRow 181 52 = some (.aload_n 0, 0, 0, 0, (some (Jvm.ClassFile.FieldType.int))) := rfl
theorem i_181_53 : iRow 181 53 = some (.dup, 0, 0, 0, (some (Jvm.ClassFile.FieldType.int))) := rfl
theorem i_181_54 : iRow 181 54 = some (.getfield 121, 170, 12, 6, (some (Jvm.ClassFile.FieldType.int))) := rfl
theorem i_181_57 : iRow 181 57 = some (.iconst 1, 0, 0, 0, (some (Jvm.ClassFile.FieldType.int))) := rfl
theorem i_181_58 : iRow 181 58 = some (.iadd, 0, 0, 0, (some (Jvm.ClassFile.FieldType.int))) := rfl
theorem i_181_59 : iRow 181 59 = some (.putfield 121, 170, 12, 6, (some (Jvm.ClassFile.FieldType.int))) := rfl
theorem i_181_62 : iRow 181 62 = some (.goto (-56), 0, 0, 0, (some (Jvm.ClassFile.FieldType.int))) := rfl
theorem i_181_65 : iRow 181 65 = some (.aload_n 0, 0, 0, 0, (some (Jvm.ClassFile.FieldType.int))) := rfl
theorem i_181_66 : iRow 181 66 = some (.getfield 121, 170, 12, 6, (some (Jvm.ClassFile.FieldType.int))) := rfl
theorem i_181_69 : iRow 181 69 = some (.aload_n 0, 0, 0, 0, (some (Jvm.ClassFile.FieldType.int))) := rfl
theorem i_181_70 : iRow 181 70 = some (.getfield 130, 172, 12, 8, (some (Jvm.ClassFile.FieldType.int))) := rfl
theorem i_181_73 : iRow 181 73 = some (.if_icmp .eq 26, 0, 0, 0, (some (Jvm.ClassFile.FieldType.int))) := rfl
theorem i_181_76 : iRow 181 76 = some (.aload_n 0, 0, 0, 0, (some (Jvm.ClassFile.FieldType.int))) := rfl
theorem i_181_77 : iRow 181 77 = some (.getfield 121, 170, 12, 6, (some (Jvm.ClassFile.FieldType.int))) := rfl
theorem i_181_80 : iRow 181 80 = some (.aload_n 0, 0, 0, 0, (some (Jvm.ClassFile.FieldType.int))) := rfl
theorem i_181_81 : iRow 181 81 = some (.getfield 130, 172, 12, 8, (some (Jvm.ClassFile.FieldType.int))) := rfl
theorem i_181_84 : iRow 181 84 = some (.isub, 0, 0, 0, (some (Jvm.ClassFile.FieldType.int))) := rfl
theorem i_181_85 : iRow 181 85 = some (.iconst 3, 0, 0, 0, (some (Jvm.ClassFile.FieldType.int))) := rfl
theorem i_181_86 : iRow 181 86 = some (.if_icmp .gt 13, 0, 0, 0, (some (Jvm.ClassFile.FieldType.int))) := rfl
theorem i_181_89 : iRow 181 89 = some (.iload_n 3, 0, 0, 0, (some (Jvm.ClassFile.FieldType.int))) := rfl
theorem i_181_90 : iRow 181 90 = some (.iload_n 1, 0, 0, 0, (some (Jvm.ClassFile.FieldType.int))) := rfl
theorem i_181_91 : iRow 181 91 = some (.if_icmp .lt 8, 0, 0, 0, (some (Jvm.ClassFile.FieldType.int))) := rfl
theorem i_181_94 : iRow 181 94 = some (.iload_n 3, 0, 0, 0, (some (Jvm.ClassFile.FieldType.int))) := rfl
theorem i_181_95 : iRow 181 95 = some (.iload_n 2, 0, 0, 0, (some (Jvm.ClassFile.FieldType.int))) := rfl
theorem i_181_96 : iRow 181 96 = some (.if_icmp .le 7, 0, 0, 0, (some (Jvm.ClassFile.FieldType.int))) := rfl
theorem i_181_99 : iRow 181 99 = some (.iconst (-1), 0, 0, 0, (some (Jvm.ClassFile.FieldType.int))) := rfl
theorem i_181_100 : iRow 181 100 = some (.goto 4, 0, 0, 0, (some (Jvm.ClassFile.FieldType.int))) := rfl
theorem i_181_103 : iRow 181 103 = some (.iload_n 3, 0, 0, 0, (some (Jvm.ClassFile.FieldType.int))) := rfl
theorem i_181_104 : iRow 181 104 = some (.ireturn, 0, 0, 0, (some (Jvm.ClassFile.FieldType.int))) := rfl
theorem i_182_0 : iRow 182 0 = some (.sipush 1285, 0, 0, 0, (some (Jvm.ClassFile.FieldType.boolean))) := rfl
theorem i_182_3 : iRow 182 3 = some (.iconst 4, 0, 0, 0, (some (Jvm.ClassFile.FieldType.boolean))) := rfl
theorem i_182_4 : iRow 182 4 = some (.iload_n 1, 0, 0, 0, (some (Jvm.ClassFile.FieldType.boolean))) := rfl
theorem i_182_5 : iRow 182 5 = some (.imul, 0, 0, 0, (some (Jvm.ClassFile.FieldType.boolean))) := rfl
theorem i_182_6 : iRow 182 6 = some (.iadd, 0, 0, 0, (some (Jvm.ClassFile.FieldType.boolean))) := rfl
theorem i_182_7 : iRow 182 7 = some (.istore_n 2, 0, 0, 0, (some (Jvm.ClassFile.FieldType.boolean))) := rfl
theorem i_182_8 : iRow 182 8 = some (.aload_n 0, 0, 0, 0, (some (Jvm.ClassFile.FieldType.boolean))) := rfl
theorem i_182_9 : iRow 182 9 = some (.ldc 208, 31, 31, 1, (some (Jvm.ClassFile.FieldType.boolean))) := rfl
theorem i_182_11 : iRow 182 11 = some (.invokevirtual 149, 267, 180, 1, (some (Jvm.ClassFile.FieldType.boolean))) := rfl
theorem i_182_14 : iRow 182 14 = some (.ifCond .eq 19, 0, 0, 0, (some (Jvm.ClassFile.FieldType.boolean))) := rfl
theorem i_182_17 : iRow 182 17 = some (.aload_n 0, 0, 0, 0, (some (Jvm.ClassFile.FieldType.boolean))) := rfl
theorem i_182_18 : iRow 182 18 = some (.iload_n 2, 0, 0, 0, (some (Jvm.ClassFile.FieldType.boolean))) := rfl
theorem i_182_19 : iRow 182 19 = some (.aload_n 0, 0, 0, 0, (some (Jvm.ClassFile.FieldType.boolean))) := rfl
theorem i_182_20 : iRow 182 20 = some (.iconst 0, 0, 0, 0, (some (Jvm.ClassFile.FieldType.boolean))) := rfl
theorem i_182_21 : iRow 182 21 = some (.sipush 999, 0, 0, 0, (some (Jvm.ClassFile.FieldType.boolean))) := rfl
theorem i_182_24 : iRow 182 24 = some (.invokevirtual 170, 270, 181, 1, (some (Jvm.ClassFile.FieldType.boolean))) := rfl
theorem i_182_27 : iRow 182 27 = some (.invokevirtual 210, 272, 183, 1, (some (Jvm.ClassFile.FieldType.boolean))) := rfl
theorem i_182_30 : iRow 182 30 = some (.ifCond .ne 5, 0, 0, 0, (some (Jvm.ClassFile.FieldType.boolean))) := rfl
theorem i_182_33 : iRow 182 33 = some (.iconst 0, 0, 0, 0, (some (Jvm.ClassFile.FieldType.boolean))) := rfl
theorem i_182_34 : iRow 182 34 = some (.ireturn, 0, 0, 0, (some (Jvm.ClassFile.FieldType.boolean))) := rfl
theorem i_182_35 : iRow 182 35 = some (.aload_n 0, 0, 0, 0, (some (Jvm.ClassFile.FieldType.boolean))) := rfl
theorem i_182_36 : iRow 182 36 = some (.getfield 13, 165, 12, 1, (some (Jvm.ClassFile.FieldType.boolean))) := rfl
theorem i_182_39 : iRow 182 39 = some (.iload_n 2, 0, 0, 0, (some (Jvm.ClassFile.FieldType.boolean))) := rfl
theorem i_182_40 : iRow 182 40 = some (.iconst 1, 0, 0, 0, (some (Jvm.ClassFile.FieldType.boolean))) := rfl
theorem i_182_41 : iRow 182 41 = some (.iadd, 0, 0, 0, (some (Jvm.ClassFile.FieldType.boolean))) := rfl
theorem i_182_42 : iRow 182 42 = some (.iconst (-1), 0, 0, 0, (some (Jvm.ClassFile.FieldType.boolean))) := rfl
theorem i_182_43 : iRow 182 43 = some (.iastore, 0, 0, 0, (some (Jvm.ClassFile.FieldType.boolean))) := rfl
theorem i_182_44 : iRow 182 44 = some (.aload_n 0, 0, 0, 0, (some (Jvm.ClassFile.FieldType.boolean))) := rfl
theorem i_182_45 : iRow 182 45 = some (.bipush 42, 0, 0, 0, (some (Jvm.ClassFile.FieldType.boolean))) := rfl
theorem i_182_47 : iRow 182 47 = some (.invokevirtual 176, 273, 184, 1, (some (Jvm.ClassFile.FieldType.boolean))) := rfl
theorem i_182_50 : iRow 182 50 = some (.ifCond .eq 23, 0, 0, 0, (some (Jvm.ClassFile.FieldType.boolean))) := rfl
theorem i_182_53 : iRow 182 53 = some (.aload_n 0, 0, 0, 0, (some (Jvm.ClassFile.FieldType.boolean))) := rfl
theorem i_182_54 : iRow 182 54 = some (.invokevirtual 146, 265, 178, 1, (some (Jvm.ClassFile.FieldType.boolean))) := rfl
theorem i_182_57 : iRow 182 57 = some (.aload_n 0, 0, 0, 0, (some (Jvm.ClassFile.FieldType.boolean))) := rfl
theorem i_182_58 : iRow 182 58 = some (.iload_n 2, 0, 0, 0, (some (Jvm.ClassFile.FieldType.boolean))) := rfl
theorem i_182_59 : iRow 182 59 = some (.iconst 1, 0, 0, 0, (some (Jvm.ClassFile.FieldType.boolean))) := rfl
theorem i_182_60 : iRow 182 60 = some (.iadd, 0, 0, 0, (some (Jvm.ClassFile.FieldType.boolean))) := rfl
theorem i_182_61 : iRow 182 61 = some (.aload_n 0, 0, 0, 0, (some (Jvm.ClassFile.FieldType.boolean))) := rfl
theorem i_182_62 : iRow 182 62 = some (.invokevirtual 163, 274, 185, 1, (some (Jvm.ClassFile.FieldType.boolean))) := rfl
theorem i_182_65 : iRow 182 65 = some (.invokevirtual 210, 272, 183, 1, (some (Jvm.ClassFile.FieldType.boolean))) := rfl
theorem i_182_68 : iRow 182 68 = some (.ifCond .ne 5, 0, 0, 0, (some (Jvm.ClassFile.FieldType.boolean))) := rfl
theorem i_182_71 : iRow 182 71 = some (.iconst 0, 0, 0, 0, (some (Jvm.ClassFile.FieldType.boolean))) := rfl
theorem i_182_72 : iRow 182 72 = some (.ireturn, 0, 0, 0, (some (Jvm.ClassFile.FieldType.boolean))) := rfl
theorem i_182_73 : iRow 182 73 = some (.aload_n 0, 0, 0, 0, (some (Jvm.ClassFile.FieldType.boolean))) := rfl
theorem i_182_74 : iRow 182 74 = some (.getfield 13, 165, 12, 1, (some (Jvm.ClassFile.FieldType.boolean))) := rfl
theorem i_182_77 : iRow 182 77 = some (.iload_n 2, 0, 0, 0, (some (Jvm.ClassFile.FieldType.boolean))) := rfl
theorem i_182_78 : iRow 182 78 = some (.iconst 2, 0, 0, 0, (some (Jvm.ClassFile.FieldType.boolean))) := rfl
theorem i_182_79 : iRow 182 79 = some (.iadd, 0, 0, 0, (some (Jvm.ClassFile.FieldType.boolean))) := rfl
theorem i_182_80 : iRow 182 80 = some (.aload_n 0, 0, 0, 0, (some (Jvm.ClassFile.FieldType.boolean))) := rfl
theorem i_182_81 : iRow 182 81 = some (.getfield 153, 176, 12, 12, (some (Jvm.ClassFile.FieldType.boolean))) := rfl
theorem i_182_84 : iRow 182 84 = some (.iastore, 0, 0, 0, (some (Jvm.ClassFile.FieldType.boolean))) := rfl
theorem i_182_85 : iRow 182 85 = some (.aload_n 0, 0, 0, 0, (some (Jvm.ClassFile.FieldType.boolean))) := rfl
theorem i_182_86 : iRow 182 86 = some (.iconst 0, 0, 0, 0, (some (Jvm.ClassFile.FieldType.boolean))) := rfl
theorem i_182_87 : iRow 182 87 = some (.putfield 180, 173, 12, 9, (some (Jvm.ClassFile.FieldType.boolean))) := rfl
theorem i_182_90 : iRow 182 90 = some (.aload_n 0, 0, 0, 0, (some (Jvm.ClassFile.FieldType.boolean))) := rfl
theorem i_182_91 : iRow 182 91 = some (.ldc 213, 36, 36, 1, (some (Jvm.ClassFile.FieldType.boolean))) := rfl
theorem i_182_93 : iRow 182 93 = some (.invokevirtual 188, 275, 186, 1, (some (Jvm.ClassFile.FieldType.boolean))) := rfl
theorem i_182_96 : iRow 182 96 = some (.ifCond .eq 12, 0, 0, 0, (some (Jvm.ClassFile.FieldType.boolean))) := rfl
theorem i_182_99 : iRow 182 99 = some (.aload_n 0, 0, 0, 0, (some (Jvm.ClassFile.FieldType.boolean))) := rfl
theorem i_182_100 : iRow 182 100 = some (.invokevirtual 183, 276, 187, 1, (some (Jvm.ClassFile.FieldType.boolean))) := rfl
theorem i_182_103 : iRow 182 103 = some (.ifCond .ne 5, 0, 0, 0, (some (Jvm.ClassFile.FieldType.boolean))) := rfl
theorem i_182_106 : iRow 182 106 = some (.iconst 0, 0, 0, 0, (some (Jvm.ClassFile.FieldType.boolean))) := rfl
theorem i_182_107 : iRow 182 107 = some (.ireturn, 0, 0, 0, (some (Jvm.ClassFile.FieldType.boolean))) := rfl
theorem i_182_108 : iRow 182 108 = some (.aload_n 0, 0, 0, 0, (some (Jvm.ClassFile.FieldType.boolean))) := rfl
theorem i_182_109 : iRow 182 109 = some (.getfield 13, 165, 12, 1, (some (Jvm.ClassFile.FieldType.boolean))) := rfl
theorem i_182_112 : iRow 182 112 = some (.iload_n 2, 0, 0, 0, (some (Jvm.ClassFile.FieldType.boolean))) := rfl
theorem i_182_113 : iRow 182 113 = some (.iconst 3, 0, 0, 0, (some (Jvm.ClassFile.FieldType.boolean))) := rfl
theorem i_182_114 : iRow 182 114 = some (.iadd, 0, 0, 0, (some (Jvm.ClassFile.FieldType.boolean))) := rfl
theorem i_182_115 : iRow 182 115 = some (.aload_n 0, 0, 0, 0, (some (Jvm.ClassFile.FieldType.boolean))) := rfl
theorem i_182_116 : iRow 182 116 = some (.getfield 153, 176, 12, 12, (some (Jvm.ClassFile.FieldType.boolean))) := rfl
theorem i_182_119 : iRow 182 119 = some (.iastore, 0, 0, 0, (some (Jvm.ClassFile.FieldType.boolean))) := rfl
theorem i_182_120 : iRow 182 120 = some (.iconst 1, 0, 0, 0, (some (Jvm.ClassFile.FieldType.boolean))) := rfl
theorem i_182_121 : iRow 182 121 = some (.ireturn, 0, 0, 0, (some (Jvm.ClassFile.FieldType.boolean))) := rfl
theorem i_183_0 : iRow 183 0 = some (.aload_n 0, 0, 0, 0, (some (Jvm.ClassFile.FieldType.boolean))) := rfl
theorem i_183_1 : iRow 183 1 = some (.getfield 13, 165, 12, 1, (some (Jvm.ClassFile.FieldType.boolean))) := rfl
theorem i_183_4 : iRow 183 4 = some (.iload_n 1, 0, 0, 0, (some (Jvm.ClassFile.FieldType.boolean))) := rfl
theorem i_183_5 : iRow 183 5 = some (.iload_n 2, 0, 0, 0, (some (Jvm.ClassFile.FieldType.boolean))) := rfl
theorem i_183_6 : iRow 183 6 = some (.iastore, 0, 0, 0, (some (Jvm.ClassFile.FieldType.boolean))) := rfl
theorem i_183_7 : iRow 183 7 = some (.iload_n 2, 0, 0, 0, (some (Jvm.ClassFile.FieldType.boolean))) := rfl
theorem i_183_8 : iRow 183 8 = some (.ifCond .lt 7, 0, 0, 0, (some (Jvm.ClassFile.FieldType.boolean))) := rfl
theorem i_183_11 : iRow 183 11 = some (.iconst 1, 0, 0, 0, (some (Jvm.ClassFile.FieldType.boolean))) := rfl
theorem i_183_12 : iRow 183 12 = some (.goto 4, 0, 0, 0, (some (Jvm.ClassFile.FieldType.boolean))) := rfl
theorem i_183_15 : iRow 183 15 = some (.iconst 0, 0, 0, 0, (some (Jvm.ClassFile.FieldType.boolean))) := rfl
theorem i_183_16 : iRow 183 16 = some (.ireturn, 0, 0, 0, (some (Jvm.ClassFile.FieldType.boolean))) := rfl
theorem i_184_0 : iRow 184 0 = some (.aload_n 0, 0, 0, 0, (some (Jvm.ClassFile.FieldType.boolean))) := rfl
theorem i_184_1 : iRow 184 1 = some (.invokevirtual 133, 263, 176, 1, (some (Jvm.ClassFile.FieldType.boolean))) := rfl
theorem i_184_4 : iRow 184 4 = some (.aload_n 0, 0, 0, 0, (some (Jvm.ClassFile.FieldType.boolean))) := rfl
theorem i_184_5 : iRow 184 5 = some (.iload_n 1, 0, 0, 0, (some (Jvm.ClassFile.FieldType.boolean))) := rfl
theorem i_184_6 : iRow 184 6 = some (.iload_n 1, 0, 0, 0, (some (Jvm.ClassFile.FieldType.boolean))) := rfl
theorem i_184_7 : iRow 184 7 = some (.invokevirtual 127, 264, 177, 1, (some (Jvm.ClassFile.FieldType.boolean))) := rfl
theorem i_184_10 : iRow 184 10 = some (.ifCond .ne 5, 0, 0, 0, (some (Jvm.ClassFile.FieldType.boolean))) := rfl
theorem i_184_13 : iRow 184 13 = some (.iconst 0, 0, 0, 0, (some (Jvm.ClassFile.FieldType.boolean))) := rfl
theorem i_184_14 : iRow 184 14 = some (.ireturn, 0, 0, 0, (some (Jvm.ClassFile.FieldType.boolean))) := rfl
theorem i_184_15 : iRow 184 15 = some (.aload_n 0, 0, 0, 0, (some (Jvm.ClassFile.FieldType.boolean))) := rfl
theorem i_184_16 : iRow 184 16 = some (.dup, 0, 0, 0, (some (Jvm.ClassFile.FieldType.boolean))) := rfl
theorem i_184_17 : iRow 184 17 = some (.getfield 121, 170, 12, 6, (some (Jvm.ClassFile.FieldType.boolean))) := rfl
theorem i_184_20 : iRow 184 20 = some (.iconst 1, 0, 0, 0, (some (Jvm.ClassFile.FieldType.boolean))) := rfl
theorem i_184_21 : iRow 184 21 = some (.iadd, 0, 0, 0, (some (Jvm.ClassFile.FieldType.boolean))) := rfl
theorem i_184_22 : iRow 184 22 = some (.putfield 121, 170, 12, 6, (some (Jvm.ClassFile.FieldType.boolean))) := rfl
theorem i_184_25 : iRow 184 25 = some (.iconst 1, 0, 0, 0, (some (Jvm.ClassFile.FieldType.boolean))) := rfl
theorem i_184_26 : iRow 184 26 = some (.ireturn, 0, 0, 0, (some (Jvm.ClassFile.FieldType.boolean))) := rfl
theorem i_185_0 : iRow 185 0 = some (.aload_n 0, 0, 0, 0, (some (Jvm.ClassFile.FieldType.int))) := rfl
theorem i_185_1 : iRow 185 1 = some (.ldc 156, 32, 32, 1, (some (Jvm.ClassFile.FieldType.int))) := rfl
theorem i_185_3 : iRow 185 3 = some (.invokevirtual 149, 267, 180, 1, (some (Jvm.ClassFile.FieldType.int))) := rfl
theorem i_185_6 : iRow 185 6 = some (.ifCond .eq 7, 0, 0, 0, (some (Jvm.ClassFile.FieldType.int))) := rfl
theorem i_185_9 : iRow 185 9 = some (.iconst 0, 0, 0, 0, (some (Jvm.ClassFile.FieldType.int))) := rfl
theorem i_185_10 : iRow 185 10 = some (.goto 43, 0, 0, 0, (some (Jvm.ClassFile.FieldType.int))) := rfl
theorem i_185_13 : iRow 185 13 = some (.aload_n 0, 0, 0, 0, (some (Jvm.ClassFile.FieldType.int))) := rfl
theorem i_185_14 : iRow 185 14 = some (.ldc 158, 33, 33, 1, (some (Jvm.ClassFile.FieldType.int))) := rfl
theorem i_185_16 : iRow 185 16 = some (.invokevirtual 149, 267, 180, 1, (some (Jvm.ClassFile.FieldType.int))) := rfl
theorem i_185_19 : iRow 185 19 = some (.ifCond .eq 7, 0, 0, 0, (some (Jvm.ClassFile.FieldType.int))) := rfl
theorem i_185_22 : iRow 185 22 = some (.iconst 1, 0, 0, 0, (some (Jvm.ClassFile.FieldType.int))) := rfl
theorem i_185_23 : iRow 185 23 = some (.goto 30, 0, 0, 0, (some (Jvm.ClassFile.FieldType.int))) := rfl
theorem i_185_26 : iRow 185 26 = some (.aload_n 0, 0, 0, 0, (some (Jvm.ClassFile.FieldType.int))) := rfl
theorem i_185_27 : iRow 185 27 = some (.ldc 159, 34, 34, 1, (some (Jvm.ClassFile.FieldType.int))) := rfl
theorem i_185_29 : iRow 185 29 = some (.invokevirtual 149, 267, 180, 1, (some (Jvm.ClassFile.FieldType.int))) := rfl
theorem i_185_32 : iRow 185 32 = some (.ifCond .eq 7, 0, 0, 0, (some (Jvm.ClassFile.FieldType.int))) := rfl
theorem i_185_35 : iRow 185 35 = some (.iconst 2, 0, 0, 0, (some (Jvm.ClassFile.FieldType.int))) := rfl
theorem i_185_36 : iRow 185 36 = some (.goto 17, 0, 0, 0, (some (Jvm.ClassFile.FieldType.int))) := rfl
theorem i_185_39 : iRow 185 39 = some (.aload_n 0, 0, 0, 0, (some (Jvm.ClassFile.FieldType.int))) := rfl
theorem i_185_40 : iRow 185 40 = some (.ldc 161, 35, 35, 1, (some (Jvm.ClassFile.FieldType.int))) := rfl
theorem i_185_42 : iRow 185 42 = some (.invokevirtual 149, 267, 180, 1, (some (Jvm.ClassFile.FieldType.int))) := rfl
theorem i_185_45 : iRow 185 45 = some (.ifCond .eq 7, 0, 0, 0, (some (Jvm.ClassFile.FieldType.int))) := rfl
theorem i_185_48 : iRow 185 48 = some (.iconst 3, 0, 0, 0, (some (Jvm.ClassFile.FieldType.int))) := rfl
theorem i_185_49 : iRow 185 49 = some (.goto 4, 0, 0, 0, (some (Jvm.ClassFile.FieldType.int))) := rfl
theorem i_185_52 : iRow 185 52 = some (.iconst (-1), 0, 0, 0, (some (Jvm.ClassFile.FieldType.int))) := rfl
theorem i_185_53 : iRow 185 53 = some (.ireturn, 0, 0, 0, (some (Jvm.ClassFile.FieldType.int))) := rfl
theorem i_186_0 : iRow 186 0 = some (.aload_n 0, 0, 0, 0, (some (Jvm.ClassFile.FieldType.boolean))) := rfl
theorem i_186_1 : iRow 186 1 = some (.invokevirtual 146, 265, 178, 1, (some (Jvm.ClassFile.FieldType.boolean))) := rfl
theorem i_186_4 : iRow 186 4 = some (.aload_n 0, 0, 0, 0, (some (Jvm.ClassFile.FieldType.boolean))) := rfl
theorem i_186_5 : iRow 186 5 = some (.aload_n 1, 0, 0, 0, (some (Jvm.ClassFile.FieldType.boolean))) := rfl
theorem i_186_6 : iRow 186 6 = some (.invokevirtual 149, 267, 180, 1, (some (Jvm.ClassFile.FieldType.boolean))) := rfl
theorem i_186_9 : iRow 186 9 = some (.ifCond .eq 5, 0, 0, 0, (some (Jvm.ClassFile.FieldType.boolean))) := rfl
theorem i_186_12 : iRow 186 12 = some (.iconst 1, 0, 0, 0, (some (Jvm.ClassFile.FieldType.boolean))) := rfl
theorem i_186_13 : iRow 186 13 = some (.ireturn, 0, 0, 0, (some (Jvm.ClassFile.FieldType.boolean))) := rfl
theorem i_186_14 : iRow 186 14 = some (.aload_n 0, 0, 0, 0, (some (Jvm.ClassFile.FieldType.boolean))) := rfl
theorem i_186_15 : iRow 186 15 = some (.aload_n 0, 0, 0, 0, (some (Jvm.ClassFile.FieldType.boolean))) := rfl
theorem i_186_16 : iRow 186 16 = some (.getfield 130, 172, 12, 8, (some (Jvm.ClassFile.FieldType.boolean))) := rfl
theorem i_186_19 : iRow 186 19 = some (.putfield 121, 170, 12, 6, (some (Jvm.ClassFile.FieldType.boolean))) := rfl
theorem i_186_22 : iRow 186 22 = some (.iconst 0, 0, 0, 0, (some (Jvm.ClassFile.FieldType.boolean))) := rfl
theorem i_186_23 : iRow 186 23 = some (.ireturn, 0, 0, 0, (some (Jvm.ClassFile.FieldType.boolean))) := rfl
theorem i_187_0 : iRow 187 0 = some (.aload_n 0, 0, 0, 0, (some (Jvm.ClassFile.FieldType.boolean))) := rfl
theorem i_187_1 : iRow 187 1 = some (.invokevirtual 203, 277, 188, 1, (some (Jvm.ClassFile.FieldType.boolean))) := rfl
theorem i_187_4 : iRow 187 4 = some (.ifCond .ne 5, 0, 0, 0, (some (Jvm.ClassFile.FieldType.boolean))) := rfl
theorem i_187_7 : iRow 187 7 = some (.iconst 0, 0, 0, 0, (some (Jvm.ClassFile.FieldType.boolean))) := rfl
theorem i_187_8 : iRow 187 8 = some (.ireturn, 0, 0, 0, (some (Jvm.ClassFile.FieldType.boolean))) := rfl
theorem i_187_9 : iRow 187 9 = some (.aload_n 0, 0, 0, 0, (some (Jvm.ClassFile.FieldType.boolean))) := rfl
theorem i_187_10 : iRow 187 10 = some (.ldc 206, 41, 41, 1, (some (Jvm.ClassFile.FieldType.boolean))) := rfl
theorem i_187_12 : iRow 187 12 = some (.invokevirtual 188, 275, 186, 1, (some (Jvm.ClassFile.FieldType.boolean))) := rfl
theorem i_187_15 : iRow 187 15 = some (.ifCond .eq 22, 0, 0, 0, (some (Jvm.ClassFile.FieldType.boolean))) := rfl
theorem i_187_18 : iRow 187 18 = some (.aload_n 0, 0, 0, 0, (some (Jvm.ClassFile.FieldType.boolean))) := rfl
theorem i_187_19 : iRow 187 19 = some (.invokevirtual 203, 277, 188, 1, (some (Jvm.ClassFile.FieldType.boolean))) := rfl
theorem i_187_22 : iRow 187 22 = some (.ifCond .ne 5, 0, 0, 0, (some (Jvm.ClassFile.FieldType.boolean))) := rfl
theorem i_187_25 : iRow 187 25 = some (.iconst 0, 0, 0, 0, (some (Jvm.ClassFile.FieldType.boolean))) := rfl
theorem i_187_26 : iRow 187 26 = some (.ireturn, 0, 0, 0, (some (Jvm.ClassFile.FieldType.boolean))) := rfl
theorem i_187_27 : iRow 187 27 = some (.aload_n 0, 0, 0, 0, (some (Jvm.ClassFile.FieldType.boolean))) := rfl
theorem i_187_28 : iRow 187 28 = some (.bipush 12, 0, 0, 0, (some (Jvm.ClassFile.FieldType.boolean))) := rfl
theorem i_187_30 : iRow 187 30 = some (.iconst 0, 0, 0, 0, (some (Jvm.ClassFile.FieldType.boolean))) := rfl
theorem i_187_31 : iRow 187 31 = some (.invokevirtual 166, 279, 190, 1, (some (Jvm.ClassFile.FieldType.boolean))) := rfl
theorem i_187_34 : iRow 187 34 = some (.goto (-25), 0, 0, 0, (some (Jvm.ClassFile.FieldType.boolean))) := rfl
theorem i_187_37 : iRow 187 37 = some (.iconst 1, 0, 0, 0, (some (Jvm.ClassFile.FieldType.boolean))) := rfl
theorem i_187_38 : iRow 187 38 = some (.ireturn, 0, 0, 0, (some (Jvm.ClassFile.FieldType.boolean))) := rfl
theorem i_188_0 : iRow 188 0 = some (.aload_n 0, 0, 0, 0, (some (Jvm.ClassFile.FieldType.boolean))) := rfl
theorem i_188_1 : iRow 188 1 = some (.invokevirtual 191, 278, 189, 1, (some (Jvm.ClassFile.FieldType.boolean))) := rfl
theorem i_188_4 : iRow 188 4 = some (.ifCond .ne 5, 0, 0, 0, (some (Jvm.ClassFile.FieldType.boolean))) := rfl
theorem i_188_7 : iRow 188 7 = some (.iconst 0, 0, 0, 0, (some (Jvm.ClassFile.FieldType.boolean))) := rfl
theorem i_188_8 : iRow 188 8 = some (.ireturn, 0, 0, 0, (some (Jvm.ClassFile.FieldType.boolean))) := rfl
theorem i_188_9 : iRow 188 9 = some (.aload_n 0, 0, 0, 0, (some (Jvm.ClassFile.FieldType.boolean))) := rfl
theorem i_188_10 : iRow 188 10 = some (.ldc 201, 40, 40, 1, (some (Jvm.ClassFile.FieldType.boolean))) := rfl
theorem i_188_12 : iRow 188 12 = some (.invokevirtual 188, 275, 186, 1, (some (Jvm.ClassFile.FieldType.boolean))) := rfl
theorem i_188_15 : iRow 188 15 = some (.ifCond .eq 22, 0, 0, 0, (some (Jvm.ClassFile.FieldType.boolean))) := rfl
theorem i_188_18 : iRow 188 18 = some (.aload_n 0, 0, 0, 0, (some (Jvm.ClassFile.FieldType.boolean))) := rfl
theorem i_188_19 : iRow 188 19 = some (.invokevirtual 191, 278, 189, 1, (some (Jvm.ClassFile.FieldType.boolean))) := rfl
theorem i_188_22 : iRow 188 22 = some (.ifCond .ne 5, 0, 0, 0, (some (Jvm.ClassFile.FieldType.boolean))) := rfl
theorem i_188_25 : iRow 188 25 = some (.iconst 0, 0, 0, 0, (some (Jvm.ClassFile.FieldType.boolean))) := rfl
theorem i_188_26 : iRow 188 26 = some (.ireturn, 0, 0, 0, (some (Jvm.ClassFile.FieldType.boolean))) := rfl
theorem i_188_27 : iRow 188 27 = some (.aload_n 0, 0, 0, 0, (some (Jvm.ClassFile.FieldType.boolean))) := rfl
theorem i_188_28 : iRow 188 28 = some (.bipush 11, 0, 0, 0, (some (Jvm.ClassFile.FieldType.boolean))) := rfl
theorem i_188_30 : iRow 188 30 = some (.iconst 0, 0, 0, 0, (some (Jvm.ClassFile.FieldType.boolean))) := rfl
theorem i_188_31 : iRow 188 31 = some (.invokevirtual 166, 279, 190, 1, (some (Jvm.ClassFile.FieldType.boolean))) := rfl
theorem i_188_34 : iRow 188 34 = some (.goto (-25), 0, 0, 0, (some (Jvm.ClassFile.FieldType.boolean))) := rfl
theorem i_188_37 : iRow 188 37 = some (.iconst 1, 0, 0, 0, (some (Jvm.ClassFile.FieldType.boolean))) := rfl
theorem i_188_38 : iRow 188 38 = some (.ireturn, 0, 0, 0, (some (Jvm.ClassFile.FieldType.boolean))) := rfl
theorem i_189_0 : iRow 189 0 = some (.aload_n 0, 0, 0, 0, (some (Jvm.ClassFile.FieldType.boolean))) := rfl
theorem i_189_1 : iRow 189 1 = some (.bipush 40, 0, 0, 0, (some (Jvm.ClassFile.FieldType.boolean))) := rfl
theorem i_189_3 : iRow 189 3 = some (.invokevirtual 176, 273, 184, 1, (some (Jvm.ClassFile.FieldType.boolean))) := rfl
theorem i_189_6 : iRow 189 6 = some (.ifCond .eq 50, 0, 0, 0, (some (Jvm.ClassFile.FieldType.boolean))) := rfl
theorem i_189_9 : iRow 189 9 = some (.aload_n 0, 0, 0, 0, (some (Jvm.ClassFile.FieldType.boolean))) := rfl
theorem i_189_10 : iRow 189 10 = some (.getfield 180, 173, 12, 9, (some (Jvm.ClassFile.FieldType.boolean))) := rfl
theorem i_189_13 : iRow 189 13 = some (.bipush 6, 0, 0, 0, (some (Jvm.ClassFile.FieldType.boolean))) := rfl
theorem i_189_15 : iRow 189 15 = some (.if_icmp .ne 5, 0, 0, 0, (some (Jvm.ClassFile.FieldType.boolean))) := rfl
theorem i_189_18 : iRow 189 18 = some (.iconst 0, 0, 0, 0, (some (Jvm.ClassFile.FieldType.boolean))) := rfl
theorem i_189_19 : iRow 189 19 = some (.ireturn, 0, 0, 0, (some (Jvm.ClassFile.FieldType.boolean))) := rfl
theorem i_189_20 : iRow 189 20 = some (.aload_n 0, 0, 0, 0, (some (Jvm.ClassFile.FieldType.boolean))) := rfl
theorem i_189_21 : iRow 189 21 = some (.dup, 0, 0, 0, (some (Jvm.ClassFile.FieldType.boolean))) := rfl
theorem i_189_22 : iRow 189 22 = some (.getfield 180, 173, 12, 9, (some (Jvm.ClassFile.FieldType.boolean))) := rfl
theorem i_189_25 : iRow 189 25 = some (.iconst 1, 0, 0, 0, (some (Jvm.ClassFile.FieldType.boolean))) := rfl
theorem i_189_26 : iRow 189 26 = some (.iadd, 0, 0, 0, (some (Jvm.ClassFile.FieldType.boolean))) := rfl
theorem i_189_27 : iRow 189 27 = some (.putfield 180, 173, 12, 9, (some (Jvm.ClassFile.FieldType.boolean))) := rfl
theorem i_189_30 : iRow 189 30 = some (.aload_n 0, 0, 0, 0, (some (Jvm.ClassFile.FieldType.boolean))) := rfl
theorem i_189_31 : iRow 189 31 = some (.invokevirtual 183, 276, 187, 1, (some (Jvm.ClassFile.FieldType.boolean))) := rfl
theorem i_189_34 : iRow 189 34 = some (.ifCond .ne 5, 0, 0, 0, (some (Jvm.ClassFile.FieldType.boolean))) := rfl
theorem i_189_37 : iRow 189 37 = some (.iconst 0, 0, 0, 0, (some (Jvm.ClassFile.FieldType.boolean))) := rfl
theorem i_189_38 : iRow 189 38 = some (.ireturn, 0, 0, 0, (some (Jvm.ClassFile.FieldType.boolean))) := rfl
theorem i_189_39 : iRow 189 39 = some (.aload_n 0, 0, 0, 0, (some (Jvm.ClassFile.FieldType.boolean))) := rfl
theorem i_189_40 : iRow 189 40 = some (.dup, 0, 0, 0, (some (Jvm.ClassFile.FieldType.boolean))) := rfl
theorem i_189_41 : iRow 189 41 = some (.getfield 180, 173, 12, 9, (some (Jvm.ClassFile.FieldType.boolean))) := rfl
theorem i_189_44 : iRow 189 44 = some (.iconst 1, 0, 0, 0, (some (Jvm.ClassFile.FieldType.boolean))) := rfl
theorem i_189_45 : iRow 189 45 = some (.isub, 0, 0, 0, (some (Jvm.ClassFile.FieldType.boolean))) := rfl
theorem i_189_46 : iRow 189 46 = some (.putfield 180, 173, 12, 9, (some (Jvm.ClassFile.FieldType.boolean))) := rfl
theorem i_189_49 : iRow 189 49 = some (.aload_n 0, 0, 0, 0, (some (Jvm.ClassFile.FieldType.boolean))) := rfl
theorem i_189_50 : iRow 189 50 = some (.bipush 41, 0, 0, 0, (some (Jvm.ClassFile.FieldType.boolean))) := rfl
theorem i_189_52 : iRow 189 52 = some (.invokevirtual 176, 273, 184, 1, (some (Jvm.ClassFile.FieldType.boolean))) := rfl
theorem i_189_55 : iRow 189 55 = some (.ireturn, 0, 0, 0, (some (Jvm.ClassFile.FieldType.boolean))) := rfl
theorem i_189_56 : iRow 189 56 = some (.aload_n 0, 0, 0, 0, (some (Jvm.ClassFile.FieldType.boolean))) := rfl
theorem i_189_57 : iRow 189 57 = some (.ldc 186, 37, 37, 1, (some (Jvm.ClassFile.FieldType.boolean))) := rfl
theorem i_189_59 : iRow 189 59 = some (.invokevirtual 188, 275, 186, 1, (some (Jvm.ClassFile.FieldType.boolean))) := rfl
theorem i_189_62 : iRow 189 62 = some (.ifCond .eq 52, 0, 0, 0, (some (Jvm.ClassFile.FieldType.boolean))) := rfl
theorem i_189_65 : iRow 189 65 = some (.aload_n 0, 0, 0, 0, (some (Jvm.ClassFile.FieldType.boolean))) := rfl
theorem i_189_66 : iRow 189 66 = some (.getfield 180, 173, 12, 9, (some (Jvm.ClassFile.FieldType.boolean))) := rfl
theorem i_189_69 : iRow 189 69 = some (.bipush 6, 0, 0, 0, (some (Jvm.ClassFile.FieldType.boolean))) := rfl
theorem i_189_71 : iRow 189 71 = some (.if_icmp .ne 5, 0, 0, 0, (some (Jvm.ClassFile.FieldType.boolean))) := rfl
theorem i_189_74 : iRow 189 74 = some (.iconst 0, 0, 0, 0, (some (Jvm.ClassFile.FieldType.boolean))) := rfl
theorem i_189_75 : iRow 189 75 = some (.ireturn, 0, 0, 0, (some (Jvm.ClassFile.FieldType.boolean))) := rfl
theorem i_189_76 : iRow 189 76 = some (.aload_n 0, 0, 0, 0, (some (Jvm.ClassFile.FieldType.boolean))) := rfl
theorem i_189_77 : iRow 189 77 = some (.dup, 0, 0, 0, (some (Jvm.ClassFile.FieldType.boolean))) := rfl
theorem i_189_78 : iRow 189 78 = some (.getfield 180, 173, 12, 9, (some (Jvm.ClassFile.FieldType.boolean))) := rfl
theorem i_189_81 : iRow 189 81 = some (.iconst 1, 0, 0, 0, (some (Jvm.ClassFile.FieldType.boolean))) := rfl
theorem i_189_82 : iRow 189 82 = some (.iadd, 0, 0, 0, (some (Jvm.ClassFile.FieldType.boolean))) := rfl
theorem i_189_83 : iRow 189 83 = some (.putfield 180, 173, 12, 9, (some (Jvm.ClassFile.FieldType.boolean))) := rfl
theorem i_189_86 : iRow 189 86 = some (.aload_n 0, 0, 0, 0, (some (Jvm.ClassFile.FieldType.boolean))) := rfl
theorem i_189_87 : iRow 189 87 = some (.invokevirtual 191, 278, 189, 1, (some (Jvm.ClassFile.FieldType.boolean))) := rfl
theorem i_189_90 : iRow 189 90 = some (.ifCond .ne 5, 0, 0, 0, (some (Jvm.ClassFile.FieldType.boolean))) := rfl
theorem i_189_93 : iRow 189 93 = some (.iconst 0, 0, 0, 0, (some (Jvm.ClassFile.FieldType.boolean))) := rfl
theorem i_189_94 : iRow 189 94 = some (.ireturn, 0, 0, 0, (some (Jvm.ClassFile.FieldType.boolean))) := rfl
theorem i_189_95 : iRow 189 95 = some (.aload_n 0, 0, 0, 0, (some (Jvm.ClassFile.FieldType.boolean))) := rfl
theorem i_189_96 : iRow 189 96 = some (.dup, 0, 0, 0, (some (Jvm.ClassFile.FieldType.boolean))) := rfl
theorem i_189_97 : iRow 189 97 = some (.getfield 180, 173, 12, 9, (some (Jvm.ClassFile.FieldType.boolean))) := rfl
theorem i_189_100 : iRow 189 100 = some (.iconst 1, 0, 0, 0, (some (Jvm.ClassFile.FieldType.boolean))) := rfl
theorem i_189_101 : iRow 189 101 = some (.isub, 0, 0, 0, (some (Jvm.ClassFile.FieldType.boolean))) := rfl
theorem i_189_102 : iRow 189 102 = some (.putfield 180, 173, 12, 9, (some (Jvm.ClassFile.FieldType.boolean))) := rfl
theorem i_189_105 : iRow 189 105 = some (.aload_n 0, 0, 0, 0, (some (Jvm.ClassFile.FieldType.boolean))) := rfl
theorem i_189_106 : iRow 189 106 = some (.bipush 10, 0, 0, 0, (some (Jvm.ClassFile.FieldType.boolean))) := rfl
theorem i_189_108 : iRow 189 108 = some (.iconst 0, 0, 0, 0, (some (Jvm.ClassFile.FieldType.boolean))) := rfl
theorem i_189_109 : iRow 189 109 = some (.invokevirtual 166, 279, 190, 1, (some (Jvm.ClassFile.FieldType.boolean))) := rfl
theorem i_189_112 : iRow 189 112 = some (.iconst 1, 0, 0, 0, (some (Jvm.ClassFile.FieldType.boolean))) := rfl
theorem i_189_113 : iRow 189 113 = some (.ireturn, 0, 0, 0, (some (Jvm.ClassFile.FieldType.boolean))) := rfl
theorem i_189_114 : iRow 189 114 = some (.aload_n 0, 0, 0, 0, (some (Jvm.ClassFile.FieldType.boolean))) := rfl
theorem i_189_115 : iRow 189 115 = some (.ldc 194, 38, 38, 1, (some (Jvm.ClassFile.FieldType.boolean))) := rfl
theorem i_189_117 : iRow 189 117 = some (.invokevirtual 188, 275, 186, 1, (some (Jvm.ClassFile.FieldType.boolean))) := rfl
theorem i_189_120 : iRow 189 120 = some (.istore_n 1, 0, 0, 0, (some (Jvm.ClassFile.FieldType.boolean))) := rfl
theorem i_189_121 : iRow 189 121 = some (.iload_n 1, 0, 0, 0, (some (Jvm.ClassFile.FieldType.boolean))) := rfl
theorem i_189_122 : iRow 189 122 = some (.ifCond .ne 12, 0, 0, 0, (some (Jvm.ClassFile.FieldType.boolean))) := rfl
theorem i_189_125 : iRow 189 125 = some (.aload_n 0, 0, 0, 0, (some (Jvm.ClassFile.FieldType.boolean))) := rfl
theorem i_189_126 : iRow 189 126 = some (.ldc 196, 39, 39, 1, (some (Jvm.ClassFile.FieldType.boolean))) := rfl
theorem i_189_128 : iRow 189 128 = some (.invokevirtual 188, 275, 186, 1, (some (Jvm.ClassFile.FieldType.boolean))) := rfl
theorem i_189_131 : iRow 189 131 = some (.ifCond .eq 19, 0, 0, 0, (some (Jvm.ClassFile.FieldType.boolean))) := rfl
theorem i_189_134 : iRow 189 134 = some (.aload_n 0, 0, 0, 0, (some (Jvm.ClassFile.FieldType.boolean))) := rfl
theorem i_189_135 : iRow 189 135 = some (.iload_n 1, 0, 0, 0, (some (Jvm.ClassFile.FieldType.boolean))) := rfl
theorem i_189_136 : iRow 189 136 = some (.ifCond .eq 7, 0, 0, 0, (some (Jvm.ClassFile.FieldType.boolean))) := rfl
theorem i_189_139 : iRow 189 139 = some (.iconst 4, 0, 0, 0, (some (Jvm.ClassFile.FieldType.boolean))) := rfl
theorem i_189_140 : iRow 189 140 = some (.goto 4, 0, 0, 0, (some (Jvm.ClassFile.FieldType.boolean))) := rfl
theorem i_189_143 : iRow 189 143 = some (.iconst 5, 0, 0, 0, (some (Jvm.ClassFile.FieldType.boolean))) := rfl
theorem i_189_144 : iRow 189 144 = some (.iconst 0, 0, 0, 0, (some (Jvm.ClassFile.FieldType.boolean))) := rfl
theorem i_189_145 : iRow 189 145 = some (.invokevirtual 166, 279, 190, 1, (some (Jvm.ClassFile.FieldType.boolean))) := rfl
theorem i_189_148 : iRow 189 148 = some (.iconst 1, 0, 0, 0, (some (Jvm.ClassFile.FieldType.boolean))) := rfl
theorem i_189_149 : iRow 189 149 = some (.ireturn, 0, 0, 0, (some (Jvm.ClassFile.FieldType.boolean))) := rfl
theorem i_189_150 : iRow 189 150 = some (.aload_n 0, 0, 0, 0, (some (Jvm.ClassFile.FieldType.boolean))) := rfl
theorem i_189_151 : iRow 189 151 = some (.invokevirtual 198, 280, 191, 1, (some (Jvm.ClassFile.FieldType.boolean))) := rfl
theorem i_189_154 : iRow 189 154 = some (.ifCond .ne 5, 0, 0, 0, (some (Jvm.ClassFile.FieldType.boolean))) := rfl
theorem i_189_157 : iRow 189 157 = some (.iconst 0, 0, 0, 0, (some (Jvm.ClassFile.FieldType.boolean))) := rfl
theorem i_189_158 : iRow 189 158 = some (.ireturn, 0, 0, 0, (some (Jvm.ClassFile.FieldType.boolean))) := rfl
theorem i_189_159 : iRow 189 159 = some (.aload_n 0, 0, 0, 0, (some (Jvm.ClassFile.FieldType.boolean))) := rfl
theorem i_189_160 : iRow 189 160 = some (.bipush 60, 0, 0, 0, (some (Jvm.ClassFile.FieldType.boolean))) := rfl
theorem i_189_162 : iRow 189 162 = some (.invokevirtual 176, 273, 184, 1, (some (Jvm.ClassFile.FieldType.boolean))) := rfl
theorem i_189_165 : iRow 189 165 = some (.istore_n 2, 0, 0, 0, (some (Jvm.ClassFile.FieldType.boolean))) := rfl
theorem i_189_166 : iRow 189 166 = some (.iload_n 2, 0, 0, 0, (some (Jvm.ClassFile.FieldType.boolean))) := rfl
theorem i_189_167 : iRow 189 167 = some (.ifCond .ne 12, 0, 0, 0, (some (Jvm.ClassFile.FieldType.boolean))) := rfl
theorem i_189_170 : iRow 189 170 = some (.aload_n 0, 0, 0, 0, (some (Jvm.ClassFile.FieldType.boolean))) := rfl
theorem i_189_171 : iRow 189 171 = some (.bipush 62, 0, 0, 0, (some (Jvm.ClassFile.FieldType.boolean))) := rfl
theorem i_189_173 : iRow 189 173 = some (.invokevirtual 176, 273, 184, 1, (some (Jvm.ClassFile.FieldType.boolean))) := rfl
theorem i_189_176 : iRow 189 176 = some (.ifCond .eq 10, 0, 0, 0, (some (Jvm.ClassFile.FieldType.boolean))) := rfl
theorem i_189_179 : iRow 189 179 = some (.aload_n 0, 0, 0, 0, (some (Jvm.ClassFile.FieldType.boolean))) := rfl
theorem i_189_180 : iRow 189 180 = some (.invokevirtual 198, 280, 191, 1, (some (Jvm.ClassFile.FieldType.boolean))) := rfl
theorem i_189_183 : iRow 189 183 = some (.ifCond .ne 5, 0, 0, 0, (some (Jvm.ClassFile.FieldType.boolean))) := rfl
theorem i_189_186 : iRow 189 186 = some (.iconst 0, 0, 0, 0, (some (Jvm.ClassFile.FieldType.boolean))) := rfl
theorem i_189_187 : iRow 189 187 = some (.ireturn, 0, 0, 0, (some (Jvm.ClassFile.FieldType.boolean))) := rfl
theorem i_189_188 : iRow 189 188 = some (.aload_n 0, 0, 0, 0, (some (Jvm.ClassFile.FieldType.boolean))) := rfl
theorem i_189_189 : iRow 189 189 = some (.iload_n 2, 0, 0, 0, (some (Jvm.ClassFile.FieldType.boolean))) := rfl
theorem i_189_190 : iRow 189 190 = some (.ifCond .eq 8, 0, 0, 0, (some (Jvm.ClassFile.FieldType.boolean))) := rfl
theorem i_189_193 : iRow 189 193 = some (.bipush 8, 0, 0, 0, (some (Jvm.ClassFile.FieldType.boolean))) := rfl
theorem i_189_195 : iRow 189 195 = some (.goto 5, 0, 0, 0, (some (Jvm.ClassFile.FieldType.boolean))) := rfl
theorem i_189_198 : iRow 189 198 = some (.bipush 9, 0, 0, 0, (some (Jvm.ClassFile.FieldType.boolean))) := rfl
theorem i_189_200 : iRow 189 200 = some (.iconst 0, 0, 0, 0, (some (Jvm.ClassFile.FieldType.boolean))) := rfl
theorem i_189_201 : iRow 189 201 = some (.invokevirtual 166, 279, 190, 1, (some (Jvm.ClassFile.FieldType.boolean))) := rfl
theorem i_189_204 : iRow 189 204 = some (.iconst 1, 0, 0, 0, (some (Jvm.ClassFile.FieldType.boolean))) := rfl
theorem i_189_205 : iRow 189 205 = some (.ireturn, 0, 0, 0, (some (Jvm.ClassFile.FieldType.boolean))) := rfl
theorem i_190_0 : iRow 190 0 = some (.sipush 1325, 0, 0, 0, none) := rfl
theorem i_190_3 : iRow 190 3 = some (.iconst 2, 0, 0, 0, none) := rfl
theorem i_190_4 : iRow 190 4 = some (.aload_n 0, 0, 0, 0, none) := rfl
theorem i_190_5 : iRow 190 5 = some (.getfield 153, 176, 12, 12, none) := rfl
theorem i_190_8 : iRow 190 8 = some (.imul, 0, 0, 0, none) := rfl
theorem i_190_9 : iRow 190 9 = some (.iadd, 0, 0, 0, none) := rfl
theorem i_190_10 : iRow 190 10 = some (.istore_n 3, 0, 0, 0, none) := rfl
theorem i_190_11 : iRow 190 11 = some (.aload_n 0, 0, 0, 0, none) := rfl
theorem i_190_12 : iRow 190 12 = some (.getfield 13, 165, 12, 1, none) := rfl
theorem i_190_15 : iRow 190 15 = some (.iload_n 3, 0, 0, 0, none) := rfl
theorem i_190_16 : iRow 190 16 = some (.iload_n 1, 0, 0, 0, none) := rfl
theorem i_190_17 : iRow 190 17 = some (.iastore, 0, 0, 0, none) := rfl
theorem i_190_18 : iRow 190 18 = some (.aload_n 0, 0, 0, 0, none) := rfl
theorem i_190_19 : iRow 190 19 = some (.getfield 13, 165, 12, 1, none) := rfl
theorem i_190_22 : iRow 190 22 = some (.iload_n 3, 0, 0, 0, none) := rfl
theorem i_190_23 : iRow 190 23 = some (.iconst 1, 0, 0, 0, none) := rfl
theorem i_190_24 : iRow 190 24 = some (.iadd, 0, 0, 0, none) := rfl
theorem i_190_25 : iRow 190 25 = some (.iload_n 2, 0, 0, 0, none) := rfl
theorem i_190_26 : iRow 190 26 = some (.iastore, 0, 0, 0, none) := rfl
theorem i_190_27 : iRow 190 27 = some (.aload_n 0, 0, 0, 0, none) := rfl
theorem i_190_28 : iRow 190 28 = some (.dup, 0, 0, 0, none) := rfl
theorem i_190_29 : iRow 190 29 = some (.getfield 153, 176, 12, 12, none) := rfl
theorem i_190_32 : iRow 190 32 = some (.iconst 1, 0, 0, 0, none) := rfl
theorem i_190_33 : iRow 190 33 = some (.iadd, 0, 0, 0, none) := rfl
theorem i_190_34 : iRow 190 34 = some (.putfield 153, 176, 12, 12, none) := rfl
theorem i_190_37 : iRow 190 37 = some (.return_, 0, 0, 0, none) := rfl
theorem i_191_0 : iRow 191 0 = some (.aload_n 0, 0, 0, 0, (some (Jvm.ClassFile.FieldType.boolean))) := rfl
theorem i_191_1 : iRow 191 1 = some (.invokevirtual 172, 281, 192, 1, (some (Jvm.ClassFile.FieldType.boolean))) := rfl
theorem i_191_4 : iRow 191 4 = some (.ifCond .ne 5, 0, 0, 0, (some (Jvm.ClassFile.FieldType.boolean))) := rfl
theorem i_191_7 : iRow 191 7 = some (.iconst 0, 0, 0, 0, (some (Jvm.ClassFile.FieldType.boolean))) := rfl
theorem i_191_8 : iRow 191 8 = some (.ireturn, 0, 0, 0, (some (Jvm.ClassFile.FieldType.boolean))) := rfl
theorem i_191_9 : iRow 191 9 = some (.aload_n 0, 0, 0, 0, (some (Jvm.ClassFile.FieldType.boolean))) := rfl
theorem i_191_10 : iRow 191 10 = some (.bipush 43, 0, 0, 0, (some (Jvm.ClassFile.FieldType.boolean))) := rfl
theorem i_191_12 : iRow 191 12 = some (.invokevirtual 176, 273, 184, 1, (some (Jvm.ClassFile.FieldType.boolean))) := rfl
theorem i_191_15 : iRow 191 15 = some (.ifCond .eq 22, 0, 0, 0, (some (Jvm.ClassFile.FieldType.boolean))) := rfl
theorem i_191_18 : iRow 191 18 = some (.aload_n 0, 0, 0, 0, (some (Jvm.ClassFile.FieldType.boolean))) := rfl
theorem i_191_19 : iRow 191 19 = some (.invokevirtual 172, 281, 192, 1, (some (Jvm.ClassFile.FieldType.boolean))) := rfl
theorem i_191_22 : iRow 191 22 = some (.ifCond .ne 5, 0, 0, 0, (some (Jvm.ClassFile.FieldType.boolean))) := rfl
theorem i_191_25 : iRow 191 25 = some (.iconst 0, 0, 0, 0, (some (Jvm.ClassFile.FieldType.boolean))) := rfl
theorem i_191_26 : iRow 191 26 = some (.ireturn, 0, 0, 0, (some (Jvm.ClassFile.FieldType.boolean))) := rfl
theorem i_191_27 : iRow 191 27 = some (.aload_n 0, 0, 0, 0, (some (Jvm.ClassFile.FieldType.boolean))) := rfl
theorem i_191_28 : iRow 191 28 = some (.bipush 7, 0, 0, 0, (some (Jvm.ClassFile.FieldType.boolean))) := rfl
theorem i_191_30 : iRow 191 30 = some (.iconst 0, 0, 0, 0, (some (Jvm.ClassFile.FieldType.boolean))) := rfl
theorem i_191_31 : iRow 191 31 = some (.invokevirtual 166, 279, 190, 1, (some (Jvm.ClassFile.FieldType.boolean))) := rfl
theorem i_191_34 : iRow 191 34 = some (.goto (-25), 0, 0, 0, (some (Jvm.ClassFile.FieldType.boolean))) := rfl
theorem i_191_37 : iRow 191 37 = some (.iconst 1, 0, 0, 0, (some (Jvm.ClassFile.FieldType.boolean))) := rfl
theorem i_191_38 : iRow 191 38 = some (.ireturn, 0, 0, 0, (some (Jvm.ClassFile.FieldType.boolean))) := rfl
theorem i_192_0 : iRow 192 0 = some (.aload_n 0, 0, 0, 0, (some (Jvm.ClassFile.FieldType.boolean))) := rfl
theorem i_192_1 : iRow 192 1 = some (.invokevirtual 146, 265, 178, 1, (some (Jvm.ClassFile.FieldType.boolean))) := rfl
theorem i_192_4 : iRow 192 4 = some (.iconst (-1), 0, 0, 0, (some (Jvm.ClassFile.FieldType.boolean))) := rfl
theorem i_192_5 : iRow 192 5 = some (.istore_n 1, 0, 0, 0, (some (Jvm.ClassFile.FieldType.boolean))) := rfl
theorem i_192_6 : iRow 192 6 = some (.aload_n 0, 0, 0, 0, (some (Jvm.ClassFile.FieldType.boolean))) := rfl
theorem i_192_7 : iRow 192 7 = some (.getfield 121, 170, 12, 6, (some (Jvm.ClassFile.FieldType.boolean))) := rfl
theorem i_192_10 : iRow 192 10 = some (.aload_n 0, 0, 0, 0, (some (Jvm.ClassFile.FieldType.boolean))) := rfl
theorem i_192_11 : iRow 192 11 = some (.getfield 130, 172, 12, 8, (some (Jvm.ClassFile.FieldType.boolean))) := rfl
theorem i_192_14 : iRow 192 14 = some (.if_icmp .le 17, 0, 0, 0, (some (Jvm.ClassFile.FieldType.boolean))) := rfl
theorem i_192_17 : iRow 192 17 = some (.aload_n 0, 0, 0, 0, (some (Jvm.ClassFile.FieldType.boolean))) := rfl
theorem i_192_18 : iRow 192 18 = some (.invokevirtual 163, 274, 185, 1, (some (Jvm.ClassFile.FieldType.boolean))) := rfl
theorem i_192_21 : iRow 192 21 = some (.istore_n 1, 0, 0, 0, (some (Jvm.ClassFile.FieldType.boolean))) := rfl
theorem i_192_22 : iRow 192 22 = some (.aload_n 0, 0, 0, 0, (some (Jvm.ClassFile.FieldType.boolean))) := rfl
theorem i_192_23 : iRow 192 23 = some (.iload_n 1, 0, 0, 0, (some (Jvm.ClassFile.FieldType.boolean))) := rfl
theorem i_192_24 : iRow 192 24 = some (.iconst 0, 0, 0, 0, (some (Jvm.ClassFile.FieldType.boolean))) := rfl
theorem i_192_25 : iRow 192 25 = some (.invokevirtual 166, 279, 190, 1, (some (Jvm.ClassFile.FieldType.boolean))) := rfl
theorem i_192_28 : iRow 192 28 = some (.goto 19, 0, 0, 0, (some (Jvm.ClassFile.FieldType.boolean))) := rfl
theorem i_192_31 : iRow 192 31 = some (.aload_n 0, 0, 0, 0, (some (Jvm.ClassFile.FieldType.boolean))) := rfl
theorem i_192_32 : iRow 192 32 = some (.iconst 0, 0, 0, 0, (some (Jvm.ClassFile.FieldType.boolean))) := rfl
theorem i_192_33 : iRow 192 33 = some (.sipush 999, 0, 0, 0, (some (Jvm.ClassFile.FieldType.boolean))) := rfl
theorem i_192_36 : iRow 192 36 = some (.invokevirtual 170, 270, 181, 1, (some (Jvm.ClassFile.FieldType.boolean))) := rfl
theorem i_192_39 : iRow 192 39 = some (.istore_n 1, 0, 0, 0, (some (Jvm.ClassFile.FieldType.boolean))) := rfl
theorem i_192_40 : iRow 192 40 = some (.aload_n 0, 0, 0, 0, (some (Jvm.ClassFile.FieldType.boolean))) := rfl
theorem i_192_41 : iRow 192 41 = some (.bipush 6, 0, 0, 0, (some (Jvm.ClassFile.FieldType.boolean))) := rfl
theorem i_192_43 : iRow 192 43 = some (.iload_n 1, 0, 0, 0, (some (Jvm.ClassFile.FieldType.boolean))) := rfl
theorem i_192_44 : iRow 192 44 = some (.invokevirtual 166, 279, 190, 1, (some (Jvm.ClassFile.FieldType.boolean))) := rfl
theorem i_192_47 : iRow 192 47 = some (.iload_n 1, 0, 0, 0, (some (Jvm.ClassFile.FieldType.boolean))) := rfl
theorem i_192_48 : iRow 192 48 = some (.ifCond .lt 7, 0, 0, 0, (some (Jvm.ClassFile.FieldType.boolean))) := rfl
theorem i_192_51 : iRow 192 51 = some (.iconst 1, 0, 0, 0, (some (Jvm.ClassFile.FieldType.boolean))) := rfl
theorem i_192_52 : iRow 192 52 = some (.goto 4, 0, 0, 0, (some (Jvm.ClassFile.FieldType.boolean))) := rfl
theorem i_192_55 : iRow 192 55 = some (.iconst 0, 0, 0, 0, (some (Jvm.ClassFile.FieldType.boolean))) := rfl
theorem i_192_56 : iRow 192 56 = some (.ireturn, 0, 0, 0, (some (Jvm.ClassFile.FieldType.boolean))) := rfl
theorem i_195_0 : iRow 195 0 = some (.aload_n 0, 0, 0, 0, (some (Jvm.ClassFile.FieldType.int))) := rfl
theorem i_195_1 : iRow 195 1 = some (.iconst 0, 0, 0, 0, (some (Jvm.ClassFile.FieldType.int))) := rfl
theorem i_195_2 : iRow 195 2 = some (.putfield 3, 164, 12, 0, (some (Jvm.ClassFile.FieldType.int))) := rfl
theorem i_195_5 : iRow 195 5 = some (.aload_n 0, 0, 0, 0, (some (Jvm.ClassFile.FieldType.int))) := rfl
theorem i_195_6 : iRow 195 6 = some (.iconst 0, 0, 0, 0, (some (Jvm.ClassFile.FieldType.int))) := rfl
theorem i_195_7 : iRow 195 7 = some (.invokevirtual 231, 262, 175, 1, (some (Jvm.ClassFile.FieldType.int))) := rfl
theorem i_195_10 : iRow 195 10 = some (.istore_n 1, 0, 0, 0, (some (Jvm.ClassFile.FieldType.int))) := rfl
theorem i_195_11 : iRow 195 11 = some (.aload_n 0, 0, 0, 0, (some (Jvm.ClassFile.FieldType.int))) := rfl
theorem i_195_12 : iRow 195 12 = some (.iload_n 1, 0, 0, 0, (some (Jvm.ClassFile.FieldType.int))) := rfl
theorem i_195_13 : iRow 195 13 = some (.ifCond .ge 10, 0, 0, 0, (some (Jvm.ClassFile.FieldType.int))) := rfl
theorem i_195_16 : iRow 195 16 = some (.aload_n 0, 0, 0, 0, (some (Jvm.ClassFile.FieldType.int))) := rfl
theorem i_195_17 : iRow 195 17 = some (.getfield 130, 172, 12, 8, (some (Jvm.ClassFile.FieldType.int))) := rfl
theorem i_195_20 : iRow 195 20 = some (.goto 4, 0, 0, 0, (some (Jvm.ClassFile.FieldType.int))) := rfl
theorem i_195_23 : iRow 195 23 = some (.iconst (-1), 0, 0, 0, (some (Jvm.ClassFile.FieldType.int))) := rfl
theorem i_195_24 : iRow 195 24 = some (.putfield 24, 174, 12, 10, (some (Jvm.ClassFile.FieldType.int))) := rfl
theorem i_195_27 : iRow 195 27 = some (.aload_n 0, 0, 0, 0, (some (Jvm.ClassFile.FieldType.int))) := rfl
theorem i_195_28 : iRow 195 28 = some (.iload_n 1, 0, 0, 0, (some (Jvm.ClassFile.FieldType.int))) := rfl
theorem i_195_29 : iRow 195 29 = some (.ifCond .ge 7, 0, 0, 0, (some (Jvm.ClassFile.FieldType.int))) := rfl
theorem i_195_32 : iRow 195 32 = some (.iconst 1, 0, 0, 0, (some (Jvm.ClassFile.FieldType.int))) := rfl
theorem i_195_33 : iRow 195 33 = some (.goto 4, 0, 0, 0, (some (Jvm.ClassFile.FieldType.int))) := rfl
theorem i_195_36 : iRow 195 36 = some (.iconst 0, 0, 0, 0, (some (Jvm.ClassFile.FieldType.int))) := rfl
theorem i_195_37 : iRow 195 37 = some (.iconst 1, 0, 0, 0, (some (Jvm.ClassFile.FieldType.int))) := rfl
theorem i_195_38 : iRow 195 38 = some (.invokevirtual 235, 283, 194, 1, (some (Jvm.ClassFile.FieldType.int))) := rfl
theorem i_195_41 : iRow 195 41 = some (.ifCond .eq 5, 0, 0, 0, (some (Jvm.ClassFile.FieldType.int))) := rfl
theorem i_195_44 : iRow 195 44 = some (.iconst 0, 0, 0, 0, (some (Jvm.ClassFile.FieldType.int))) := rfl
theorem i_195_45 : iRow 195 45 = some (.ireturn, 0, 0, 0, (some (Jvm.ClassFile.FieldType.int))) := rfl
theorem i_195_46 : iRow 195 46 = some (.aload_n 0, 0, 0, 0, (some (Jvm.ClassFile.FieldType.int))) := rfl
theorem i_195_47 : iRow 195 47 = some (.getfield 13, 165, 12, 1, (some (Jvm.ClassFile.FieldType.int))) := rfl
theorem i_195_50 : iRow 195 50 = some (.sipush 1284, 0, 0, 0, (some (Jvm.ClassFile.FieldType.int))) := rfl
theorem i_195_53 : iRow 195 53 = some (.iload_n 1, 0, 0, 0, (some (Jvm.ClassFile.FieldType.int))) := rfl
theorem i_195_54 : iRow 195 54 = some (.iastore, 0, 0, 0, (some (Jvm.ClassFile.FieldType.int))) := rfl
theorem i_195_55 : iRow 195 55 = some (.iconst 0, 0, 0, 0, (some (Jvm.ClassFile.FieldType.int))) := rfl
theorem i_195_56 : iRow 195 56 = some (.istore_n 2, 0, 0, 0, (some (Jvm.ClassFile.FieldType.int))) := rfl
theorem i_195_57 : iRow 195 57 = some (.iload_n 2, 0, 0, 0, (some (Jvm.ClassFile.FieldType.int))) := rfl
theorem i_195_58 : iRow 195 58 = some (.sipush 841, 0, 0, 0, (some (Jvm.ClassFile.FieldType.int))) := rfl
theorem i_195_61 : iRow 195 61 = some (.if_icmp .ge 29, 0, 0, 0, (some (Jvm.ClassFile.FieldType.int))) := rfl
theorem i_195_64 : iRow 195 64 = some (.aload_n 0, 0, 0, 0, (some (Jvm.ClassFile.FieldType.int))) := rfl
theorem i_195_65 : iRow 195 65 = some (.getfield 13, 165, 12, 1, (some (Jvm.ClassFile.FieldType.int))) := rfl
theorem i_195_68 : iRow 195 68 = some (.sipush 443, 0, 0, 0, (some (Jvm.ClassFile.FieldType.int))) := rfl
theorem i_195_71 : iRow 195 71 = some (.iload_n 2, 0, 0, 0, (some (Jvm.ClassFile.FieldType.int))) := rfl
theorem i_195_72 : iRow 195 72 = some (.iadd, 0, 0, 0, (some (Jvm.ClassFile.FieldType.int))) := rfl
theorem i_195_73 : iRow 195 73 = some (.aload_n 0, 0, 0, 0, (some (Jvm.ClassFile.FieldType.int))) := rfl
theorem i_195_74 : iRow 195 74 = some (.getfield 13, 165, 12, 1, (some (Jvm.ClassFile.FieldType.int))) := rfl
theorem i_195_77 : iRow 195 77 = some (.sipush 1284, 0, 0, 0, (some (Jvm.ClassFile.FieldType.int))) := rfl
theorem i_195_80 : iRow 195 80 = some (.iload_n 2, 0, 0, 0, (some (Jvm.ClassFile.FieldType.int))) := rfl
theorem i_195_81 : iRow 195 81 = some (.iadd, 0, 0, 0, (some (Jvm.ClassFile.FieldType.int))) := rfl
theorem i_195_82 : iRow 195 82 = some (.iaload, 0, 0, 0, (some (Jvm.ClassFile.FieldType.int))) := rfl
theorem i_195_83 : iRow 195 83 = some (.iastore, 0, 0, 0, (some (Jvm.ClassFile.FieldType.int))) := rfl
theorem i_195_84 : iRow 195 84 = some (.iinc 2 1, 0, 0, 0, (some (Jvm.ClassFile.FieldType.int))) := rfl
theorem i_195_87 : iRow 195 87 = some (.goto (-30), 0, 0, 0, (some (Jvm.ClassFile.FieldType.int))) := rfl
theorem i_195_90 : iRow 195 90 = some (.aload_n 0, 0, 0, 0, (some (Jvm.ClassFile.FieldType.int))) := rfl
theorem i_195_91 : iRow 195 91 = some (.getfield 13, 165, 12, 1, (some (Jvm.ClassFile.FieldType.int))) := rfl
theorem i_195_94 : iRow 195 94 = some (.iconst 4, 0, 0, 0, (some (Jvm.ClassFile.FieldType.int))) := rfl
theorem i_195_95 : iRow 195 95 = some (.iconst 1, 0, 0, 0, (some (Jvm.ClassFile.FieldType.int))) := rfl
theorem i_195_96 : iRow 195 96 = some (.iastore, 0, 0, 0, (some (Jvm.ClassFile.FieldType.int))) := rfl
theorem i_195_97 : iRow 195 97 = some (.iload_n 1, 0, 0, 0, (some (Jvm.ClassFile.FieldType.int))) := rfl
theorem i_195_98 : iRow 195 98 = some (.ireturn, 0, 0, 0, (some (Jvm.ClassFile.FieldType.int))) := rfl
