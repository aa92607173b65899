/-! SEGMENTS of methods by hand, printed by wip/ai2/hand4.py -/
theorem i_225_0 : iRow 225 0 = some (.bipush (-2), 0, 0, 0, none) := rfl
theorem i_225_2 : iRow 225 2 = some (.istore_n 3, 0, 0, 0, none) := rfl
theorem i_225_3 : iRow 225 3 = some (.iload_n 3, 0, 0, 0, none) := rfl
theorem i_225_4 : iRow 225 4 = some (.iconst 2, 0, 0, 0, none) := rfl
theorem i_225_5 : iRow 225 5 = some (.if_icmp .gt 49, 0, 0, 0, none) := rfl
theorem i_225_8 : iRow 225 8 = some (.bipush (-2), 0, 0, 0, none) := rfl
theorem i_225_10 : iRow 225 10 = some (.istore 4, 0, 0, 0, none) := rfl
theorem i_225_12 : iRow 225 12 = some (.iload 4, 0, 0, 0, none) := rfl
theorem i_225_14 : iRow 225 14 = some (.iconst 2, 0, 0, 0, none) := rfl
theorem i_225_15 : iRow 225 15 = some (.if_icmp .gt 33, 0, 0, 0, none) := rfl
theorem i_225_18 : iRow 225 18 = some (.iload_n 3, 0, 0, 0, none) := rfl
theorem i_225_19 : iRow 225 19 = some (.iload_n 3, 0, 0, 0, none) := rfl
theorem i_225_20 : iRow 225 20 = some (.imul, 0, 0, 0, none) := rfl
theorem i_225_21 : iRow 225 21 = some (.iload 4, 0, 0, 0, none) := rfl
theorem i_225_23 : iRow 225 23 = some (.iload 4, 0, 0, 0, none) := rfl
theorem i_225_25 : iRow 225 25 = some (.imul, 0, 0, 0, none) := rfl
theorem i_225_26 : iRow 225 26 = some (.iadd, 0, 0, 0, none) := rfl
theorem i_225_27 : iRow 225 27 = some (.iconst 5, 0, 0, 0, none) := rfl
theorem i_225_28 : iRow 225 28 = some (.if_icmp .ne 14, 0, 0, 0, none) := rfl
theorem i_225_31 : iRow 225 31 = some (.aload_n 0, 0, 0, 0, none) := rfl
theorem i_225_32 : iRow 225 32 = some (.iload_n 1, 0, 0, 0, none) := rfl
theorem i_225_33 : iRow 225 33 = some (.iload_n 2, 0, 0, 0, none) := rfl
theorem i_225_34 : iRow 225 34 = some (.iload_n 3, 0, 0, 0, none) := rfl
theorem i_225_35 : iRow 225 35 = some (.iload 4, 0, 0, 0, none) := rfl
theorem i_225_37 : iRow 225 37 = some (.iconst 1, 0, 0, 0, none) := rfl
theorem i_225_38 : iRow 225 38 = some (.iconst 0, 0, 0, 0, none) := rfl
theorem i_225_39 : iRow 225 39 = some (.invokevirtual 289, 311, 222, 1, none) := rfl
theorem i_225_42 : iRow 225 42 = some (.iinc 4 1, 0, 0, 0, none) := rfl
theorem i_225_45 : iRow 225 45 = some (.goto (-33), 0, 0, 0, none) := rfl
theorem i_225_48 : iRow 225 48 = some (.iinc 3 1, 0, 0, 0, none) := rfl
theorem i_225_51 : iRow 225 51 = some (.goto (-48), 0, 0, 0, none) := rfl
theorem i_225_54 : iRow 225 54 = some (.return_, 0, 0, 0, none) := rfl
theorem i_226_0 : iRow 226 0 = some (.iconst (-1), 0, 0, 0, none) := rfl
theorem i_226_1 : iRow 226 1 = some (.istore 4, 0, 0, 0, none) := rfl
theorem i_226_3 : iRow 226 3 = some (.iload 4, 0, 0, 0, none) := rfl
theorem i_226_5 : iRow 226 5 = some (.iconst 1, 0, 0, 0, none) := rfl
theorem i_226_6 : iRow 226 6 = some (.if_icmp .gt 44, 0, 0, 0, none) := rfl
theorem i_226_9 : iRow 226 9 = some (.iload_n 2, 0, 0, 0, none) := rfl
theorem i_226_10 : iRow 226 10 = some (.iload 4, 0, 0, 0, none) := rfl
theorem i_226_12 : iRow 226 12 = some (.iload_n 3, 0, 0, 0, none) := rfl
theorem i_226_13 : iRow 226 13 = some (.invokestatic 276, 312, 223, 0, none) := rfl
theorem i_226_16 : iRow 226 16 = some (.istore 5, 0, 0, 0, none) := rfl
theorem i_226_18 : iRow 226 18 = some (.iload 5, 0, 0, 0, none) := rfl
theorem i_226_20 : iRow 226 20 = some (.ifCond .lt 24, 0, 0, 0, none) := rfl
theorem i_226_23 : iRow 226 23 = some (.aload_n 0, 0, 0, 0, none) := rfl
theorem i_226_24 : iRow 226 24 = some (.iload_n 1, 0, 0, 0, none) := rfl
theorem i_226_25 : iRow 226 25 = some (.iload 5, 0, 0, 0, none) := rfl
theorem i_226_27 : iRow 226 27 = some (.invokevirtual 279, 308, 219, 1, none) := rfl
theorem i_226_30 : iRow 226 30 = some (.ifCond .lt 14, 0, 0, 0, none) := rfl
theorem i_226_33 : iRow 226 33 = some (.aload_n 0, 0, 0, 0, none) := rfl
theorem i_226_34 : iRow 226 34 = some (.iload_n 1, 0, 0, 0, none) := rfl
theorem i_226_35 : iRow 226 35 = some (.iload_n 2, 0, 0, 0, none) := rfl
theorem i_226_36 : iRow 226 36 = some (.iload 4, 0, 0, 0, none) := rfl
theorem i_226_38 : iRow 226 38 = some (.iload_n 3, 0, 0, 0, none) := rfl
theorem i_226_39 : iRow 226 39 = some (.iconst 1, 0, 0, 0, none) := rfl
theorem i_226_40 : iRow 226 40 = some (.iconst 0, 0, 0, 0, none) := rfl
theorem i_226_41 : iRow 226 41 = some (.invokevirtual 289, 311, 222, 1, none) := rfl
theorem i_226_44 : iRow 226 44 = some (.iinc 4 2, 0, 0, 0, none) := rfl
theorem i_226_47 : iRow 226 47 = some (.goto (-44), 0, 0, 0, none) := rfl
theorem i_226_50 : iRow 226 50 = some (.return_, 0, 0, 0, none) := rfl
theorem s_leaps {O : pOut} {d kc ks : Nat} {Q : pRes → Prop} {es : PH} {dp fm : Int} (hs_es : sh es) (hd : 0 ≤ dp ∧ dp ≤ 30) (hf : 0 ≤ fm ∧ fm ≤ 35)
    (K1 : ∀ es1 : PH, alongP dp fm (-2) (-1) 1 0 es es1 → ∀ es2 : PH, alongP dp fm (-2) 1 1 0 es1 es2 → ∀ es3 : PH, alongP dp fm (-1) (-2) 1 0 es2 es3 → ∀ es4 : PH, alongP dp fm (-1) 2 1 0 es3 es4 → ∀ es5 : PH, alongP dp fm 1 (-2) 1 0 es4 es5 → ∀ es6 : PH, alongP dp fm 1 2 1 0 es5 es6 → ∀ es7 : PH, alongP dp fm 2 (-1) 1 0 es6 es7 → ∀ es8 : PH, alongP dp fm 2 1 1 0 es7 es8 → Q (.inl (none), es8, kc, ks)) :
    aW O (d + 3) 225 kc ks Q (0, [some (.ref 143), some (.int (zI dp)), some (.int (zI fm)), none, none], [], es) := by
  refine x0 (r := (2, [some (.ref 143), some (.int (zI dp)), some (.int (zI fm)), none, none], [.int (zI (-2))], es)) i_225_0 (by rfl) ?_
  refine x0 (r := (3, [some (.ref 143), some (.int (zI dp)), some (.int (zI fm)), some (.int (zI (-2))), none], [], es)) i_225_2 rfl ?_
  refine x0 (r := (4, [some (.ref 143), some (.int (zI dp)), some (.int (zI fm)), some (.int (zI (-2))), none], [.int (zI (-2))], es)) i_225_3 rfl ?_
  refine x0 (r := (5, [some (.ref 143), some (.int (zI dp)), some (.int (zI fm)), some (.int (zI (-2))), none], [.int (zI 2), .int (zI (-2))], es)) i_225_4 (by rfl) ?_
  refine x_cmpF i_225_5 (by unfold i32 iLO iHI; omega) (by unfold i32 iLO iHI; omega) rfl (by simp only [zC, cR]; omega) ?_
  refine x0 (r := (10, [some (.ref 143), some (.int (zI dp)), some (.int (zI fm)), some (.int (zI (-2))), none], [.int (zI (-2))], es)) i_225_8 (by rfl) ?_
  refine x0 (r := (12, [some (.ref 143), some (.int (zI dp)), some (.int (zI fm)), some (.int (zI (-2))), some (.int (zI (-2)))], [], es)) i_225_10 rfl ?_
  refine x0 (r := (14, [some (.ref 143), some (.int (zI dp)), some (.int (zI fm)), some (.int (zI (-2))), some (.int (zI (-2)))], [.int (zI (-2))], es)) i_225_12 rfl ?_
  refine x0 (r := (15, [some (.ref 143), some (.int (zI dp)), some (.int (zI fm)), some (.int (zI (-2))), some (.int (zI (-2)))], [.int (zI 2), .int (zI (-2))], es)) i_225_14 (by rfl) ?_
  refine x_cmpF i_225_15 (by unfold i32 iLO iHI; omega) (by unfold i32 iLO iHI; omega) rfl (by simp only [zC, cR]; omega) ?_
  refine x0 (r := (19, [some (.ref 143), some (.int (zI dp)), some (.int (zI fm)), some (.int (zI (-2))), some (.int (zI (-2)))], [.int (zI (-2))], es)) i_225_18 rfl ?_
  refine x0 (r := (20, [some (.ref 143), some (.int (zI dp)), some (.int (zI fm)), some (.int (zI (-2))), some (.int (zI (-2)))], [.int (zI (-2)), .int (zI (-2))], es)) i_225_19 rfl ?_
  refine x_imul i_225_20 ?_
  show aW _ _ _ _ _ _ (21, [some (.ref 143), some (.int (zI dp)), some (.int (zI fm)), some (.int (zI (-2))), some (.int (zI (-2)))], [.int (zI 4)], es)
  refine x0 (r := (23, [some (.ref 143), some (.int (zI dp)), some (.int (zI fm)), some (.int (zI (-2))), some (.int (zI (-2)))], [.int (zI (-2)), .int (zI 4)], es)) i_225_21 rfl ?_
  refine x0 (r := (25, [some (.ref 143), some (.int (zI dp)), some (.int (zI fm)), some (.int (zI (-2))), some (.int (zI (-2)))], [.int (zI (-2)), .int (zI (-2)), .int (zI 4)], es)) i_225_23 rfl ?_
  refine x_imul i_225_25 ?_
  show aW _ _ _ _ _ _ (26, [some (.ref 143), some (.int (zI dp)), some (.int (zI fm)), some (.int (zI (-2))), some (.int (zI (-2)))], [.int (zI 4), .int (zI 4)], es)
  refine x_iadd i_225_26 ?_
  show aW _ _ _ _ _ _ (27, [some (.ref 143), some (.int (zI dp)), some (.int (zI fm)), some (.int (zI (-2))), some (.int (zI (-2)))], [.int (zI 8)], es)
  refine x0 (r := (28, [some (.ref 143), some (.int (zI dp)), some (.int (zI fm)), some (.int (zI (-2))), some (.int (zI (-2)))], [.int (zI 5), .int (zI 8)], es)) i_225_27 (by rfl) ?_
  refine x_cmpT i_225_28 (by unfold i32 iLO iHI; omega) (by unfold i32 iLO iHI; omega) rfl (by simp only [zC, cR]; omega) ?_
  refine x_iinc (x := (-2)) i_225_42 rfl (by show 4 < 5; decide) ?_
  show aW _ _ _ _ _ _ (45, [some (.ref 143), some (.int (zI dp)), some (.int (zI fm)), some (.int (zI (-2))), some (.int (zI (-1)))], [], es)
  refine x0 (r := (12, [some (.ref 143), some (.int (zI dp)), some (.int (zI fm)), some (.int (zI (-2))), some (.int (zI (-1)))], [], es)) i_225_45 rfl ?_
  refine x0 (r := (14, [some (.ref 143), some (.int (zI dp)), some (.int (zI fm)), some (.int (zI (-2))), some (.int (zI (-1)))], [.int (zI (-1))], es)) i_225_12 rfl ?_
  refine x0 (r := (15, [some (.ref 143), some (.int (zI dp)), some (.int (zI fm)), some (.int (zI (-2))), some (.int (zI (-1)))], [.int (zI 2), .int (zI (-1))], es)) i_225_14 (by rfl) ?_
  refine x_cmpF i_225_15 (by unfold i32 iLO iHI; omega) (by unfold i32 iLO iHI; omega) rfl (by simp only [zC, cR]; omega) ?_
  refine x0 (r := (19, [some (.ref 143), some (.int (zI dp)), some (.int (zI fm)), some (.int (zI (-2))), some (.int (zI (-1)))], [.int (zI (-2))], es)) i_225_18 rfl ?_
  refine x0 (r := (20, [some (.ref 143), some (.int (zI dp)), some (.int (zI fm)), some (.int (zI (-2))), some (.int (zI (-1)))], [.int (zI (-2)), .int (zI (-2))], es)) i_225_19 rfl ?_
  refine x_imul i_225_20 ?_
  show aW _ _ _ _ _ _ (21, [some (.ref 143), some (.int (zI dp)), some (.int (zI fm)), some (.int (zI (-2))), some (.int (zI (-1)))], [.int (zI 4)], es)
  refine x0 (r := (23, [some (.ref 143), some (.int (zI dp)), some (.int (zI fm)), some (.int (zI (-2))), some (.int (zI (-1)))], [.int (zI (-1)), .int (zI 4)], es)) i_225_21 rfl ?_
  refine x0 (r := (25, [some (.ref 143), some (.int (zI dp)), some (.int (zI fm)), some (.int (zI (-2))), some (.int (zI (-1)))], [.int (zI (-1)), .int (zI (-1)), .int (zI 4)], es)) i_225_23 rfl ?_
  refine x_imul i_225_25 ?_
  show aW _ _ _ _ _ _ (26, [some (.ref 143), some (.int (zI dp)), some (.int (zI fm)), some (.int (zI (-2))), some (.int (zI (-1)))], [.int (zI 1), .int (zI 4)], es)
  refine x_iadd i_225_26 ?_
  show aW _ _ _ _ _ _ (27, [some (.ref 143), some (.int (zI dp)), some (.int (zI fm)), some (.int (zI (-2))), some (.int (zI (-1)))], [.int (zI 5)], es)
  refine x0 (r := (28, [some (.ref 143), some (.int (zI dp)), some (.int (zI fm)), some (.int (zI (-2))), some (.int (zI (-1)))], [.int (zI 5), .int (zI 5)], es)) i_225_27 (by rfl) ?_
  refine x_cmpF i_225_28 (by unfold i32 iLO iHI; omega) (by unfold i32 iLO iHI; omega) rfl (by simp only [zC, cR]; omega) ?_
  refine x0 (r := (32, [some (.ref 143), some (.int (zI dp)), some (.int (zI fm)), some (.int (zI (-2))), some (.int (zI (-1)))], [.ref 143], es)) i_225_31 rfl ?_
  refine x0 (r := (33, [some (.ref 143), some (.int (zI dp)), some (.int (zI fm)), some (.int (zI (-2))), some (.int (zI (-1)))], [.int (zI dp), .ref 143], es)) i_225_32 rfl ?_
  refine x0 (r := (34, [some (.ref 143), some (.int (zI dp)), some (.int (zI fm)), some (.int (zI (-2))), some (.int (zI (-1)))], [.int (zI fm), .int (zI dp), .ref 143], es)) i_225_33 rfl ?_
  refine x0 (r := (35, [some (.ref 143), some (.int (zI dp)), some (.int (zI fm)), some (.int (zI (-2))), some (.int (zI (-1)))], [.int (zI (-2)), .int (zI fm), .int (zI dp), .ref 143], es)) i_225_34 rfl ?_
  refine x0 (r := (37, [some (.ref 143), some (.int (zI dp)), some (.int (zI fm)), some (.int (zI (-2))), some (.int (zI (-1)))], [.int (zI (-1)), .int (zI (-2)), .int (zI fm), .int (zI dp), .ref 143], es)) i_225_35 rfl ?_
  refine x0 (r := (38, [some (.ref 143), some (.int (zI dp)), some (.int (zI fm)), some (.int (zI (-2))), some (.int (zI (-1)))], [.int (zI 1), .int (zI (-1)), .int (zI (-2)), .int (zI fm), .int (zI dp), .ref 143], es)) i_225_37 (by rfl) ?_
  refine x0 (r := (39, [some (.ref 143), some (.int (zI dp)), some (.int (zI fm)), some (.int (zI (-2))), some (.int (zI (-1)))], [.int (zI 0), .int (zI 1), .int (zI (-1)), .int (zI (-2)), .int (zI fm), .int (zI dp), .ref 143], es)) i_225_38 (by rfl) ?_
  refine x_call (vs := [.ref 143, .int (zI dp), .int (zI fm), .int (zI (-2)), .int (zI (-1)), .int (zI 1), .int (zI 0)]) (rs := []) i_225_39 rfl (fun _ => rfl) rfl rfl rfl rfl rfl (pCall_v (p := 79) hs_es rfl rfl rfl rfl rfl (by decide) rfl rfl rfl rfl rfl) ?_
  show aW _ _ _ _ _ _ (0, [some (.ref 143), some (.int (zI dp)), some (.int (zI fm)), some (.int (zI (-2))), some (.int (zI (-1))), some (.int (zI 1)), some (.int (zI 0)), none, none, none], [], es)
  refine along_spec hs_es (by omega) (by omega) (by omega) (by omega) (by omega) (by omega) (fun es1 p_es1 => ?_)
  have hs_es1 : sh es1 := p_es1.1
  show aW _ _ _ _ _ _ (42, [some (.ref 143), some (.int (zI dp)), some (.int (zI fm)), some (.int (zI (-2))), some (.int (zI (-1)))], [], es1)
  refine x_iinc (x := (-1)) i_225_42 rfl (by show 4 < 5; decide) ?_
  show aW _ _ _ _ _ _ (45, [some (.ref 143), some (.int (zI dp)), some (.int (zI fm)), some (.int (zI (-2))), some (.int (zI 0))], [], es1)
  refine x0 (r := (12, [some (.ref 143), some (.int (zI dp)), some (.int (zI fm)), some (.int (zI (-2))), some (.int (zI 0))], [], es1)) i_225_45 rfl ?_
  refine x0 (r := (14, [some (.ref 143), some (.int (zI dp)), some (.int (zI fm)), some (.int (zI (-2))), some (.int (zI 0))], [.int (zI 0)], es1)) i_225_12 rfl ?_
  refine x0 (r := (15, [some (.ref 143), some (.int (zI dp)), some (.int (zI fm)), some (.int (zI (-2))), some (.int (zI 0))], [.int (zI 2), .int (zI 0)], es1)) i_225_14 (by rfl) ?_
  refine x_cmpF i_225_15 (by unfold i32 iLO iHI; omega) (by unfold i32 iLO iHI; omega) rfl (by simp only [zC, cR]; omega) ?_
  refine x0 (r := (19, [some (.ref 143), some (.int (zI dp)), some (.int (zI fm)), some (.int (zI (-2))), some (.int (zI 0))], [.int (zI (-2))], es1)) i_225_18 rfl ?_
  refine x0 (r := (20, [some (.ref 143), some (.int (zI dp)), some (.int (zI fm)), some (.int (zI (-2))), some (.int (zI 0))], [.int (zI (-2)), .int (zI (-2))], es1)) i_225_19 rfl ?_
  refine x_imul i_225_20 ?_
  show aW _ _ _ _ _ _ (21, [some (.ref 143), some (.int (zI dp)), some (.int (zI fm)), some (.int (zI (-2))), some (.int (zI 0))], [.int (zI 4)], es1)
  refine x0 (r := (23, [some (.ref 143), some (.int (zI dp)), some (.int (zI fm)), some (.int (zI (-2))), some (.int (zI 0))], [.int (zI 0), .int (zI 4)], es1)) i_225_21 rfl ?_
  refine x0 (r := (25, [some (.ref 143), some (.int (zI dp)), some (.int (zI fm)), some (.int (zI (-2))), some (.int (zI 0))], [.int (zI 0), .int (zI 0), .int (zI 4)], es1)) i_225_23 rfl ?_
  refine x_imul i_225_25 ?_
  show aW _ _ _ _ _ _ (26, [some (.ref 143), some (.int (zI dp)), some (.int (zI fm)), some (.int (zI (-2))), some (.int (zI 0))], [.int (zI 0), .int (zI 4)], es1)
  refine x_iadd i_225_26 ?_
  show aW _ _ _ _ _ _ (27, [some (.ref 143), some (.int (zI dp)), some (.int (zI fm)), some (.int (zI (-2))), some (.int (zI 0))], [.int (zI 4)], es1)
  refine x0 (r := (28, [some (.ref 143), some (.int (zI dp)), some (.int (zI fm)), some (.int (zI (-2))), some (.int (zI 0))], [.int (zI 5), .int (zI 4)], es1)) i_225_27 (by rfl) ?_
  refine x_cmpT i_225_28 (by unfold i32 iLO iHI; omega) (by unfold i32 iLO iHI; omega) rfl (by simp only [zC, cR]; omega) ?_
  refine x_iinc (x := 0) i_225_42 rfl (by show 4 < 5; decide) ?_
  show aW _ _ _ _ _ _ (45, [some (.ref 143), some (.int (zI dp)), some (.int (zI fm)), some (.int (zI (-2))), some (.int (zI 1))], [], es1)
  refine x0 (r := (12, [some (.ref 143), some (.int (zI dp)), some (.int (zI fm)), some (.int (zI (-2))), some (.int (zI 1))], [], es1)) i_225_45 rfl ?_
  refine x0 (r := (14, [some (.ref 143), some (.int (zI dp)), some (.int (zI fm)), some (.int (zI (-2))), some (.int (zI 1))], [.int (zI 1)], es1)) i_225_12 rfl ?_
  refine x0 (r := (15, [some (.ref 143), some (.int (zI dp)), some (.int (zI fm)), some (.int (zI (-2))), some (.int (zI 1))], [.int (zI 2), .int (zI 1)], es1)) i_225_14 (by rfl) ?_
  refine x_cmpF i_225_15 (by unfold i32 iLO iHI; omega) (by unfold i32 iLO iHI; omega) rfl (by simp only [zC, cR]; omega) ?_
  refine x0 (r := (19, [some (.ref 143), some (.int (zI dp)), some (.int (zI fm)), some (.int (zI (-2))), some (.int (zI 1))], [.int (zI (-2))], es1)) i_225_18 rfl ?_
  refine x0 (r := (20, [some (.ref 143), some (.int (zI dp)), some (.int (zI fm)), some (.int (zI (-2))), some (.int (zI 1))], [.int (zI (-2)), .int (zI (-2))], es1)) i_225_19 rfl ?_
  refine x_imul i_225_20 ?_
  show aW _ _ _ _ _ _ (21, [some (.ref 143), some (.int (zI dp)), some (.int (zI fm)), some (.int (zI (-2))), some (.int (zI 1))], [.int (zI 4)], es1)
  refine x0 (r := (23, [some (.ref 143), some (.int (zI dp)), some (.int (zI fm)), some (.int (zI (-2))), some (.int (zI 1))], [.int (zI 1), .int (zI 4)], es1)) i_225_21 rfl ?_
  refine x0 (r := (25, [some (.ref 143), some (.int (zI dp)), some (.int (zI fm)), some (.int (zI (-2))), some (.int (zI 1))], [.int (zI 1), .int (zI 1), .int (zI 4)], es1)) i_225_23 rfl ?_
  refine x_imul i_225_25 ?_
  show aW _ _ _ _ _ _ (26, [some (.ref 143), some (.int (zI dp)), some (.int (zI fm)), some (.int (zI (-2))), some (.int (zI 1))], [.int (zI 1), .int (zI 4)], es1)
  refine x_iadd i_225_26 ?_
  show aW _ _ _ _ _ _ (27, [some (.ref 143), some (.int (zI dp)), some (.int (zI fm)), some (.int (zI (-2))), some (.int (zI 1))], [.int (zI 5)], es1)
  refine x0 (r := (28, [some (.ref 143), some (.int (zI dp)), some (.int (zI fm)), some (.int (zI (-2))), some (.int (zI 1))], [.int (zI 5), .int (zI 5)], es1)) i_225_27 (by rfl) ?_
  refine x_cmpF i_225_28 (by unfold i32 iLO iHI; omega) (by unfold i32 iLO iHI; omega) rfl (by simp only [zC, cR]; omega) ?_
  refine x0 (r := (32, [some (.ref 143), some (.int (zI dp)), some (.int (zI fm)), some (.int (zI (-2))), some (.int (zI 1))], [.ref 143], es1)) i_225_31 rfl ?_
  refine x0 (r := (33, [some (.ref 143), some (.int (zI dp)), some (.int (zI fm)), some (.int (zI (-2))), some (.int (zI 1))], [.int (zI dp), .ref 143], es1)) i_225_32 rfl ?_
  refine x0 (r := (34, [some (.ref 143), some (.int (zI dp)), some (.int (zI fm)), some (.int (zI (-2))), some (.int (zI 1))], [.int (zI fm), .int (zI dp), .ref 143], es1)) i_225_33 rfl ?_
  refine x0 (r := (35, [some (.ref 143), some (.int (zI dp)), some (.int (zI fm)), some (.int (zI (-2))), some (.int (zI 1))], [.int (zI (-2)), .int (zI fm), .int (zI dp), .ref 143], es1)) i_225_34 rfl ?_
  refine x0 (r := (37, [some (.ref 143), some (.int (zI dp)), some (.int (zI fm)), some (.int (zI (-2))), some (.int (zI 1))], [.int (zI 1), .int (zI (-2)), .int (zI fm), .int (zI dp), .ref 143], es1)) i_225_35 rfl ?_
  refine x0 (r := (38, [some (.ref 143), some (.int (zI dp)), some (.int (zI fm)), some (.int (zI (-2))), some (.int (zI 1))], [.int (zI 1), .int (zI 1), .int (zI (-2)), .int (zI fm), .int (zI dp), .ref 143], es1)) i_225_37 (by rfl) ?_
  refine x0 (r := (39, [some (.ref 143), some (.int (zI dp)), some (.int (zI fm)), some (.int (zI (-2))), some (.int (zI 1))], [.int (zI 0), .int (zI 1), .int (zI 1), .int (zI (-2)), .int (zI fm), .int (zI dp), .ref 143], es1)) i_225_38 (by rfl) ?_
  refine x_call (vs := [.ref 143, .int (zI dp), .int (zI fm), .int (zI (-2)), .int (zI 1), .int (zI 1), .int (zI 0)]) (rs := []) i_225_39 rfl (fun _ => rfl) rfl rfl rfl rfl rfl (pCall_v (p := 79) hs_es1 rfl rfl rfl rfl rfl (by decide) rfl rfl rfl rfl rfl) ?_
  show aW _ _ _ _ _ _ (0, [some (.ref 143), some (.int (zI dp)), some (.int (zI fm)), some (.int (zI (-2))), some (.int (zI 1)), some (.int (zI 1)), some (.int (zI 0)), none, none, none], [], es1)
  refine along_spec hs_es1 (by omega) (by omega) (by omega) (by omega) (by omega) (by omega) (fun es2 p_es2 => ?_)
  have hs_es2 : sh es2 := p_es2.1
  show aW _ _ _ _ _ _ (42, [some (.ref 143), some (.int (zI dp)), some (.int (zI fm)), some (.int (zI (-2))), some (.int (zI 1))], [], es2)
  refine x_iinc (x := 1) i_225_42 rfl (by show 4 < 5; decide) ?_
  show aW _ _ _ _ _ _ (45, [some (.ref 143), some (.int (zI dp)), some (.int (zI fm)), some (.int (zI (-2))), some (.int (zI 2))], [], es2)
  refine x0 (r := (12, [some (.ref 143), some (.int (zI dp)), some (.int (zI fm)), some (.int (zI (-2))), some (.int (zI 2))], [], es2)) i_225_45 rfl ?_
  refine x0 (r := (14, [some (.ref 143), some (.int (zI dp)), some (.int (zI fm)), some (.int (zI (-2))), some (.int (zI 2))], [.int (zI 2)], es2)) i_225_12 rfl ?_
  refine x0 (r := (15, [some (.ref 143), some (.int (zI dp)), some (.int (zI fm)), some (.int (zI (-2))), some (.int (zI 2))], [.int (zI 2), .int (zI 2)], es2)) i_225_14 (by rfl) ?_
  refine x_cmpF i_225_15 (by unfold i32 iLO iHI; omega) (by unfold i32 iLO iHI; omega) rfl (by simp only [zC, cR]; omega) ?_
  refine x0 (r := (19, [some (.ref 143), some (.int (zI dp)), some (.int (zI fm)), some (.int (zI (-2))), some (.int (zI 2))], [.int (zI (-2))], es2)) i_225_18 rfl ?_
  refine x0 (r := (20, [some (.ref 143), some (.int (zI dp)), some (.int (zI fm)), some (.int (zI (-2))), some (.int (zI 2))], [.int (zI (-2)), .int (zI (-2))], es2)) i_225_19 rfl ?_
  refine x_imul i_225_20 ?_
  show aW _ _ _ _ _ _ (21, [some (.ref 143), some (.int (zI dp)), some (.int (zI fm)), some (.int (zI (-2))), some (.int (zI 2))], [.int (zI 4)], es2)
  refine x0 (r := (23, [some (.ref 143), some (.int (zI dp)), some (.int (zI fm)), some (.int (zI (-2))), some (.int (zI 2))], [.int (zI 2), .int (zI 4)], es2)) i_225_21 rfl ?_
  refine x0 (r := (25, [some (.ref 143), some (.int (zI dp)), some (.int (zI fm)), some (.int (zI (-2))), some (.int (zI 2))], [.int (zI 2), .int (zI 2), .int (zI 4)], es2)) i_225_23 rfl ?_
  refine x_imul i_225_25 ?_
  show aW _ _ _ _ _ _ (26, [some (.ref 143), some (.int (zI dp)), some (.int (zI fm)), some (.int (zI (-2))), some (.int (zI 2))], [.int (zI 4), .int (zI 4)], es2)
  refine x_iadd i_225_26 ?_
  show aW _ _ _ _ _ _ (27, [some (.ref 143), some (.int (zI dp)), some (.int (zI fm)), some (.int (zI (-2))), some (.int (zI 2))], [.int (zI 8)], es2)
  refine x0 (r := (28, [some (.ref 143), some (.int (zI dp)), some (.int (zI fm)), some (.int (zI (-2))), some (.int (zI 2))], [.int (zI 5), .int (zI 8)], es2)) i_225_27 (by rfl) ?_
  refine x_cmpT i_225_28 (by unfold i32 iLO iHI; omega) (by unfold i32 iLO iHI; omega) rfl (by simp only [zC, cR]; omega) ?_
  refine x_iinc (x := 2) i_225_42 rfl (by show 4 < 5; decide) ?_
  show aW _ _ _ _ _ _ (45, [some (.ref 143), some (.int (zI dp)), some (.int (zI fm)), some (.int (zI (-2))), some (.int (zI 3))], [], es2)
  refine x0 (r := (12, [some (.ref 143), some (.int (zI dp)), some (.int (zI fm)), some (.int (zI (-2))), some (.int (zI 3))], [], es2)) i_225_45 rfl ?_
  refine x0 (r := (14, [some (.ref 143), some (.int (zI dp)), some (.int (zI fm)), some (.int (zI (-2))), some (.int (zI 3))], [.int (zI 3)], es2)) i_225_12 rfl ?_
  refine x0 (r := (15, [some (.ref 143), some (.int (zI dp)), some (.int (zI fm)), some (.int (zI (-2))), some (.int (zI 3))], [.int (zI 2), .int (zI 3)], es2)) i_225_14 (by rfl) ?_
  refine x_cmpT i_225_15 (by unfold i32 iLO iHI; omega) (by unfold i32 iLO iHI; omega) rfl (by simp only [zC, cR]; omega) ?_
  refine x_iinc (x := (-2)) i_225_48 rfl (by show 3 < 5; decide) ?_
  show aW _ _ _ _ _ _ (51, [some (.ref 143), some (.int (zI dp)), some (.int (zI fm)), some (.int (zI (-1))), some (.int (zI 3))], [], es2)
  refine x0 (r := (3, [some (.ref 143), some (.int (zI dp)), some (.int (zI fm)), some (.int (zI (-1))), some (.int (zI 3))], [], es2)) i_225_51 rfl ?_
  refine x0 (r := (4, [some (.ref 143), some (.int (zI dp)), some (.int (zI fm)), some (.int (zI (-1))), some (.int (zI 3))], [.int (zI (-1))], es2)) i_225_3 rfl ?_
  refine x0 (r := (5, [some (.ref 143), some (.int (zI dp)), some (.int (zI fm)), some (.int (zI (-1))), some (.int (zI 3))], [.int (zI 2), .int (zI (-1))], es2)) i_225_4 (by rfl) ?_
  refine x_cmpF i_225_5 (by unfold i32 iLO iHI; omega) (by unfold i32 iLO iHI; omega) rfl (by simp only [zC, cR]; omega) ?_
  refine x0 (r := (10, [some (.ref 143), some (.int (zI dp)), some (.int (zI fm)), some (.int (zI (-1))), some (.int (zI 3))], [.int (zI (-2))], es2)) i_225_8 (by rfl) ?_
  refine x0 (r := (12, [some (.ref 143), some (.int (zI dp)), some (.int (zI fm)), some (.int (zI (-1))), some (.int (zI (-2)))], [], es2)) i_225_10 rfl ?_
  refine x0 (r := (14, [some (.ref 143), some (.int (zI dp)), some (.int (zI fm)), some (.int (zI (-1))), some (.int (zI (-2)))], [.int (zI (-2))], es2)) i_225_12 rfl ?_
  refine x0 (r := (15, [some (.ref 143), some (.int (zI dp)), some (.int (zI fm)), some (.int (zI (-1))), some (.int (zI (-2)))], [.int (zI 2), .int (zI (-2))], es2)) i_225_14 (by rfl) ?_
  refine x_cmpF i_225_15 (by unfold i32 iLO iHI; omega) (by unfold i32 iLO iHI; omega) rfl (by simp only [zC, cR]; omega) ?_
  refine x0 (r := (19, [some (.ref 143), some (.int (zI dp)), some (.int (zI fm)), some (.int (zI (-1))), some (.int (zI (-2)))], [.int (zI (-1))], es2)) i_225_18 rfl ?_
  refine x0 (r := (20, [some (.ref 143), some (.int (zI dp)), some (.int (zI fm)), some (.int (zI (-1))), some (.int (zI (-2)))], [.int (zI (-1)), .int (zI (-1))], es2)) i_225_19 rfl ?_
  refine x_imul i_225_20 ?_
  show aW _ _ _ _ _ _ (21, [some (.ref 143), some (.int (zI dp)), some (.int (zI fm)), some (.int (zI (-1))), some (.int (zI (-2)))], [.int (zI 1)], es2)
  refine x0 (r := (23, [some (.ref 143), some (.int (zI dp)), some (.int (zI fm)), some (.int (zI (-1))), some (.int (zI (-2)))], [.int (zI (-2)), .int (zI 1)], es2)) i_225_21 rfl ?_
  refine x0 (r := (25, [some (.ref 143), some (.int (zI dp)), some (.int (zI fm)), some (.int (zI (-1))), some (.int (zI (-2)))], [.int (zI (-2)), .int (zI (-2)), .int (zI 1)], es2)) i_225_23 rfl ?_
  refine x_imul i_225_25 ?_
  show aW _ _ _ _ _ _ (26, [some (.ref 143), some (.int (zI dp)), some (.int (zI fm)), some (.int (zI (-1))), some (.int (zI (-2)))], [.int (zI 4), .int (zI 1)], es2)
  refine x_iadd i_225_26 ?_
  show aW _ _ _ _ _ _ (27, [some (.ref 143), some (.int (zI dp)), some (.int (zI fm)), some (.int (zI (-1))), some (.int (zI (-2)))], [.int (zI 5)], es2)
  refine x0 (r := (28, [some (.ref 143), some (.int (zI dp)), some (.int (zI fm)), some (.int (zI (-1))), some (.int (zI (-2)))], [.int (zI 5), .int (zI 5)], es2)) i_225_27 (by rfl) ?_
  refine x_cmpF i_225_28 (by unfold i32 iLO iHI; omega) (by unfold i32 iLO iHI; omega) rfl (by simp only [zC, cR]; omega) ?_
  refine x0 (r := (32, [some (.ref 143), some (.int (zI dp)), some (.int (zI fm)), some (.int (zI (-1))), some (.int (zI (-2)))], [.ref 143], es2)) i_225_31 rfl ?_
  refine x0 (r := (33, [some (.ref 143), some (.int (zI dp)), some (.int (zI fm)), some (.int (zI (-1))), some (.int (zI (-2)))], [.int (zI dp), .ref 143], es2)) i_225_32 rfl ?_
  refine x0 (r := (34, [some (.ref 143), some (.int (zI dp)), some (.int (zI fm)), some (.int (zI (-1))), some (.int (zI (-2)))], [.int (zI fm), .int (zI dp), .ref 143], es2)) i_225_33 rfl ?_
  refine x0 (r := (35, [some (.ref 143), some (.int (zI dp)), some (.int (zI fm)), some (.int (zI (-1))), some (.int (zI (-2)))], [.int (zI (-1)), .int (zI fm), .int (zI dp), .ref 143], es2)) i_225_34 rfl ?_
  refine x0 (r := (37, [some (.ref 143), some (.int (zI dp)), some (.int (zI fm)), some (.int (zI (-1))), some (.int (zI (-2)))], [.int (zI (-2)), .int (zI (-1)), .int (zI fm), .int (zI dp), .ref 143], es2)) i_225_35 rfl ?_
  refine x0 (r := (38, [some (.ref 143), some (.int (zI dp)), some (.int (zI fm)), some (.int (zI (-1))), some (.int (zI (-2)))], [.int (zI 1), .int (zI (-2)), .int (zI (-1)), .int (zI fm), .int (zI dp), .ref 143], es2)) i_225_37 (by rfl) ?_
  refine x0 (r := (39, [some (.ref 143), some (.int (zI dp)), some (.int (zI fm)), some (.int (zI (-1))), some (.int (zI (-2)))], [.int (zI 0), .int (zI 1), .int (zI (-2)), .int (zI (-1)), .int (zI fm), .int (zI dp), .ref 143], es2)) i_225_38 (by rfl) ?_
  refine x_call (vs := [.ref 143, .int (zI dp), .int (zI fm), .int (zI (-1)), .int (zI (-2)), .int (zI 1), .int (zI 0)]) (rs := []) i_225_39 rfl (fun _ => rfl) rfl rfl rfl rfl rfl (pCall_v (p := 79) hs_es2 rfl rfl rfl rfl rfl (by decide) rfl rfl rfl rfl rfl) ?_
  show aW _ _ _ _ _ _ (0, [some (.ref 143), some (.int (zI dp)), some (.int (zI fm)), some (.int (zI (-1))), some (.int (zI (-2))), some (.int (zI 1)), some (.int (zI 0)), none, none, none], [], es2)
  refine along_spec hs_es2 (by omega) (by omega) (by omega) (by omega) (by omega) (by omega) (fun es3 p_es3 => ?_)
  have hs_es3 : sh es3 := p_es3.1
  show aW _ _ _ _ _ _ (42, [some (.ref 143), some (.int (zI dp)), some (.int (zI fm)), some (.int (zI (-1))), some (.int (zI (-2)))], [], es3)
  refine x_iinc (x := (-2)) i_225_42 rfl (by show 4 < 5; decide) ?_
  show aW _ _ _ _ _ _ (45, [some (.ref 143), some (.int (zI dp)), some (.int (zI fm)), some (.int (zI (-1))), some (.int (zI (-1)))], [], es3)
  refine x0 (r := (12, [some (.ref 143), some (.int (zI dp)), some (.int (zI fm)), some (.int (zI (-1))), some (.int (zI (-1)))], [], es3)) i_225_45 rfl ?_
  refine x0 (r := (14, [some (.ref 143), some (.int (zI dp)), some (.int (zI fm)), some (.int (zI (-1))), some (.int (zI (-1)))], [.int (zI (-1))], es3)) i_225_12 rfl ?_
  refine x0 (r := (15, [some (.ref 143), some (.int (zI dp)), some (.int (zI fm)), some (.int (zI (-1))), some (.int (zI (-1)))], [.int (zI 2), .int (zI (-1))], es3)) i_225_14 (by rfl) ?_
  refine x_cmpF i_225_15 (by unfold i32 iLO iHI; omega) (by unfold i32 iLO iHI; omega) rfl (by simp only [zC, cR]; omega) ?_
  refine x0 (r := (19, [some (.ref 143), some (.int (zI dp)), some (.int (zI fm)), some (.int (zI (-1))), some (.int (zI (-1)))], [.int (zI (-1))], es3)) i_225_18 rfl ?_
  refine x0 (r := (20, [some (.ref 143), some (.int (zI dp)), some (.int (zI fm)), some (.int (zI (-1))), some (.int (zI (-1)))], [.int (zI (-1)), .int (zI (-1))], es3)) i_225_19 rfl ?_
  refine x_imul i_225_20 ?_
  show aW _ _ _ _ _ _ (21, [some (.ref 143), some (.int (zI dp)), some (.int (zI fm)), some (.int (zI (-1))), some (.int (zI (-1)))], [.int (zI 1)], es3)
  refine x0 (r := (23, [some (.ref 143), some (.int (zI dp)), some (.int (zI fm)), some (.int (zI (-1))), some (.int (zI (-1)))], [.int (zI (-1)), .int (zI 1)], es3)) i_225_21 rfl ?_
  refine x0 (r := (25, [some (.ref 143), some (.int (zI dp)), some (.int (zI fm)), some (.int (zI (-1))), some (.int (zI (-1)))], [.int (zI (-1)), .int (zI (-1)), .int (zI 1)], es3)) i_225_23 rfl ?_
  refine x_imul i_225_25 ?_
  show aW _ _ _ _ _ _ (26, [some (.ref 143), some (.int (zI dp)), some (.int (zI fm)), some (.int (zI (-1))), some (.int (zI (-1)))], [.int (zI 1), .int (zI 1)], es3)
  refine x_iadd i_225_26 ?_
  show aW _ _ _ _ _ _ (27, [some (.ref 143), some (.int (zI dp)), some (.int (zI fm)), some (.int (zI (-1))), some (.int (zI (-1)))], [.int (zI 2)], es3)
  refine x0 (r := (28, [some (.ref 143), some (.int (zI dp)), some (.int (zI fm)), some (.int (zI (-1))), some (.int (zI (-1)))], [.int (zI 5), .int (zI 2)], es3)) i_225_27 (by rfl) ?_
  refine x_cmpT i_225_28 (by unfold i32 iLO iHI; omega) (by unfold i32 iLO iHI; omega) rfl (by simp only [zC, cR]; omega) ?_
  refine x_iinc (x := (-1)) i_225_42 rfl (by show 4 < 5; decide) ?_
  show aW _ _ _ _ _ _ (45, [some (.ref 143), some (.int (zI dp)), some (.int (zI fm)), some (.int (zI (-1))), some (.int (zI 0))], [], es3)
  refine x0 (r := (12, [some (.ref 143), some (.int (zI dp)), some (.int (zI fm)), some (.int (zI (-1))), some (.int (zI 0))], [], es3)) i_225_45 rfl ?_
  refine x0 (r := (14, [some (.ref 143), some (.int (zI dp)), some (.int (zI fm)), some (.int (zI (-1))), some (.int (zI 0))], [.int (zI 0)], es3)) i_225_12 rfl ?_
  refine x0 (r := (15, [some (.ref 143), some (.int (zI dp)), some (.int (zI fm)), some (.int (zI (-1))), some (.int (zI 0))], [.int (zI 2), .int (zI 0)], es3)) i_225_14 (by rfl) ?_
  refine x_cmpF i_225_15 (by unfold i32 iLO iHI; omega) (by unfold i32 iLO iHI; omega) rfl (by simp only [zC, cR]; omega) ?_
  refine x0 (r := (19, [some (.ref 143), some (.int (zI dp)), some (.int (zI fm)), some (.int (zI (-1))), some (.int (zI 0))], [.int (zI (-1))], es3)) i_225_18 rfl ?_
  refine x0 (r := (20, [some (.ref 143), some (.int (zI dp)), some (.int (zI fm)), some (.int (zI (-1))), some (.int (zI 0))], [.int (zI (-1)), .int (zI (-1))], es3)) i_225_19 rfl ?_
  refine x_imul i_225_20 ?_
  show aW _ _ _ _ _ _ (21, [some (.ref 143), some (.int (zI dp)), some (.int (zI fm)), some (.int (zI (-1))), some (.int (zI 0))], [.int (zI 1)], es3)
  refine x0 (r := (23, [some (.ref 143), some (.int (zI dp)), some (.int (zI fm)), some (.int (zI (-1))), some (.int (zI 0))], [.int (zI 0), .int (zI 1)], es3)) i_225_21 rfl ?_
  refine x0 (r := (25, [some (.ref 143), some (.int (zI dp)), some (.int (zI fm)), some (.int (zI (-1))), some (.int (zI 0))], [.int (zI 0), .int (zI 0), .int (zI 1)], es3)) i_225_23 rfl ?_
  refine x_imul i_225_25 ?_
  show aW _ _ _ _ _ _ (26, [some (.ref 143), some (.int (zI dp)), some (.int (zI fm)), some (.int (zI (-1))), some (.int (zI 0))], [.int (zI 0), .int (zI 1)], es3)
  refine x_iadd i_225_26 ?_
  show aW _ _ _ _ _ _ (27, [some (.ref 143), some (.int (zI dp)), some (.int (zI fm)), some (.int (zI (-1))), some (.int (zI 0))], [.int (zI 1)], es3)
  refine x0 (r := (28, [some (.ref 143), some (.int (zI dp)), some (.int (zI fm)), some (.int (zI (-1))), some (.int (zI 0))], [.int (zI 5), .int (zI 1)], es3)) i_225_27 (by rfl) ?_
  refine x_cmpT i_225_28 (by unfold i32 iLO iHI; omega) (by unfold i32 iLO iHI; omega) rfl (by simp only [zC, cR]; omega) ?_
  refine x_iinc (x := 0) i_225_42 rfl (by show 4 < 5; decide) ?_
  show aW _ _ _ _ _ _ (45, [some (.ref 143), some (.int (zI dp)), some (.int (zI fm)), some (.int (zI (-1))), some (.int (zI 1))], [], es3)
  refine x0 (r := (12, [some (.ref 143), some (.int (zI dp)), some (.int (zI fm)), some (.int (zI (-1))), some (.int (zI 1))], [], es3)) i_225_45 rfl ?_
  refine x0 (r := (14, [some (.ref 143), some (.int (zI dp)), some (.int (zI fm)), some (.int (zI (-1))), some (.int (zI 1))], [.int (zI 1)], es3)) i_225_12 rfl ?_
  refine x0 (r := (15, [some (.ref 143), some (.int (zI dp)), some (.int (zI fm)), some (.int (zI (-1))), some (.int (zI 1))], [.int (zI 2), .int (zI 1)], es3)) i_225_14 (by rfl) ?_
  refine x_cmpF i_225_15 (by unfold i32 iLO iHI; omega) (by unfold i32 iLO iHI; omega) rfl (by simp only [zC, cR]; omega) ?_
  refine x0 (r := (19, [some (.ref 143), some (.int (zI dp)), some (.int (zI fm)), some (.int (zI (-1))), some (.int (zI 1))], [.int (zI (-1))], es3)) i_225_18 rfl ?_
  refine x0 (r := (20, [some (.ref 143), some (.int (zI dp)), some (.int (zI fm)), some (.int (zI (-1))), some (.int (zI 1))], [.int (zI (-1)), .int (zI (-1))], es3)) i_225_19 rfl ?_
  refine x_imul i_225_20 ?_
  show aW _ _ _ _ _ _ (21, [some (.ref 143), some (.int (zI dp)), some (.int (zI fm)), some (.int (zI (-1))), some (.int (zI 1))], [.int (zI 1)], es3)
  refine x0 (r := (23, [some (.ref 143), some (.int (zI dp)), some (.int (zI fm)), some (.int (zI (-1))), some (.int (zI 1))], [.int (zI 1), .int (zI 1)], es3)) i_225_21 rfl ?_
  refine x0 (r := (25, [some (.ref 143), some (.int (zI dp)), some (.int (zI fm)), some (.int (zI (-1))), some (.int (zI 1))], [.int (zI 1), .int (zI 1), .int (zI 1)], es3)) i_225_23 rfl ?_
  refine x_imul i_225_25 ?_
  show aW _ _ _ _ _ _ (26, [some (.ref 143), some (.int (zI dp)), some (.int (zI fm)), some (.int (zI (-1))), some (.int (zI 1))], [.int (zI 1), .int (zI 1)], es3)
  refine x_iadd i_225_26 ?_
  show aW _ _ _ _ _ _ (27, [some (.ref 143), some (.int (zI dp)), some (.int (zI fm)), some (.int (zI (-1))), some (.int (zI 1))], [.int (zI 2)], es3)
  refine x0 (r := (28, [some (.ref 143), some (.int (zI dp)), some (.int (zI fm)), some (.int (zI (-1))), some (.int (zI 1))], [.int (zI 5), .int (zI 2)], es3)) i_225_27 (by rfl) ?_
  refine x_cmpT i_225_28 (by unfold i32 iLO iHI; omega) (by unfold i32 iLO iHI; omega) rfl (by simp only [zC, cR]; omega) ?_
  refine x_iinc (x := 1) i_225_42 rfl (by show 4 < 5; decide) ?_
  show aW _ _ _ _ _ _ (45, [some (.ref 143), some (.int (zI dp)), some (.int (zI fm)), some (.int (zI (-1))), some (.int (zI 2))], [], es3)
  refine x0 (r := (12, [some (.ref 143), some (.int (zI dp)), some (.int (zI fm)), some (.int (zI (-1))), some (.int (zI 2))], [], es3)) i_225_45 rfl ?_
  refine x0 (r := (14, [some (.ref 143), some (.int (zI dp)), some (.int (zI fm)), some (.int (zI (-1))), some (.int (zI 2))], [.int (zI 2)], es3)) i_225_12 rfl ?_
  refine x0 (r := (15, [some (.ref 143), some (.int (zI dp)), some (.int (zI fm)), some (.int (zI (-1))), some (.int (zI 2))], [.int (zI 2), .int (zI 2)], es3)) i_225_14 (by rfl) ?_
  refine x_cmpF i_225_15 (by unfold i32 iLO iHI; omega) (by unfold i32 iLO iHI; omega) rfl (by simp only [zC, cR]; omega) ?_
  refine x0 (r := (19, [some (.ref 143), some (.int (zI dp)), some (.int (zI fm)), some (.int (zI (-1))), some (.int (zI 2))], [.int (zI (-1))], es3)) i_225_18 rfl ?_
  refine x0 (r := (20, [some (.ref 143), some (.int (zI dp)), some (.int (zI fm)), some (.int (zI (-1))), some (.int (zI 2))], [.int (zI (-1)), .int (zI (-1))], es3)) i_225_19 rfl ?_
  refine x_imul i_225_20 ?_
  show aW _ _ _ _ _ _ (21, [some (.ref 143), some (.int (zI dp)), some (.int (zI fm)), some (.int (zI (-1))), some (.int (zI 2))], [.int (zI 1)], es3)
  refine x0 (r := (23, [some (.ref 143), some (.int (zI dp)), some (.int (zI fm)), some (.int (zI (-1))), some (.int (zI 2))], [.int (zI 2), .int (zI 1)], es3)) i_225_21 rfl ?_
  refine x0 (r := (25, [some (.ref 143), some (.int (zI dp)), some (.int (zI fm)), some (.int (zI (-1))), some (.int (zI 2))], [.int (zI 2), .int (zI 2), .int (zI 1)], es3)) i_225_23 rfl ?_
  refine x_imul i_225_25 ?_
  show aW _ _ _ _ _ _ (26, [some (.ref 143), some (.int (zI dp)), some (.int (zI fm)), some (.int (zI (-1))), some (.int (zI 2))], [.int (zI 4), .int (zI 1)], es3)
  refine x_iadd i_225_26 ?_
  show aW _ _ _ _ _ _ (27, [some (.ref 143), some (.int (zI dp)), some (.int (zI fm)), some (.int (zI (-1))), some (.int (zI 2))], [.int (zI 5)], es3)
  refine x0 (r := (28, [some (.ref 143), some (.int (zI dp)), some (.int (zI fm)), some (.int (zI (-1))), some (.int (zI 2))], [.int (zI 5), .int (zI 5)], es3)) i_225_27 (by rfl) ?_
  refine x_cmpF i_225_28 (by unfold i32 iLO iHI; omega) (by unfold i32 iLO iHI; omega) rfl (by simp only [zC, cR]; omega) ?_
  refine x0 (r := (32, [some (.ref 143), some (.int (zI dp)), some (.int (zI fm)), some (.int (zI (-1))), some (.int (zI 2))], [.ref 143], es3)) i_225_31 rfl ?_
  refine x0 (r := (33, [some (.ref 143), some (.int (zI dp)), some (.int (zI fm)), some (.int (zI (-1))), some (.int (zI 2))], [.int (zI dp), .ref 143], es3)) i_225_32 rfl ?_
  refine x0 (r := (34, [some (.ref 143), some (.int (zI dp)), some (.int (zI fm)), some (.int (zI (-1))), some (.int (zI 2))], [.int (zI fm), .int (zI dp), .ref 143], es3)) i_225_33 rfl ?_
  refine x0 (r := (35, [some (.ref 143), some (.int (zI dp)), some (.int (zI fm)), some (.int (zI (-1))), some (.int (zI 2))], [.int (zI (-1)), .int (zI fm), .int (zI dp), .ref 143], es3)) i_225_34 rfl ?_
  refine x0 (r := (37, [some (.ref 143), some (.int (zI dp)), some (.int (zI fm)), some (.int (zI (-1))), some (.int (zI 2))], [.int (zI 2), .int (zI (-1)), .int (zI fm), .int (zI dp), .ref 143], es3)) i_225_35 rfl ?_
  refine x0 (r := (38, [some (.ref 143), some (.int (zI dp)), some (.int (zI fm)), some (.int (zI (-1))), some (.int (zI 2))], [.int (zI 1), .int (zI 2), .int (zI (-1)), .int (zI fm), .int (zI dp), .ref 143], es3)) i_225_37 (by rfl) ?_
  refine x0 (r := (39, [some (.ref 143), some (.int (zI dp)), some (.int (zI fm)), some (.int (zI (-1))), some (.int (zI 2))], [.int (zI 0), .int (zI 1), .int (zI 2), .int (zI (-1)), .int (zI fm), .int (zI dp), .ref 143], es3)) i_225_38 (by rfl) ?_
  refine x_call (vs := [.ref 143, .int (zI dp), .int (zI fm), .int (zI (-1)), .int (zI 2), .int (zI 1), .int (zI 0)]) (rs := []) i_225_39 rfl (fun _ => rfl) rfl rfl rfl rfl rfl (pCall_v (p := 79) hs_es3 rfl rfl rfl rfl rfl (by decide) rfl rfl rfl rfl rfl) ?_
  show aW _ _ _ _ _ _ (0, [some (.ref 143), some (.int (zI dp)), some (.int (zI fm)), some (.int (zI (-1))), some (.int (zI 2)), some (.int (zI 1)), some (.int (zI 0)), none, none, none], [], es3)
  refine along_spec hs_es3 (by omega) (by omega) (by omega) (by omega) (by omega) (by omega) (fun es4 p_es4 => ?_)
  have hs_es4 : sh es4 := p_es4.1
  show aW _ _ _ _ _ _ (42, [some (.ref 143), some (.int (zI dp)), some (.int (zI fm)), some (.int (zI (-1))), some (.int (zI 2))], [], es4)
  refine x_iinc (x := 2) i_225_42 rfl (by show 4 < 5; decide) ?_
  show aW _ _ _ _ _ _ (45, [some (.ref 143), some (.int (zI dp)), some (.int (zI fm)), some (.int (zI (-1))), some (.int (zI 3))], [], es4)
  refine x0 (r := (12, [some (.ref 143), some (.int (zI dp)), some (.int (zI fm)), some (.int (zI (-1))), some (.int (zI 3))], [], es4)) i_225_45 rfl ?_
  refine x0 (r := (14, [some (.ref 143), some (.int (zI dp)), some (.int (zI fm)), some (.int (zI (-1))), some (.int (zI 3))], [.int (zI 3)], es4)) i_225_12 rfl ?_
  refine x0 (r := (15, [some (.ref 143), some (.int (zI dp)), some (.int (zI fm)), some (.int (zI (-1))), some (.int (zI 3))], [.int (zI 2), .int (zI 3)], es4)) i_225_14 (by rfl) ?_
  refine x_cmpT i_225_15 (by unfold i32 iLO iHI; omega) (by unfold i32 iLO iHI; omega) rfl (by simp only [zC, cR]; omega) ?_
  refine x_iinc (x := (-1)) i_225_48 rfl (by show 3 < 5; decide) ?_
  show aW _ _ _ _ _ _ (51, [some (.ref 143), some (.int (zI dp)), some (.int (zI fm)), some (.int (zI 0)), some (.int (zI 3))], [], es4)
  refine x0 (r := (3, [some (.ref 143), some (.int (zI dp)), some (.int (zI fm)), some (.int (zI 0)), some (.int (zI 3))], [], es4)) i_225_51 rfl ?_
  refine x0 (r := (4, [some (.ref 143), some (.int (zI dp)), some (.int (zI fm)), some (.int (zI 0)), some (.int (zI 3))], [.int (zI 0)], es4)) i_225_3 rfl ?_
  refine x0 (r := (5, [some (.ref 143), some (.int (zI dp)), some (.int (zI fm)), some (.int (zI 0)), some (.int (zI 3))], [.int (zI 2), .int (zI 0)], es4)) i_225_4 (by rfl) ?_
  refine x_cmpF i_225_5 (by unfold i32 iLO iHI; omega) (by unfold i32 iLO iHI; omega) rfl (by simp only [zC, cR]; omega) ?_
  refine x0 (r := (10, [some (.ref 143), some (.int (zI dp)), some (.int (zI fm)), some (.int (zI 0)), some (.int (zI 3))], [.int (zI (-2))], es4)) i_225_8 (by rfl) ?_
  refine x0 (r := (12, [some (.ref 143), some (.int (zI dp)), some (.int (zI fm)), some (.int (zI 0)), some (.int (zI (-2)))], [], es4)) i_225_10 rfl ?_
  refine x0 (r := (14, [some (.ref 143), some (.int (zI dp)), some (.int (zI fm)), some (.int (zI 0)), some (.int (zI (-2)))], [.int (zI (-2))], es4)) i_225_12 rfl ?_
  refine x0 (r := (15, [some (.ref 143), some (.int (zI dp)), some (.int (zI fm)), some (.int (zI 0)), some (.int (zI (-2)))], [.int (zI 2), .int (zI (-2))], es4)) i_225_14 (by rfl) ?_
  refine x_cmpF i_225_15 (by unfold i32 iLO iHI; omega) (by unfold i32 iLO iHI; omega) rfl (by simp only [zC, cR]; omega) ?_
  refine x0 (r := (19, [some (.ref 143), some (.int (zI dp)), some (.int (zI fm)), some (.int (zI 0)), some (.int (zI (-2)))], [.int (zI 0)], es4)) i_225_18 rfl ?_
  refine x0 (r := (20, [some (.ref 143), some (.int (zI dp)), some (.int (zI fm)), some (.int (zI 0)), some (.int (zI (-2)))], [.int (zI 0), .int (zI 0)], es4)) i_225_19 rfl ?_
  refine x_imul i_225_20 ?_
  show aW _ _ _ _ _ _ (21, [some (.ref 143), some (.int (zI dp)), some (.int (zI fm)), some (.int (zI 0)), some (.int (zI (-2)))], [.int (zI 0)], es4)
  refine x0 (r := (23, [some (.ref 143), some (.int (zI dp)), some (.int (zI fm)), some (.int (zI 0)), some (.int (zI (-2)))], [.int (zI (-2)), .int (zI 0)], es4)) i_225_21 rfl ?_
  refine x0 (r := (25, [some (.ref 143), some (.int (zI dp)), some (.int (zI fm)), some (.int (zI 0)), some (.int (zI (-2)))], [.int (zI (-2)), .int (zI (-2)), .int (zI 0)], es4)) i_225_23 rfl ?_
  refine x_imul i_225_25 ?_
  show aW _ _ _ _ _ _ (26, [some (.ref 143), some (.int (zI dp)), some (.int (zI fm)), some (.int (zI 0)), some (.int (zI (-2)))], [.int (zI 4), .int (zI 0)], es4)
  refine x_iadd i_225_26 ?_
  show aW _ _ _ _ _ _ (27, [some (.ref 143), some (.int (zI dp)), some (.int (zI fm)), some (.int (zI 0)), some (.int (zI (-2)))], [.int (zI 4)], es4)
  refine x0 (r := (28, [some (.ref 143), some (.int (zI dp)), some (.int (zI fm)), some (.int (zI 0)), some (.int (zI (-2)))], [.int (zI 5), .int (zI 4)], es4)) i_225_27 (by rfl) ?_
  refine x_cmpT i_225_28 (by unfold i32 iLO iHI; omega) (by unfold i32 iLO iHI; omega) rfl (by simp only [zC, cR]; omega) ?_
  refine x_iinc (x := (-2)) i_225_42 rfl (by show 4 < 5; decide) ?_
  show aW _ _ _ _ _ _ (45, [some (.ref 143), some (.int (zI dp)), some (.int (zI fm)), some (.int (zI 0)), some (.int (zI (-1)))], [], es4)
  refine x0 (r := (12, [some (.ref 143), some (.int (zI dp)), some (.int (zI fm)), some (.int (zI 0)), some (.int (zI (-1)))], [], es4)) i_225_45 rfl ?_
  refine x0 (r := (14, [some (.ref 143), some (.int (zI dp)), some (.int (zI fm)), some (.int (zI 0)), some (.int (zI (-1)))], [.int (zI (-1))], es4)) i_225_12 rfl ?_
  refine x0 (r := (15, [some (.ref 143), some (.int (zI dp)), some (.int (zI fm)), some (.int (zI 0)), some (.int (zI (-1)))], [.int (zI 2), .int (zI (-1))], es4)) i_225_14 (by rfl) ?_
  refine x_cmpF i_225_15 (by unfold i32 iLO iHI; omega) (by unfold i32 iLO iHI; omega) rfl (by simp only [zC, cR]; omega) ?_
  refine x0 (r := (19, [some (.ref 143), some (.int (zI dp)), some (.int (zI fm)), some (.int (zI 0)), some (.int (zI (-1)))], [.int (zI 0)], es4)) i_225_18 rfl ?_
  refine x0 (r := (20, [some (.ref 143), some (.int (zI dp)), some (.int (zI fm)), some (.int (zI 0)), some (.int (zI (-1)))], [.int (zI 0), .int (zI 0)], es4)) i_225_19 rfl ?_
  refine x_imul i_225_20 ?_
  show aW _ _ _ _ _ _ (21, [some (.ref 143), some (.int (zI dp)), some (.int (zI fm)), some (.int (zI 0)), some (.int (zI (-1)))], [.int (zI 0)], es4)
  refine x0 (r := (23, [some (.ref 143), some (.int (zI dp)), some (.int (zI fm)), some (.int (zI 0)), some (.int (zI (-1)))], [.int (zI (-1)), .int (zI 0)], es4)) i_225_21 rfl ?_
  refine x0 (r := (25, [some (.ref 143), some (.int (zI dp)), some (.int (zI fm)), some (.int (zI 0)), some (.int (zI (-1)))], [.int (zI (-1)), .int (zI (-1)), .int (zI 0)], es4)) i_225_23 rfl ?_
  refine x_imul i_225_25 ?_
  show aW _ _ _ _ _ _ (26, [some (.ref 143), some (.int (zI dp)), some (.int (zI fm)), some (.int (zI 0)), some (.int (zI (-1)))], [.int (zI 1), .int (zI 0)], es4)
  refine x_iadd i_225_26 ?_
  show aW _ _ _ _ _ _ (27, [some (.ref 143), some (.int (zI dp)), some (.int (zI fm)), some (.int (zI 0)), some (.int (zI (-1)))], [.int (zI 1)], es4)
  refine x0 (r := (28, [some (.ref 143), some (.int (zI dp)), some (.int (zI fm)), some (.int (zI 0)), some (.int (zI (-1)))], [.int (zI 5), .int (zI 1)], es4)) i_225_27 (by rfl) ?_
  refine x_cmpT i_225_28 (by unfold i32 iLO iHI; omega) (by unfold i32 iLO iHI; omega) rfl (by simp only [zC, cR]; omega) ?_
  refine x_iinc (x := (-1)) i_225_42 rfl (by show 4 < 5; decide) ?_
  show aW _ _ _ _ _ _ (45, [some (.ref 143), some (.int (zI dp)), some (.int (zI fm)), some (.int (zI 0)), some (.int (zI 0))], [], es4)
  refine x0 (r := (12, [some (.ref 143), some (.int (zI dp)), some (.int (zI fm)), some (.int (zI 0)), some (.int (zI 0))], [], es4)) i_225_45 rfl ?_
  refine x0 (r := (14, [some (.ref 143), some (.int (zI dp)), some (.int (zI fm)), some (.int (zI 0)), some (.int (zI 0))], [.int (zI 0)], es4)) i_225_12 rfl ?_
  refine x0 (r := (15, [some (.ref 143), some (.int (zI dp)), some (.int (zI fm)), some (.int (zI 0)), some (.int (zI 0))], [.int (zI 2), .int (zI 0)], es4)) i_225_14 (by rfl) ?_
  refine x_cmpF i_225_15 (by unfold i32 iLO iHI; omega) (by unfold i32 iLO iHI; omega) rfl (by simp only [zC, cR]; omega) ?_
  refine x0 (r := (19, [some (.ref 143), some (.int (zI dp)), some (.int (zI fm)), some (.int (zI 0)), some (.int (zI 0))], [.int (zI 0)], es4)) i_225_18 rfl ?_
  refine x0 (r := (20, [some (.ref 143), some (.int (zI dp)), some (.int (zI fm)), some (.int (zI 0)), some (.int (zI 0))], [.int (zI 0), .int (zI 0)], es4)) i_225_19 rfl ?_
  refine x_imul i_225_20 ?_
  show aW _ _ _ _ _ _ (21, [some (.ref 143), some (.int (zI dp)), some (.int (zI fm)), some (.int (zI 0)), some (.int (zI 0))], [.int (zI 0)], es4)
  refine x0 (r := (23, [some (.ref 143), some (.int (zI dp)), some (.int (zI fm)), some (.int (zI 0)), some (.int (zI 0))], [.int (zI 0), .int (zI 0)], es4)) i_225_21 rfl ?_
  refine x0 (r := (25, [some (.ref 143), some (.int (zI dp)), some (.int (zI fm)), some (.int (zI 0)), some (.int (zI 0))], [.int (zI 0), .int (zI 0), .int (zI 0)], es4)) i_225_23 rfl ?_
  refine x_imul i_225_25 ?_
  show aW _ _ _ _ _ _ (26, [some (.ref 143), some (.int (zI dp)), some (.int (zI fm)), some (.int (zI 0)), some (.int (zI 0))], [.int (zI 0), .int (zI 0)], es4)
  refine x_iadd i_225_26 ?_
  show aW _ _ _ _ _ _ (27, [some (.ref 143), some (.int (zI dp)), some (.int (zI fm)), some (.int (zI 0)), some (.int (zI 0))], [.int (zI 0)], es4)
  refine x0 (r := (28, [some (.ref 143), some (.int (zI dp)), some (.int (zI fm)), some (.int (zI 0)), some (.int (zI 0))], [.int (zI 5), .int (zI 0)], es4)) i_225_27 (by rfl) ?_
  refine x_cmpT i_225_28 (by unfold i32 iLO iHI; omega) (by unfold i32 iLO iHI; omega) rfl (by simp only [zC, cR]; omega) ?_
  refine x_iinc (x := 0) i_225_42 rfl (by show 4 < 5; decide) ?_
  show aW _ _ _ _ _ _ (45, [some (.ref 143), some (.int (zI dp)), some (.int (zI fm)), some (.int (zI 0)), some (.int (zI 1))], [], es4)
  refine x0 (r := (12, [some (.ref 143), some (.int (zI dp)), some (.int (zI fm)), some (.int (zI 0)), some (.int (zI 1))], [], es4)) i_225_45 rfl ?_
  refine x0 (r := (14, [some (.ref 143), some (.int (zI dp)), some (.int (zI fm)), some (.int (zI 0)), some (.int (zI 1))], [.int (zI 1)], es4)) i_225_12 rfl ?_
  refine x0 (r := (15, [some (.ref 143), some (.int (zI dp)), some (.int (zI fm)), some (.int (zI 0)), some (.int (zI 1))], [.int (zI 2), .int (zI 1)], es4)) i_225_14 (by rfl) ?_
  refine x_cmpF i_225_15 (by unfold i32 iLO iHI; omega) (by unfold i32 iLO iHI; omega) rfl (by simp only [zC, cR]; omega) ?_
  refine x0 (r := (19, [some (.ref 143), some (.int (zI dp)), some (.int (zI fm)), some (.int (zI 0)), some (.int (zI 1))], [.int (zI 0)], es4)) i_225_18 rfl ?_
  refine x0 (r := (20, [some (.ref 143), some (.int (zI dp)), some (.int (zI fm)), some (.int (zI 0)), some (.int (zI 1))], [.int (zI 0), .int (zI 0)], es4)) i_225_19 rfl ?_
  refine x_imul i_225_20 ?_
  show aW _ _ _ _ _ _ (21, [some (.ref 143), some (.int (zI dp)), some (.int (zI fm)), some (.int (zI 0)), some (.int (zI 1))], [.int (zI 0)], es4)
  refine x0 (r := (23, [some (.ref 143), some (.int (zI dp)), some (.int (zI fm)), some (.int (zI 0)), some (.int (zI 1))], [.int (zI 1), .int (zI 0)], es4)) i_225_21 rfl ?_
  refine x0 (r := (25, [some (.ref 143), some (.int (zI dp)), some (.int (zI fm)), some (.int (zI 0)), some (.int (zI 1))], [.int (zI 1), .int (zI 1), .int (zI 0)], es4)) i_225_23 rfl ?_
  refine x_imul i_225_25 ?_
  show aW _ _ _ _ _ _ (26, [some (.ref 143), some (.int (zI dp)), some (.int (zI fm)), some (.int (zI 0)), some (.int (zI 1))], [.int (zI 1), .int (zI 0)], es4)
  refine x_iadd i_225_26 ?_
  show aW _ _ _ _ _ _ (27, [some (.ref 143), some (.int (zI dp)), some (.int (zI fm)), some (.int (zI 0)), some (.int (zI 1))], [.int (zI 1)], es4)
  refine x0 (r := (28, [some (.ref 143), some (.int (zI dp)), some (.int (zI fm)), some (.int (zI 0)), some (.int (zI 1))], [.int (zI 5), .int (zI 1)], es4)) i_225_27 (by rfl) ?_
  refine x_cmpT i_225_28 (by unfold i32 iLO iHI; omega) (by unfold i32 iLO iHI; omega) rfl (by simp only [zC, cR]; omega) ?_
  refine x_iinc (x := 1) i_225_42 rfl (by show 4 < 5; decide) ?_
  show aW _ _ _ _ _ _ (45, [some (.ref 143), some (.int (zI dp)), some (.int (zI fm)), some (.int (zI 0)), some (.int (zI 2))], [], es4)
  refine x0 (r := (12, [some (.ref 143), some (.int (zI dp)), some (.int (zI fm)), some (.int (zI 0)), some (.int (zI 2))], [], es4)) i_225_45 rfl ?_
  refine x0 (r := (14, [some (.ref 143), some (.int (zI dp)), some (.int (zI fm)), some (.int (zI 0)), some (.int (zI 2))], [.int (zI 2)], es4)) i_225_12 rfl ?_
  refine x0 (r := (15, [some (.ref 143), some (.int (zI dp)), some (.int (zI fm)), some (.int (zI 0)), some (.int (zI 2))], [.int (zI 2), .int (zI 2)], es4)) i_225_14 (by rfl) ?_
  refine x_cmpF i_225_15 (by unfold i32 iLO iHI; omega) (by unfold i32 iLO iHI; omega) rfl (by simp only [zC, cR]; omega) ?_
  refine x0 (r := (19, [some (.ref 143), some (.int (zI dp)), some (.int (zI fm)), some (.int (zI 0)), some (.int (zI 2))], [.int (zI 0)], es4)) i_225_18 rfl ?_
  refine x0 (r := (20, [some (.ref 143), some (.int (zI dp)), some (.int (zI fm)), some (.int (zI 0)), some (.int (zI 2))], [.int (zI 0), .int (zI 0)], es4)) i_225_19 rfl ?_
  refine x_imul i_225_20 ?_
  show aW _ _ _ _ _ _ (21, [some (.ref 143), some (.int (zI dp)), some (.int (zI fm)), some (.int (zI 0)), some (.int (zI 2))], [.int (zI 0)], es4)
  refine x0 (r := (23, [some (.ref 143), some (.int (zI dp)), some (.int (zI fm)), some (.int (zI 0)), some (.int (zI 2))], [.int (zI 2), .int (zI 0)], es4)) i_225_21 rfl ?_
  refine x0 (r := (25, [some (.ref 143), some (.int (zI dp)), some (.int (zI fm)), some (.int (zI 0)), some (.int (zI 2))], [.int (zI 2), .int (zI 2), .int (zI 0)], es4)) i_225_23 rfl ?_
  refine x_imul i_225_25 ?_
  show aW _ _ _ _ _ _ (26, [some (.ref 143), some (.int (zI dp)), some (.int (zI fm)), some (.int (zI 0)), some (.int (zI 2))], [.int (zI 4), .int (zI 0)], es4)
  refine x_iadd i_225_26 ?_
  show aW _ _ _ _ _ _ (27, [some (.ref 143), some (.int (zI dp)), some (.int (zI fm)), some (.int (zI 0)), some (.int (zI 2))], [.int (zI 4)], es4)
  refine x0 (r := (28, [some (.ref 143), some (.int (zI dp)), some (.int (zI fm)), some (.int (zI 0)), some (.int (zI 2))], [.int (zI 5), .int (zI 4)], es4)) i_225_27 (by rfl) ?_
  refine x_cmpT i_225_28 (by unfold i32 iLO iHI; omega) (by unfold i32 iLO iHI; omega) rfl (by simp only [zC, cR]; omega) ?_
  refine x_iinc (x := 2) i_225_42 rfl (by show 4 < 5; decide) ?_
  show aW _ _ _ _ _ _ (45, [some (.ref 143), some (.int (zI dp)), some (.int (zI fm)), some (.int (zI 0)), some (.int (zI 3))], [], es4)
  refine x0 (r := (12, [some (.ref 143), some (.int (zI dp)), some (.int (zI fm)), some (.int (zI 0)), some (.int (zI 3))], [], es4)) i_225_45 rfl ?_
  refine x0 (r := (14, [some (.ref 143), some (.int (zI dp)), some (.int (zI fm)), some (.int (zI 0)), some (.int (zI 3))], [.int (zI 3)], es4)) i_225_12 rfl ?_
  refine x0 (r := (15, [some (.ref 143), some (.int (zI dp)), some (.int (zI fm)), some (.int (zI 0)), some (.int (zI 3))], [.int (zI 2), .int (zI 3)], es4)) i_225_14 (by rfl) ?_
  refine x_cmpT i_225_15 (by unfold i32 iLO iHI; omega) (by unfold i32 iLO iHI; omega) rfl (by simp only [zC, cR]; omega) ?_
  refine x_iinc (x := 0) i_225_48 rfl (by show 3 < 5; decide) ?_
  show aW _ _ _ _ _ _ (51, [some (.ref 143), some (.int (zI dp)), some (.int (zI fm)), some (.int (zI 1)), some (.int (zI 3))], [], es4)
  refine x0 (r := (3, [some (.ref 143), some (.int (zI dp)), some (.int (zI fm)), some (.int (zI 1)), some (.int (zI 3))], [], es4)) i_225_51 rfl ?_
  refine x0 (r := (4, [some (.ref 143), some (.int (zI dp)), some (.int (zI fm)), some (.int (zI 1)), some (.int (zI 3))], [.int (zI 1)], es4)) i_225_3 rfl ?_
  refine x0 (r := (5, [some (.ref 143), some (.int (zI dp)), some (.int (zI fm)), some (.int (zI 1)), some (.int (zI 3))], [.int (zI 2), .int (zI 1)], es4)) i_225_4 (by rfl) ?_
  refine x_cmpF i_225_5 (by unfold i32 iLO iHI; omega) (by unfold i32 iLO iHI; omega) rfl (by simp only [zC, cR]; omega) ?_
  refine x0 (r := (10, [some (.ref 143), some (.int (zI dp)), some (.int (zI fm)), some (.int (zI 1)), some (.int (zI 3))], [.int (zI (-2))], es4)) i_225_8 (by rfl) ?_
  refine x0 (r := (12, [some (.ref 143), some (.int (zI dp)), some (.int (zI fm)), some (.int (zI 1)), some (.int (zI (-2)))], [], es4)) i_225_10 rfl ?_
  refine x0 (r := (14, [some (.ref 143), some (.int (zI dp)), some (.int (zI fm)), some (.int (zI 1)), some (.int (zI (-2)))], [.int (zI (-2))], es4)) i_225_12 rfl ?_
  refine x0 (r := (15, [some (.ref 143), some (.int (zI dp)), some (.int (zI fm)), some (.int (zI 1)), some (.int (zI (-2)))], [.int (zI 2), .int (zI (-2))], es4)) i_225_14 (by rfl) ?_
  refine x_cmpF i_225_15 (by unfold i32 iLO iHI; omega) (by unfold i32 iLO iHI; omega) rfl (by simp only [zC, cR]; omega) ?_
  refine x0 (r := (19, [some (.ref 143), some (.int (zI dp)), some (.int (zI fm)), some (.int (zI 1)), some (.int (zI (-2)))], [.int (zI 1)], es4)) i_225_18 rfl ?_
  refine x0 (r := (20, [some (.ref 143), some (.int (zI dp)), some (.int (zI fm)), some (.int (zI 1)), some (.int (zI (-2)))], [.int (zI 1), .int (zI 1)], es4)) i_225_19 rfl ?_
  refine x_imul i_225_20 ?_
  show aW _ _ _ _ _ _ (21, [some (.ref 143), some (.int (zI dp)), some (.int (zI fm)), some (.int (zI 1)), some (.int (zI (-2)))], [.int (zI 1)], es4)
  refine x0 (r := (23, [some (.ref 143), some (.int (zI dp)), some (.int (zI fm)), some (.int (zI 1)), some (.int (zI (-2)))], [.int (zI (-2)), .int (zI 1)], es4)) i_225_21 rfl ?_
  refine x0 (r := (25, [some (.ref 143), some (.int (zI dp)), some (.int (zI fm)), some (.int (zI 1)), some (.int (zI (-2)))], [.int (zI (-2)), .int (zI (-2)), .int (zI 1)], es4)) i_225_23 rfl ?_
  refine x_imul i_225_25 ?_
  show aW _ _ _ _ _ _ (26, [some (.ref 143), some (.int (zI dp)), some (.int (zI fm)), some (.int (zI 1)), some (.int (zI (-2)))], [.int (zI 4), .int (zI 1)], es4)
  refine x_iadd i_225_26 ?_
  show aW _ _ _ _ _ _ (27, [some (.ref 143), some (.int (zI dp)), some (.int (zI fm)), some (.int (zI 1)), some (.int (zI (-2)))], [.int (zI 5)], es4)
  refine x0 (r := (28, [some (.ref 143), some (.int (zI dp)), some (.int (zI fm)), some (.int (zI 1)), some (.int (zI (-2)))], [.int (zI 5), .int (zI 5)], es4)) i_225_27 (by rfl) ?_
  refine x_cmpF i_225_28 (by unfold i32 iLO iHI; omega) (by unfold i32 iLO iHI; omega) rfl (by simp only [zC, cR]; omega) ?_
  refine x0 (r := (32, [some (.ref 143), some (.int (zI dp)), some (.int (zI fm)), some (.int (zI 1)), some (.int (zI (-2)))], [.ref 143], es4)) i_225_31 rfl ?_
  refine x0 (r := (33, [some (.ref 143), some (.int (zI dp)), some (.int (zI fm)), some (.int (zI 1)), some (.int (zI (-2)))], [.int (zI dp), .ref 143], es4)) i_225_32 rfl ?_
  refine x0 (r := (34, [some (.ref 143), some (.int (zI dp)), some (.int (zI fm)), some (.int (zI 1)), some (.int (zI (-2)))], [.int (zI fm), .int (zI dp), .ref 143], es4)) i_225_33 rfl ?_
  refine x0 (r := (35, [some (.ref 143), some (.int (zI dp)), some (.int (zI fm)), some (.int (zI 1)), some (.int (zI (-2)))], [.int (zI 1), .int (zI fm), .int (zI dp), .ref 143], es4)) i_225_34 rfl ?_
  refine x0 (r := (37, [some (.ref 143), some (.int (zI dp)), some (.int (zI fm)), some (.int (zI 1)), some (.int (zI (-2)))], [.int (zI (-2)), .int (zI 1), .int (zI fm), .int (zI dp), .ref 143], es4)) i_225_35 rfl ?_
  refine x0 (r := (38, [some (.ref 143), some (.int (zI dp)), some (.int (zI fm)), some (.int (zI 1)), some (.int (zI (-2)))], [.int (zI 1), .int (zI (-2)), .int (zI 1), .int (zI fm), .int (zI dp), .ref 143], es4)) i_225_37 (by rfl) ?_
  refine x0 (r := (39, [some (.ref 143), some (.int (zI dp)), some (.int (zI fm)), some (.int (zI 1)), some (.int (zI (-2)))], [.int (zI 0), .int (zI 1), .int (zI (-2)), .int (zI 1), .int (zI fm), .int (zI dp), .ref 143], es4)) i_225_38 (by rfl) ?_
  refine x_call (vs := [.ref 143, .int (zI dp), .int (zI fm), .int (zI 1), .int (zI (-2)), .int (zI 1), .int (zI 0)]) (rs := []) i_225_39 rfl (fun _ => rfl) rfl rfl rfl rfl rfl (pCall_v (p := 79) hs_es4 rfl rfl rfl rfl rfl (by decide) rfl rfl rfl rfl rfl) ?_
  show aW _ _ _ _ _ _ (0, [some (.ref 143), some (.int (zI dp)), some (.int (zI fm)), some (.int (zI 1)), some (.int (zI (-2))), some (.int (zI 1)), some (.int (zI 0)), none, none, none], [], es4)
  refine along_spec hs_es4 (by omega) (by omega) (by omega) (by omega) (by omega) (by omega) (fun es5 p_es5 => ?_)
  have hs_es5 : sh es5 := p_es5.1
  show aW _ _ _ _ _ _ (42, [some (.ref 143), some (.int (zI dp)), some (.int (zI fm)), some (.int (zI 1)), some (.int (zI (-2)))], [], es5)
  refine x_iinc (x := (-2)) i_225_42 rfl (by show 4 < 5; decide) ?_
  show aW _ _ _ _ _ _ (45, [some (.ref 143), some (.int (zI dp)), some (.int (zI fm)), some (.int (zI 1)), some (.int (zI (-1)))], [], es5)
  refine x0 (r := (12, [some (.ref 143), some (.int (zI dp)), some (.int (zI fm)), some (.int (zI 1)), some (.int (zI (-1)))], [], es5)) i_225_45 rfl ?_
  refine x0 (r := (14, [some (.ref 143), some (.int (zI dp)), some (.int (zI fm)), some (.int (zI 1)), some (.int (zI (-1)))], [.int (zI (-1))], es5)) i_225_12 rfl ?_
  refine x0 (r := (15, [some (.ref 143), some (.int (zI dp)), some (.int (zI fm)), some (.int (zI 1)), some (.int (zI (-1)))], [.int (zI 2), .int (zI (-1))], es5)) i_225_14 (by rfl) ?_
  refine x_cmpF i_225_15 (by unfold i32 iLO iHI; omega) (by unfold i32 iLO iHI; omega) rfl (by simp only [zC, cR]; omega) ?_
  refine x0 (r := (19, [some (.ref 143), some (.int (zI dp)), some (.int (zI fm)), some (.int (zI 1)), some (.int (zI (-1)))], [.int (zI 1)], es5)) i_225_18 rfl ?_
  refine x0 (r := (20, [some (.ref 143), some (.int (zI dp)), some (.int (zI fm)), some (.int (zI 1)), some (.int (zI (-1)))], [.int (zI 1), .int (zI 1)], es5)) i_225_19 rfl ?_
  refine x_imul i_225_20 ?_
  show aW _ _ _ _ _ _ (21, [some (.ref 143), some (.int (zI dp)), some (.int (zI fm)), some (.int (zI 1)), some (.int (zI (-1)))], [.int (zI 1)], es5)
  refine x0 (r := (23, [some (.ref 143), some (.int (zI dp)), some (.int (zI fm)), some (.int (zI 1)), some (.int (zI (-1)))], [.int (zI (-1)), .int (zI 1)], es5)) i_225_21 rfl ?_
  refine x0 (r := (25, [some (.ref 143), some (.int (zI dp)), some (.int (zI fm)), some (.int (zI 1)), some (.int (zI (-1)))], [.int (zI (-1)), .int (zI (-1)), .int (zI 1)], es5)) i_225_23 rfl ?_
  refine x_imul i_225_25 ?_
  show aW _ _ _ _ _ _ (26, [some (.ref 143), some (.int (zI dp)), some (.int (zI fm)), some (.int (zI 1)), some (.int (zI (-1)))], [.int (zI 1), .int (zI 1)], es5)
  refine x_iadd i_225_26 ?_
  show aW _ _ _ _ _ _ (27, [some (.ref 143), some (.int (zI dp)), some (.int (zI fm)), some (.int (zI 1)), some (.int (zI (-1)))], [.int (zI 2)], es5)
  refine x0 (r := (28, [some (.ref 143), some (.int (zI dp)), some (.int (zI fm)), some (.int (zI 1)), some (.int (zI (-1)))], [.int (zI 5), .int (zI 2)], es5)) i_225_27 (by rfl) ?_
  refine x_cmpT i_225_28 (by unfold i32 iLO iHI; omega) (by unfold i32 iLO iHI; omega) rfl (by simp only [zC, cR]; omega) ?_
  refine x_iinc (x := (-1)) i_225_42 rfl (by show 4 < 5; decide) ?_
  show aW _ _ _ _ _ _ (45, [some (.ref 143), some (.int (zI dp)), some (.int (zI fm)), some (.int (zI 1)), some (.int (zI 0))], [], es5)
  refine x0 (r := (12, [some (.ref 143), some (.int (zI dp)), some (.int (zI fm)), some (.int (zI 1)), some (.int (zI 0))], [], es5)) i_225_45 rfl ?_
  refine x0 (r := (14, [some (.ref 143), some (.int (zI dp)), some (.int (zI fm)), some (.int (zI 1)), some (.int (zI 0))], [.int (zI 0)], es5)) i_225_12 rfl ?_
  refine x0 (r := (15, [some (.ref 143), some (.int (zI dp)), some (.int (zI fm)), some (.int (zI 1)), some (.int (zI 0))], [.int (zI 2), .int (zI 0)], es5)) i_225_14 (by rfl) ?_
  refine x_cmpF i_225_15 (by unfold i32 iLO iHI; omega) (by unfold i32 iLO iHI; omega) rfl (by simp only [zC, cR]; omega) ?_
  refine x0 (r := (19, [some (.ref 143), some (.int (zI dp)), some (.int (zI fm)), some (.int (zI 1)), some (.int (zI 0))], [.int (zI 1)], es5)) i_225_18 rfl ?_
  refine x0 (r := (20, [some (.ref 143), some (.int (zI dp)), some (.int (zI fm)), some (.int (zI 1)), some (.int (zI 0))], [.int (zI 1), .int (zI 1)], es5)) i_225_19 rfl ?_
  refine x_imul i_225_20 ?_
  show aW _ _ _ _ _ _ (21, [some (.ref 143), some (.int (zI dp)), some (.int (zI fm)), some (.int (zI 1)), some (.int (zI 0))], [.int (zI 1)], es5)
  refine x0 (r := (23, [some (.ref 143), some (.int (zI dp)), some (.int (zI fm)), some (.int (zI 1)), some (.int (zI 0))], [.int (zI 0), .int (zI 1)], es5)) i_225_21 rfl ?_
  refine x0 (r := (25, [some (.ref 143), some (.int (zI dp)), some (.int (zI fm)), some (.int (zI 1)), some (.int (zI 0))], [.int (zI 0), .int (zI 0), .int (zI 1)], es5)) i_225_23 rfl ?_
  refine x_imul i_225_25 ?_
  show aW _ _ _ _ _ _ (26, [some (.ref 143), some (.int (zI dp)), some (.int (zI fm)), some (.int (zI 1)), some (.int (zI 0))], [.int (zI 0), .int (zI 1)], es5)
  refine x_iadd i_225_26 ?_
  show aW _ _ _ _ _ _ (27, [some (.ref 143), some (.int (zI dp)), some (.int (zI fm)), some (.int (zI 1)), some (.int (zI 0))], [.int (zI 1)], es5)
  refine x0 (r := (28, [some (.ref 143), some (.int (zI dp)), some (.int (zI fm)), some (.int (zI 1)), some (.int (zI 0))], [.int (zI 5), .int (zI 1)], es5)) i_225_27 (by rfl) ?_
  refine x_cmpT i_225_28 (by unfold i32 iLO iHI; omega) (by unfold i32 iLO iHI; omega) rfl (by simp only [zC, cR]; omega) ?_
  refine x_iinc (x := 0) i_225_42 rfl (by show 4 < 5; decide) ?_
  show aW _ _ _ _ _ _ (45, [some (.ref 143), some (.int (zI dp)), some (.int (zI fm)), some (.int (zI 1)), some (.int (zI 1))], [], es5)
  refine x0 (r := (12, [some (.ref 143), some (.int (zI dp)), some (.int (zI fm)), some (.int (zI 1)), some (.int (zI 1))], [], es5)) i_225_45 rfl ?_
  refine x0 (r := (14, [some (.ref 143), some (.int (zI dp)), some (.int (zI fm)), some (.int (zI 1)), some (.int (zI 1))], [.int (zI 1)], es5)) i_225_12 rfl ?_
  refine x0 (r := (15, [some (.ref 143), some (.int (zI dp)), some (.int (zI fm)), some (.int (zI 1)), some (.int (zI 1))], [.int (zI 2), .int (zI 1)], es5)) i_225_14 (by rfl) ?_
  refine x_cmpF i_225_15 (by unfold i32 iLO iHI; omega) (by unfold i32 iLO iHI; omega) rfl (by simp only [zC, cR]; omega) ?_
  refine x0 (r := (19, [some (.ref 143), some (.int (zI dp)), some (.int (zI fm)), some (.int (zI 1)), some (.int (zI 1))], [.int (zI 1)], es5)) i_225_18 rfl ?_
  refine x0 (r := (20, [some (.ref 143), some (.int (zI dp)), some (.int (zI fm)), some (.int (zI 1)), some (.int (zI 1))], [.int (zI 1), .int (zI 1)], es5)) i_225_19 rfl ?_
  refine x_imul i_225_20 ?_
  show aW _ _ _ _ _ _ (21, [some (.ref 143), some (.int (zI dp)), some (.int (zI fm)), some (.int (zI 1)), some (.int (zI 1))], [.int (zI 1)], es5)
  refine x0 (r := (23, [some (.ref 143), some (.int (zI dp)), some (.int (zI fm)), some (.int (zI 1)), some (.int (zI 1))], [.int (zI 1), .int (zI 1)], es5)) i_225_21 rfl ?_
  refine x0 (r := (25, [some (.ref 143), some (.int (zI dp)), some (.int (zI fm)), some (.int (zI 1)), some (.int (zI 1))], [.int (zI 1), .int (zI 1), .int (zI 1)], es5)) i_225_23 rfl ?_
  refine x_imul i_225_25 ?_
  show aW _ _ _ _ _ _ (26, [some (.ref 143), some (.int (zI dp)), some (.int (zI fm)), some (.int (zI 1)), some (.int (zI 1))], [.int (zI 1), .int (zI 1)], es5)
  refine x_iadd i_225_26 ?_
  show aW _ _ _ _ _ _ (27, [some (.ref 143), some (.int (zI dp)), some (.int (zI fm)), some (.int (zI 1)), some (.int (zI 1))], [.int (zI 2)], es5)
  refine x0 (r := (28, [some (.ref 143), some (.int (zI dp)), some (.int (zI fm)), some (.int (zI 1)), some (.int (zI 1))], [.int (zI 5), .int (zI 2)], es5)) i_225_27 (by rfl) ?_
  refine x_cmpT i_225_28 (by unfold i32 iLO iHI; omega) (by unfold i32 iLO iHI; omega) rfl (by simp only [zC, cR]; omega) ?_
  refine x_iinc (x := 1) i_225_42 rfl (by show 4 < 5; decide) ?_
  show aW _ _ _ _ _ _ (45, [some (.ref 143), some (.int (zI dp)), some (.int (zI fm)), some (.int (zI 1)), some (.int (zI 2))], [], es5)
  refine x0 (r := (12, [some (.ref 143), some (.int (zI dp)), some (.int (zI fm)), some (.int (zI 1)), some (.int (zI 2))], [], es5)) i_225_45 rfl ?_
  refine x0 (r := (14, [some (.ref 143), some (.int (zI dp)), some (.int (zI fm)), some (.int (zI 1)), some (.int (zI 2))], [.int (zI 2)], es5)) i_225_12 rfl ?_
  refine x0 (r := (15, [some (.ref 143), some (.int (zI dp)), some (.int (zI fm)), some (.int (zI 1)), some (.int (zI 2))], [.int (zI 2), .int (zI 2)], es5)) i_225_14 (by rfl) ?_
  refine x_cmpF i_225_15 (by unfold i32 iLO iHI; omega) (by unfold i32 iLO iHI; omega) rfl (by simp only [zC, cR]; omega) ?_
  refine x0 (r := (19, [some (.ref 143), some (.int (zI dp)), some (.int (zI fm)), some (.int (zI 1)), some (.int (zI 2))], [.int (zI 1)], es5)) i_225_18 rfl ?_
  refine x0 (r := (20, [some (.ref 143), some (.int (zI dp)), some (.int (zI fm)), some (.int (zI 1)), some (.int (zI 2))], [.int (zI 1), .int (zI 1)], es5)) i_225_19 rfl ?_
  refine x_imul i_225_20 ?_
  show aW _ _ _ _ _ _ (21, [some (.ref 143), some (.int (zI dp)), some (.int (zI fm)), some (.int (zI 1)), some (.int (zI 2))], [.int (zI 1)], es5)
  refine x0 (r := (23, [some (.ref 143), some (.int (zI dp)), some (.int (zI fm)), some (.int (zI 1)), some (.int (zI 2))], [.int (zI 2), .int (zI 1)], es5)) i_225_21 rfl ?_
  refine x0 (r := (25, [some (.ref 143), some (.int (zI dp)), some (.int (zI fm)), some (.int (zI 1)), some (.int (zI 2))], [.int (zI 2), .int (zI 2), .int (zI 1)], es5)) i_225_23 rfl ?_
  refine x_imul i_225_25 ?_
  show aW _ _ _ _ _ _ (26, [some (.ref 143), some (.int (zI dp)), some (.int (zI fm)), some (.int (zI 1)), some (.int (zI 2))], [.int (zI 4), .int (zI 1)], es5)
  refine x_iadd i_225_26 ?_
  show aW _ _ _ _ _ _ (27, [some (.ref 143), some (.int (zI dp)), some (.int (zI fm)), some (.int (zI 1)), some (.int (zI 2))], [.int (zI 5)], es5)
  refine x0 (r := (28, [some (.ref 143), some (.int (zI dp)), some (.int (zI fm)), some (.int (zI 1)), some (.int (zI 2))], [.int (zI 5), .int (zI 5)], es5)) i_225_27 (by rfl) ?_
  refine x_cmpF i_225_28 (by unfold i32 iLO iHI; omega) (by unfold i32 iLO iHI; omega) rfl (by simp only [zC, cR]; omega) ?_
  refine x0 (r := (32, [some (.ref 143), some (.int (zI dp)), some (.int (zI fm)), some (.int (zI 1)), some (.int (zI 2))], [.ref 143], es5)) i_225_31 rfl ?_
  refine x0 (r := (33, [some (.ref 143), some (.int (zI dp)), some (.int (zI fm)), some (.int (zI 1)), some (.int (zI 2))], [.int (zI dp), .ref 143], es5)) i_225_32 rfl ?_
  refine x0 (r := (34, [some (.ref 143), some (.int (zI dp)), some (.int (zI fm)), some (.int (zI 1)), some (.int (zI 2))], [.int (zI fm), .int (zI dp), .ref 143], es5)) i_225_33 rfl ?_
  refine x0 (r := (35, [some (.ref 143), some (.int (zI dp)), some (.int (zI fm)), some (.int (zI 1)), some (.int (zI 2))], [.int (zI 1), .int (zI fm), .int (zI dp), .ref 143], es5)) i_225_34 rfl ?_
  refine x0 (r := (37, [some (.ref 143), some (.int (zI dp)), some (.int (zI fm)), some (.int (zI 1)), some (.int (zI 2))], [.int (zI 2), .int (zI 1), .int (zI fm), .int (zI dp), .ref 143], es5)) i_225_35 rfl ?_
  refine x0 (r := (38, [some (.ref 143), some (.int (zI dp)), some (.int (zI fm)), some (.int (zI 1)), some (.int (zI 2))], [.int (zI 1), .int (zI 2), .int (zI 1), .int (zI fm), .int (zI dp), .ref 143], es5)) i_225_37 (by rfl) ?_
  refine x0 (r := (39, [some (.ref 143), some (.int (zI dp)), some (.int (zI fm)), some (.int (zI 1)), some (.int (zI 2))], [.int (zI 0), .int (zI 1), .int (zI 2), .int (zI 1), .int (zI fm), .int (zI dp), .ref 143], es5)) i_225_38 (by rfl) ?_
  refine x_call (vs := [.ref 143, .int (zI dp), .int (zI fm), .int (zI 1), .int (zI 2), .int (zI 1), .int (zI 0)]) (rs := []) i_225_39 rfl (fun _ => rfl) rfl rfl rfl rfl rfl (pCall_v (p := 79) hs_es5 rfl rfl rfl rfl rfl (by decide) rfl rfl rfl rfl rfl) ?_
  show aW _ _ _ _ _ _ (0, [some (.ref 143), some (.int (zI dp)), some (.int (zI fm)), some (.int (zI 1)), some (.int (zI 2)), some (.int (zI 1)), some (.int (zI 0)), none, none, none], [], es5)
  refine along_spec hs_es5 (by omega) (by omega) (by omega) (by omega) (by omega) (by omega) (fun es6 p_es6 => ?_)
  have hs_es6 : sh es6 := p_es6.1
  show aW _ _ _ _ _ _ (42, [some (.ref 143), some (.int (zI dp)), some (.int (zI fm)), some (.int (zI 1)), some (.int (zI 2))], [], es6)
  refine x_iinc (x := 2) i_225_42 rfl (by show 4 < 5; decide) ?_
  show aW _ _ _ _ _ _ (45, [some (.ref 143), some (.int (zI dp)), some (.int (zI fm)), some (.int (zI 1)), some (.int (zI 3))], [], es6)
  refine x0 (r := (12, [some (.ref 143), some (.int (zI dp)), some (.int (zI fm)), some (.int (zI 1)), some (.int (zI 3))], [], es6)) i_225_45 rfl ?_
  refine x0 (r := (14, [some (.ref 143), some (.int (zI dp)), some (.int (zI fm)), some (.int (zI 1)), some (.int (zI 3))], [.int (zI 3)], es6)) i_225_12 rfl ?_
  refine x0 (r := (15, [some (.ref 143), some (.int (zI dp)), some (.int (zI fm)), some (.int (zI 1)), some (.int (zI 3))], [.int (zI 2), .int (zI 3)], es6)) i_225_14 (by rfl) ?_
  refine x_cmpT i_225_15 (by unfold i32 iLO iHI; omega) (by unfold i32 iLO iHI; omega) rfl (by simp only [zC, cR]; omega) ?_
  refine x_iinc (x := 1) i_225_48 rfl (by show 3 < 5; decide) ?_
  show aW _ _ _ _ _ _ (51, [some (.ref 143), some (.int (zI dp)), some (.int (zI fm)), some (.int (zI 2)), some (.int (zI 3))], [], es6)
  refine x0 (r := (3, [some (.ref 143), some (.int (zI dp)), some (.int (zI fm)), some (.int (zI 2)), some (.int (zI 3))], [], es6)) i_225_51 rfl ?_
  refine x0 (r := (4, [some (.ref 143), some (.int (zI dp)), some (.int (zI fm)), some (.int (zI 2)), some (.int (zI 3))], [.int (zI 2)], es6)) i_225_3 rfl ?_
  refine x0 (r := (5, [some (.ref 143), some (.int (zI dp)), some (.int (zI fm)), some (.int (zI 2)), some (.int (zI 3))], [.int (zI 2), .int (zI 2)], es6)) i_225_4 (by rfl) ?_
  refine x_cmpF i_225_5 (by unfold i32 iLO iHI; omega) (by unfold i32 iLO iHI; omega) rfl (by simp only [zC, cR]; omega) ?_
  refine x0 (r := (10, [some (.ref 143), some (.int (zI dp)), some (.int (zI fm)), some (.int (zI 2)), some (.int (zI 3))], [.int (zI (-2))], es6)) i_225_8 (by rfl) ?_
  refine x0 (r := (12, [some (.ref 143), some (.int (zI dp)), some (.int (zI fm)), some (.int (zI 2)), some (.int (zI (-2)))], [], es6)) i_225_10 rfl ?_
  refine x0 (r := (14, [some (.ref 143), some (.int (zI dp)), some (.int (zI fm)), some (.int (zI 2)), some (.int (zI (-2)))], [.int (zI (-2))], es6)) i_225_12 rfl ?_
  refine x0 (r := (15, [some (.ref 143), some (.int (zI dp)), some (.int (zI fm)), some (.int (zI 2)), some (.int (zI (-2)))], [.int (zI 2), .int (zI (-2))], es6)) i_225_14 (by rfl) ?_
  refine x_cmpF i_225_15 (by unfold i32 iLO iHI; omega) (by unfold i32 iLO iHI; omega) rfl (by simp only [zC, cR]; omega) ?_
  refine x0 (r := (19, [some (.ref 143), some (.int (zI dp)), some (.int (zI fm)), some (.int (zI 2)), some (.int (zI (-2)))], [.int (zI 2)], es6)) i_225_18 rfl ?_
  refine x0 (r := (20, [some (.ref 143), some (.int (zI dp)), some (.int (zI fm)), some (.int (zI 2)), some (.int (zI (-2)))], [.int (zI 2), .int (zI 2)], es6)) i_225_19 rfl ?_
  refine x_imul i_225_20 ?_
  show aW _ _ _ _ _ _ (21, [some (.ref 143), some (.int (zI dp)), some (.int (zI fm)), some (.int (zI 2)), some (.int (zI (-2)))], [.int (zI 4)], es6)
  refine x0 (r := (23, [some (.ref 143), some (.int (zI dp)), some (.int (zI fm)), some (.int (zI 2)), some (.int (zI (-2)))], [.int (zI (-2)), .int (zI 4)], es6)) i_225_21 rfl ?_
  refine x0 (r := (25, [some (.ref 143), some (.int (zI dp)), some (.int (zI fm)), some (.int (zI 2)), some (.int (zI (-2)))], [.int (zI (-2)), .int (zI (-2)), .int (zI 4)], es6)) i_225_23 rfl ?_
  refine x_imul i_225_25 ?_
  show aW _ _ _ _ _ _ (26, [some (.ref 143), some (.int (zI dp)), some (.int (zI fm)), some (.int (zI 2)), some (.int (zI (-2)))], [.int (zI 4), .int (zI 4)], es6)
  refine x_iadd i_225_26 ?_
  show aW _ _ _ _ _ _ (27, [some (.ref 143), some (.int (zI dp)), some (.int (zI fm)), some (.int (zI 2)), some (.int (zI (-2)))], [.int (zI 8)], es6)
  refine x0 (r := (28, [some (.ref 143), some (.int (zI dp)), some (.int (zI fm)), some (.int (zI 2)), some (.int (zI (-2)))], [.int (zI 5), .int (zI 8)], es6)) i_225_27 (by rfl) ?_
  refine x_cmpT i_225_28 (by unfold i32 iLO iHI; omega) (by unfold i32 iLO iHI; omega) rfl (by simp only [zC, cR]; omega) ?_
  refine x_iinc (x := (-2)) i_225_42 rfl (by show 4 < 5; decide) ?_
  show aW _ _ _ _ _ _ (45, [some (.ref 143), some (.int (zI dp)), some (.int (zI fm)), some (.int (zI 2)), some (.int (zI (-1)))], [], es6)
  refine x0 (r := (12, [some (.ref 143), some (.int (zI dp)), some (.int (zI fm)), some (.int (zI 2)), some (.int (zI (-1)))], [], es6)) i_225_45 rfl ?_
  refine x0 (r := (14, [some (.ref 143), some (.int (zI dp)), some (.int (zI fm)), some (.int (zI 2)), some (.int (zI (-1)))], [.int (zI (-1))], es6)) i_225_12 rfl ?_
  refine x0 (r := (15, [some (.ref 143), some (.int (zI dp)), some (.int (zI fm)), some (.int (zI 2)), some (.int (zI (-1)))], [.int (zI 2), .int (zI (-1))], es6)) i_225_14 (by rfl) ?_
  refine x_cmpF i_225_15 (by unfold i32 iLO iHI; omega) (by unfold i32 iLO iHI; omega) rfl (by simp only [zC, cR]; omega) ?_
  refine x0 (r := (19, [some (.ref 143), some (.int (zI dp)), some (.int (zI fm)), some (.int (zI 2)), some (.int (zI (-1)))], [.int (zI 2)], es6)) i_225_18 rfl ?_
  refine x0 (r := (20, [some (.ref 143), some (.int (zI dp)), some (.int (zI fm)), some (.int (zI 2)), some (.int (zI (-1)))], [.int (zI 2), .int (zI 2)], es6)) i_225_19 rfl ?_
  refine x_imul i_225_20 ?_
  show aW _ _ _ _ _ _ (21, [some (.ref 143), some (.int (zI dp)), some (.int (zI fm)), some (.int (zI 2)), some (.int (zI (-1)))], [.int (zI 4)], es6)
  refine x0 (r := (23, [some (.ref 143), some (.int (zI dp)), some (.int (zI fm)), some (.int (zI 2)), some (.int (zI (-1)))], [.int (zI (-1)), .int (zI 4)], es6)) i_225_21 rfl ?_
  refine x0 (r := (25, [some (.ref 143), some (.int (zI dp)), some (.int (zI fm)), some (.int (zI 2)), some (.int (zI (-1)))], [.int (zI (-1)), .int (zI (-1)), .int (zI 4)], es6)) i_225_23 rfl ?_
  refine x_imul i_225_25 ?_
  show aW _ _ _ _ _ _ (26, [some (.ref 143), some (.int (zI dp)), some (.int (zI fm)), some (.int (zI 2)), some (.int (zI (-1)))], [.int (zI 1), .int (zI 4)], es6)
  refine x_iadd i_225_26 ?_
  show aW _ _ _ _ _ _ (27, [some (.ref 143), some (.int (zI dp)), some (.int (zI fm)), some (.int (zI 2)), some (.int (zI (-1)))], [.int (zI 5)], es6)
  refine x0 (r := (28, [some (.ref 143), some (.int (zI dp)), some (.int (zI fm)), some (.int (zI 2)), some (.int (zI (-1)))], [.int (zI 5), .int (zI 5)], es6)) i_225_27 (by rfl) ?_
  refine x_cmpF i_225_28 (by unfold i32 iLO iHI; omega) (by unfold i32 iLO iHI; omega) rfl (by simp only [zC, cR]; omega) ?_
  refine x0 (r := (32, [some (.ref 143), some (.int (zI dp)), some (.int (zI fm)), some (.int (zI 2)), some (.int (zI (-1)))], [.ref 143], es6)) i_225_31 rfl ?_
  refine x0 (r := (33, [some (.ref 143), some (.int (zI dp)), some (.int (zI fm)), some (.int (zI 2)), some (.int (zI (-1)))], [.int (zI dp), .ref 143], es6)) i_225_32 rfl ?_
  refine x0 (r := (34, [some (.ref 143), some (.int (zI dp)), some (.int (zI fm)), some (.int (zI 2)), some (.int (zI (-1)))], [.int (zI fm), .int (zI dp), .ref 143], es6)) i_225_33 rfl ?_
  refine x0 (r := (35, [some (.ref 143), some (.int (zI dp)), some (.int (zI fm)), some (.int (zI 2)), some (.int (zI (-1)))], [.int (zI 2), .int (zI fm), .int (zI dp), .ref 143], es6)) i_225_34 rfl ?_
  refine x0 (r := (37, [some (.ref 143), some (.int (zI dp)), some (.int (zI fm)), some (.int (zI 2)), some (.int (zI (-1)))], [.int (zI (-1)), .int (zI 2), .int (zI fm), .int (zI dp), .ref 143], es6)) i_225_35 rfl ?_
  refine x0 (r := (38, [some (.ref 143), some (.int (zI dp)), some (.int (zI fm)), some (.int (zI 2)), some (.int (zI (-1)))], [.int (zI 1), .int (zI (-1)), .int (zI 2), .int (zI fm), .int (zI dp), .ref 143], es6)) i_225_37 (by rfl) ?_
  refine x0 (r := (39, [some (.ref 143), some (.int (zI dp)), some (.int (zI fm)), some (.int (zI 2)), some (.int (zI (-1)))], [.int (zI 0), .int (zI 1), .int (zI (-1)), .int (zI 2), .int (zI fm), .int (zI dp), .ref 143], es6)) i_225_38 (by rfl) ?_
  refine x_call (vs := [.ref 143, .int (zI dp), .int (zI fm), .int (zI 2), .int (zI (-1)), .int (zI 1), .int (zI 0)]) (rs := []) i_225_39 rfl (fun _ => rfl) rfl rfl rfl rfl rfl (pCall_v (p := 79) hs_es6 rfl rfl rfl rfl rfl (by decide) rfl rfl rfl rfl rfl) ?_
  show aW _ _ _ _ _ _ (0, [some (.ref 143), some (.int (zI dp)), some (.int (zI fm)), some (.int (zI 2)), some (.int (zI (-1))), some (.int (zI 1)), some (.int (zI 0)), none, none, none], [], es6)
  refine along_spec hs_es6 (by omega) (by omega) (by omega) (by omega) (by omega) (by omega) (fun es7 p_es7 => ?_)
  have hs_es7 : sh es7 := p_es7.1
  show aW _ _ _ _ _ _ (42, [some (.ref 143), some (.int (zI dp)), some (.int (zI fm)), some (.int (zI 2)), some (.int (zI (-1)))], [], es7)
  refine x_iinc (x := (-1)) i_225_42 rfl (by show 4 < 5; decide) ?_
  show aW _ _ _ _ _ _ (45, [some (.ref 143), some (.int (zI dp)), some (.int (zI fm)), some (.int (zI 2)), some (.int (zI 0))], [], es7)
  refine x0 (r := (12, [some (.ref 143), some (.int (zI dp)), some (.int (zI fm)), some (.int (zI 2)), some (.int (zI 0))], [], es7)) i_225_45 rfl ?_
  refine x0 (r := (14, [some (.ref 143), some (.int (zI dp)), some (.int (zI fm)), some (.int (zI 2)), some (.int (zI 0))], [.int (zI 0)], es7)) i_225_12 rfl ?_
  refine x0 (r := (15, [some (.ref 143), some (.int (zI dp)), some (.int (zI fm)), some (.int (zI 2)), some (.int (zI 0))], [.int (zI 2), .int (zI 0)], es7)) i_225_14 (by rfl) ?_
  refine x_cmpF i_225_15 (by unfold i32 iLO iHI; omega) (by unfold i32 iLO iHI; omega) rfl (by simp only [zC, cR]; omega) ?_
  refine x0 (r := (19, [some (.ref 143), some (.int (zI dp)), some (.int (zI fm)), some (.int (zI 2)), some (.int (zI 0))], [.int (zI 2)], es7)) i_225_18 rfl ?_
  refine x0 (r := (20, [some (.ref 143), some (.int (zI dp)), some (.int (zI fm)), some (.int (zI 2)), some (.int (zI 0))], [.int (zI 2), .int (zI 2)], es7)) i_225_19 rfl ?_
  refine x_imul i_225_20 ?_
  show aW _ _ _ _ _ _ (21, [some (.ref 143), some (.int (zI dp)), some (.int (zI fm)), some (.int (zI 2)), some (.int (zI 0))], [.int (zI 4)], es7)
  refine x0 (r := (23, [some (.ref 143), some (.int (zI dp)), some (.int (zI fm)), some (.int (zI 2)), some (.int (zI 0))], [.int (zI 0), .int (zI 4)], es7)) i_225_21 rfl ?_
  refine x0 (r := (25, [some (.ref 143), some (.int (zI dp)), some (.int (zI fm)), some (.int (zI 2)), some (.int (zI 0))], [.int (zI 0), .int (zI 0), .int (zI 4)], es7)) i_225_23 rfl ?_
  refine x_imul i_225_25 ?_
  show aW _ _ _ _ _ _ (26, [some (.ref 143), some (.int (zI dp)), some (.int (zI fm)), some (.int (zI 2)), some (.int (zI 0))], [.int (zI 0), .int (zI 4)], es7)
  refine x_iadd i_225_26 ?_
  show aW _ _ _ _ _ _ (27, [some (.ref 143), some (.int (zI dp)), some (.int (zI fm)), some (.int (zI 2)), some (.int (zI 0))], [.int (zI 4)], es7)
  refine x0 (r := (28, [some (.ref 143), some (.int (zI dp)), some (.int (zI fm)), some (.int (zI 2)), some (.int (zI 0))], [.int (zI 5), .int (zI 4)], es7)) i_225_27 (by rfl) ?_
  refine x_cmpT i_225_28 (by unfold i32 iLO iHI; omega) (by unfold i32 iLO iHI; omega) rfl (by simp only [zC, cR]; omega) ?_
  refine x_iinc (x := 0) i_225_42 rfl (by show 4 < 5; decide) ?_
  show aW _ _ _ _ _ _ (45, [some (.ref 143), some (.int (zI dp)), some (.int (zI fm)), some (.int (zI 2)), some (.int (zI 1))], [], es7)
  refine x0 (r := (12, [some (.ref 143), some (.int (zI dp)), some (.int (zI fm)), some (.int (zI 2)), some (.int (zI 1))], [], es7)) i_225_45 rfl ?_
  refine x0 (r := (14, [some (.ref 143), some (.int (zI dp)), some (.int (zI fm)), some (.int (zI 2)), some (.int (zI 1))], [.int (zI 1)], es7)) i_225_12 rfl ?_
  refine x0 (r := (15, [some (.ref 143), some (.int (zI dp)), some (.int (zI fm)), some (.int (zI 2)), some (.int (zI 1))], [.int (zI 2), .int (zI 1)], es7)) i_225_14 (by rfl) ?_
  refine x_cmpF i_225_15 (by unfold i32 iLO iHI; omega) (by unfold i32 iLO iHI; omega) rfl (by simp only [zC, cR]; omega) ?_
  refine x0 (r := (19, [some (.ref 143), some (.int (zI dp)), some (.int (zI fm)), some (.int (zI 2)), some (.int (zI 1))], [.int (zI 2)], es7)) i_225_18 rfl ?_
  refine x0 (r := (20, [some (.ref 143), some (.int (zI dp)), some (.int (zI fm)), some (.int (zI 2)), some (.int (zI 1))], [.int (zI 2), .int (zI 2)], es7)) i_225_19 rfl ?_
  refine x_imul i_225_20 ?_
  show aW _ _ _ _ _ _ (21, [some (.ref 143), some (.int (zI dp)), some (.int (zI fm)), some (.int (zI 2)), some (.int (zI 1))], [.int (zI 4)], es7)
  refine x0 (r := (23, [some (.ref 143), some (.int (zI dp)), some (.int (zI fm)), some (.int (zI 2)), some (.int (zI 1))], [.int (zI 1), .int (zI 4)], es7)) i_225_21 rfl ?_
  refine x0 (r := (25, [some (.ref 143), some (.int (zI dp)), some (.int (zI fm)), some (.int (zI 2)), some (.int (zI 1))], [.int (zI 1), .int (zI 1), .int (zI 4)], es7)) i_225_23 rfl ?_
  refine x_imul i_225_25 ?_
  show aW _ _ _ _ _ _ (26, [some (.ref 143), some (.int (zI dp)), some (.int (zI fm)), some (.int (zI 2)), some (.int (zI 1))], [.int (zI 1), .int (zI 4)], es7)
  refine x_iadd i_225_26 ?_
  show aW _ _ _ _ _ _ (27, [some (.ref 143), some (.int (zI dp)), some (.int (zI fm)), some (.int (zI 2)), some (.int (zI 1))], [.int (zI 5)], es7)
  refine x0 (r := (28, [some (.ref 143), some (.int (zI dp)), some (.int (zI fm)), some (.int (zI 2)), some (.int (zI 1))], [.int (zI 5), .int (zI 5)], es7)) i_225_27 (by rfl) ?_
  refine x_cmpF i_225_28 (by unfold i32 iLO iHI; omega) (by unfold i32 iLO iHI; omega) rfl (by simp only [zC, cR]; omega) ?_
  refine x0 (r := (32, [some (.ref 143), some (.int (zI dp)), some (.int (zI fm)), some (.int (zI 2)), some (.int (zI 1))], [.ref 143], es7)) i_225_31 rfl ?_
  refine x0 (r := (33, [some (.ref 143), some (.int (zI dp)), some (.int (zI fm)), some (.int (zI 2)), some (.int (zI 1))], [.int (zI dp), .ref 143], es7)) i_225_32 rfl ?_
  refine x0 (r := (34, [some (.ref 143), some (.int (zI dp)), some (.int (zI fm)), some (.int (zI 2)), some (.int (zI 1))], [.int (zI fm), .int (zI dp), .ref 143], es7)) i_225_33 rfl ?_
  refine x0 (r := (35, [some (.ref 143), some (.int (zI dp)), some (.int (zI fm)), some (.int (zI 2)), some (.int (zI 1))], [.int (zI 2), .int (zI fm), .int (zI dp), .ref 143], es7)) i_225_34 rfl ?_
  refine x0 (r := (37, [some (.ref 143), some (.int (zI dp)), some (.int (zI fm)), some (.int (zI 2)), some (.int (zI 1))], [.int (zI 1), .int (zI 2), .int (zI fm), .int (zI dp), .ref 143], es7)) i_225_35 rfl ?_
  refine x0 (r := (38, [some (.ref 143), some (.int (zI dp)), some (.int (zI fm)), some (.int (zI 2)), some (.int (zI 1))], [.int (zI 1), .int (zI 1), .int (zI 2), .int (zI fm), .int (zI dp), .ref 143], es7)) i_225_37 (by rfl) ?_
  refine x0 (r := (39, [some (.ref 143), some (.int (zI dp)), some (.int (zI fm)), some (.int (zI 2)), some (.int (zI 1))], [.int (zI 0), .int (zI 1), .int (zI 1), .int (zI 2), .int (zI fm), .int (zI dp), .ref 143], es7)) i_225_38 (by rfl) ?_
  refine x_call (vs := [.ref 143, .int (zI dp), .int (zI fm), .int (zI 2), .int (zI 1), .int (zI 1), .int (zI 0)]) (rs := []) i_225_39 rfl (fun _ => rfl) rfl rfl rfl rfl rfl (pCall_v (p := 79) hs_es7 rfl rfl rfl rfl rfl (by decide) rfl rfl rfl rfl rfl) ?_
  show aW _ _ _ _ _ _ (0, [some (.ref 143), some (.int (zI dp)), some (.int (zI fm)), some (.int (zI 2)), some (.int (zI 1)), some (.int (zI 1)), some (.int (zI 0)), none, none, none], [], es7)
  refine along_spec hs_es7 (by omega) (by omega) (by omega) (by omega) (by omega) (by omega) (fun es8 p_es8 => ?_)
  have hs_es8 : sh es8 := p_es8.1
  show aW _ _ _ _ _ _ (42, [some (.ref 143), some (.int (zI dp)), some (.int (zI fm)), some (.int (zI 2)), some (.int (zI 1))], [], es8)
  refine x_iinc (x := 1) i_225_42 rfl (by show 4 < 5; decide) ?_
  show aW _ _ _ _ _ _ (45, [some (.ref 143), some (.int (zI dp)), some (.int (zI fm)), some (.int (zI 2)), some (.int (zI 2))], [], es8)
  refine x0 (r := (12, [some (.ref 143), some (.int (zI dp)), some (.int (zI fm)), some (.int (zI 2)), some (.int (zI 2))], [], es8)) i_225_45 rfl ?_
  refine x0 (r := (14, [some (.ref 143), some (.int (zI dp)), some (.int (zI fm)), some (.int (zI 2)), some (.int (zI 2))], [.int (zI 2)], es8)) i_225_12 rfl ?_
  refine x0 (r := (15, [some (.ref 143), some (.int (zI dp)), some (.int (zI fm)), some (.int (zI 2)), some (.int (zI 2))], [.int (zI 2), .int (zI 2)], es8)) i_225_14 (by rfl) ?_
  refine x_cmpF i_225_15 (by unfold i32 iLO iHI; omega) (by unfold i32 iLO iHI; omega) rfl (by simp only [zC, cR]; omega) ?_
  refine x0 (r := (19, [some (.ref 143), some (.int (zI dp)), some (.int (zI fm)), some (.int (zI 2)), some (.int (zI 2))], [.int (zI 2)], es8)) i_225_18 rfl ?_
  refine x0 (r := (20, [some (.ref 143), some (.int (zI dp)), some (.int (zI fm)), some (.int (zI 2)), some (.int (zI 2))], [.int (zI 2), .int (zI 2)], es8)) i_225_19 rfl ?_
  refine x_imul i_225_20 ?_
  show aW _ _ _ _ _ _ (21, [some (.ref 143), some (.int (zI dp)), some (.int (zI fm)), some (.int (zI 2)), some (.int (zI 2))], [.int (zI 4)], es8)
  refine x0 (r := (23, [some (.ref 143), some (.int (zI dp)), some (.int (zI fm)), some (.int (zI 2)), some (.int (zI 2))], [.int (zI 2), .int (zI 4)], es8)) i_225_21 rfl ?_
  refine x0 (r := (25, [some (.ref 143), some (.int (zI dp)), some (.int (zI fm)), some (.int (zI 2)), some (.int (zI 2))], [.int (zI 2), .int (zI 2), .int (zI 4)], es8)) i_225_23 rfl ?_
  refine x_imul i_225_25 ?_
  show aW _ _ _ _ _ _ (26, [some (.ref 143), some (.int (zI dp)), some (.int (zI fm)), some (.int (zI 2)), some (.int (zI 2))], [.int (zI 4), .int (zI 4)], es8)
  refine x_iadd i_225_26 ?_
  show aW _ _ _ _ _ _ (27, [some (.ref 143), some (.int (zI dp)), some (.int (zI fm)), some (.int (zI 2)), some (.int (zI 2))], [.int (zI 8)], es8)
  refine x0 (r := (28, [some (.ref 143), some (.int (zI dp)), some (.int (zI fm)), some (.int (zI 2)), some (.int (zI 2))], [.int (zI 5), .int (zI 8)], es8)) i_225_27 (by rfl) ?_
  refine x_cmpT i_225_28 (by unfold i32 iLO iHI; omega) (by unfold i32 iLO iHI; omega) rfl (by simp only [zC, cR]; omega) ?_
  refine x_iinc (x := 2) i_225_42 rfl (by show 4 < 5; decide) ?_
  show aW _ _ _ _ _ _ (45, [some (.ref 143), some (.int (zI dp)), some (.int (zI fm)), some (.int (zI 2)), some (.int (zI 3))], [], es8)
  refine x0 (r := (12, [some (.ref 143), some (.int (zI dp)), some (.int (zI fm)), some (.int (zI 2)), some (.int (zI 3))], [], es8)) i_225_45 rfl ?_
  refine x0 (r := (14, [some (.ref 143), some (.int (zI dp)), some (.int (zI fm)), some (.int (zI 2)), some (.int (zI 3))], [.int (zI 3)], es8)) i_225_12 rfl ?_
  refine x0 (r := (15, [some (.ref 143), some (.int (zI dp)), some (.int (zI fm)), some (.int (zI 2)), some (.int (zI 3))], [.int (zI 2), .int (zI 3)], es8)) i_225_14 (by rfl) ?_
  refine x_cmpT i_225_15 (by unfold i32 iLO iHI; omega) (by unfold i32 iLO iHI; omega) rfl (by simp only [zC, cR]; omega) ?_
  refine x_iinc (x := 2) i_225_48 rfl (by show 3 < 5; decide) ?_
  show aW _ _ _ _ _ _ (51, [some (.ref 143), some (.int (zI dp)), some (.int (zI fm)), some (.int (zI 3)), some (.int (zI 3))], [], es8)
  refine x0 (r := (3, [some (.ref 143), some (.int (zI dp)), some (.int (zI fm)), some (.int (zI 3)), some (.int (zI 3))], [], es8)) i_225_51 rfl ?_
  refine x0 (r := (4, [some (.ref 143), some (.int (zI dp)), some (.int (zI fm)), some (.int (zI 3)), some (.int (zI 3))], [.int (zI 3)], es8)) i_225_3 rfl ?_
  refine x0 (r := (5, [some (.ref 143), some (.int (zI dp)), some (.int (zI fm)), some (.int (zI 3)), some (.int (zI 3))], [.int (zI 2), .int (zI 3)], es8)) i_225_4 (by rfl) ?_
  refine x_cmpT i_225_5 (by unfold i32 iLO iHI; omega) (by unfold i32 iLO iHI; omega) rfl (by simp only [zC, cR]; omega) ?_
  refine x_ret (v := none) i_225_54 rfl (fun _ => rfl) rfl rfl rfl ?_
  exact K1 es1 p_es1 es2 p_es2 es3 p_es3 es4 p_es4 es5 p_es5 es6 p_es6 es7 p_es7 es8 p_es8

theorem s_bites0 {O : pOut} {d kc ks : Nat} {Q : pRes → Prop} {es : PH} {dp fm ah : Int} (hs_es : sh es) (hd : 0 ≤ dp ∧ dp ≤ 30) (hf : 0 ≤ fm ∧ fm ≤ 35) (h1 : -1 ≤ ah ∧ ah ≤ 1)
    (K1 : aW O d 226 kc ks Q (3, [some (.ref 143), some (.int (zI dp)), some (.int (zI fm)), some (.int (zI ah)), some (.int (zI (-1))), none], [], es)) :
    aW O d 226 kc ks Q (0, [some (.ref 143), some (.int (zI dp)), some (.int (zI fm)), some (.int (zI ah)), none, none], [], es) := by
  refine x0 (r := (1, [some (.ref 143), some (.int (zI dp)), some (.int (zI fm)), some (.int (zI ah)), none, none], [.int (zI (-1))], es)) i_226_0 (by rfl) ?_
  refine x0 (r := (3, [some (.ref 143), some (.int (zI dp)), some (.int (zI fm)), some (.int (zI ah)), some (.int (zI (-1))), none], [], es)) i_226_1 rfl ?_
  exact K1

theorem s_bitesA {O : pOut} {d kc ks : Nat} {Q : pRes → Prop} {es : PH} {dp fm ah : Int} {x5 : Option Value} (hs_es : sh es) (hd : 0 ≤ dp ∧ dp ≤ 30) (hf : 0 ≤ fm ∧ fm ≤ 35) (h1 : -1 ≤ ah ∧ ah ≤ 1)
    (K1 : ∀ v1 : Int, offP fm (-1) ah es v1 → v1 < 0 → aW O (d + 3) 226 kc ks Q (3, [some (.ref 143), some (.int (zI dp)), some (.int (zI fm)), some (.int (zI ah)), some (.int (zI 1)), some (.int (zI v1))], [], es))
    (K2 : ∀ v1 : Int, offP fm (-1) ah es v1 → ¬ (v1 < 0) → ∀ v3 : Int, v3 = (gA es 87 ((36 * dp) + v1).toNat).toInt → v3 < 0 → aW O (d + 3) 226 kc ks Q (3, [some (.ref 143), some (.int (zI dp)), some (.int (zI fm)), some (.int (zI ah)), some (.int (zI 1)), some (.int (zI v1))], [], es))
    (K3 : ∀ v1 : Int, offP fm (-1) ah es v1 → ¬ (v1 < 0) → ∀ v3 : Int, v3 = (gA es 87 ((36 * dp) + v1).toNat).toInt → ¬ (v3 < 0) → ∀ es5 : PH, alongP dp fm (-1) ah 1 0 es es5 → aW O (d + 3) 226 kc ks Q (3, [some (.ref 143), some (.int (zI dp)), some (.int (zI fm)), some (.int (zI ah)), some (.int (zI 1)), some (.int (zI v1))], [], es5)) :
    aW O (d + 3) 226 kc ks Q (3, [some (.ref 143), some (.int (zI dp)), some (.int (zI fm)), some (.int (zI ah)), some (.int (zI (-1))), x5], [], es) := by
  refine x0 (r := (5, [some (.ref 143), some (.int (zI dp)), some (.int (zI fm)), some (.int (zI ah)), some (.int (zI (-1))), x5], [.int (zI (-1))], es)) i_226_3 rfl ?_
  refine x0 (r := (6, [some (.ref 143), some (.int (zI dp)), some (.int (zI fm)), some (.int (zI ah)), some (.int (zI (-1))), x5], [.int (zI 1), .int (zI (-1))], es)) i_226_5 (by rfl) ?_
  refine x_cmpF i_226_6 (by unfold i32 iLO iHI; omega) (by unfold i32 iLO iHI; omega) rfl (by simp only [zC, cR]; omega) ?_
  refine x0 (r := (10, [some (.ref 143), some (.int (zI dp)), some (.int (zI fm)), some (.int (zI ah)), some (.int (zI (-1))), x5], [.int (zI fm)], es)) i_226_9 rfl ?_
  refine x0 (r := (12, [some (.ref 143), some (.int (zI dp)), some (.int (zI fm)), some (.int (zI ah)), some (.int (zI (-1))), x5], [.int (zI (-1)), .int (zI fm)], es)) i_226_10 rfl ?_
  refine x0 (r := (13, [some (.ref 143), some (.int (zI dp)), some (.int (zI fm)), some (.int (zI ah)), some (.int (zI (-1))), x5], [.int (zI ah), .int (zI (-1)), .int (zI fm)], es)) i_226_12 rfl ?_
  refine x_call (vs := [.int (zI fm), .int (zI (-1)), .int (zI ah)]) (rs := []) i_226_13 rfl (fun _ => rfl) rfl rfl rfl rfl rfl rfl ?_
  show aW _ _ _ _ _ _ (0, [some (.int (zI fm)), some (.int (zI (-1))), some (.int (zI ah)), none, none], [], es)
  refine off_spec hs_es (by omega) (by omega) (by omega) (fun v1 p_v1 => ?_)
  have r_v1 := p_v1.2
  show aW _ _ _ _ _ _ (16, [some (.ref 143), some (.int (zI dp)), some (.int (zI fm)), some (.int (zI ah)), some (.int (zI (-1))), x5], [.int (zI v1)], es)
  refine x0 (r := (18, [some (.ref 143), some (.int (zI dp)), some (.int (zI fm)), some (.int (zI ah)), some (.int (zI (-1))), some (.int (zI v1))], [], es)) i_226_16 rfl ?_
  refine x0 (r := (20, [some (.ref 143), some (.int (zI dp)), some (.int (zI fm)), some (.int (zI ah)), some (.int (zI (-1))), some (.int (zI v1))], [.int (zI v1)], es)) i_226_18 rfl ?_
  by_cases c2 : v1 < 0
  · refine x_ifT i_226_20 (by unfold i32 iLO iHI; omega) rfl (by simp only [zC, cR]; omega) ?_
    refine x_iinc (x := (-1)) i_226_44 rfl (by show 4 < 6; decide) ?_
    show aW _ _ _ _ _ _ (47, [some (.ref 143), some (.int (zI dp)), some (.int (zI fm)), some (.int (zI ah)), some (.int (zI 1)), some (.int (zI v1))], [], es)
    refine x0 (r := (3, [some (.ref 143), some (.int (zI dp)), some (.int (zI fm)), some (.int (zI ah)), some (.int (zI 1)), some (.int (zI v1))], [], es)) i_226_47 rfl ?_
    exact K1 v1 p_v1 c2
  · refine x_ifF i_226_20 (by unfold i32 iLO iHI; omega) rfl (by simp only [zC, cR]; omega) ?_
    refine x0 (r := (24, [some (.ref 143), some (.int (zI dp)), some (.int (zI fm)), some (.int (zI ah)), some (.int (zI (-1))), some (.int (zI v1))], [.ref 143], es)) i_226_23 rfl ?_
    refine x0 (r := (25, [some (.ref 143), some (.int (zI dp)), some (.int (zI fm)), some (.int (zI ah)), some (.int (zI (-1))), some (.int (zI v1))], [.int (zI dp), .ref 143], es)) i_226_24 rfl ?_
    refine x0 (r := (27, [some (.ref 143), some (.int (zI dp)), some (.int (zI fm)), some (.int (zI ah)), some (.int (zI (-1))), some (.int (zI v1))], [.int (zI v1), .int (zI dp), .ref 143], es)) i_226_25 rfl ?_
    refine x_call (vs := [.ref 143, .int (zI dp), .int (zI v1)]) (rs := []) i_226_27 rfl (fun _ => rfl) rfl rfl rfl rfl rfl (pCall_v (p := 79) hs_es rfl rfl rfl rfl rfl (by decide) rfl rfl rfl rfl rfl) ?_
    show aW _ _ _ _ _ _ (0, [some (.ref 143), some (.int (zI dp)), some (.int (zI v1))], [], es)
    refine x0 (r := (1, [some (.ref 143), some (.int (zI dp)), some (.int (zI v1))], [.ref 143], es)) i_219_0 rfl ?_
    refine x_getr (p := 79) (k := 151) i_219_1 hs_es rfl rfl ?_
    show aW _ _ _ _ _ _ (4, [some (.ref 143), some (.int (zI dp)), some (.int (zI v1))], [.ref 151], es)
    refine x0 (r := (6, [some (.ref 143), some (.int (zI dp)), some (.int (zI v1))], [.int (zI 36), .ref 151], es)) i_219_4 (by rfl) ?_
    refine x0 (r := (7, [some (.ref 143), some (.int (zI dp)), some (.int (zI v1))], [.int (zI dp), .int (zI 36), .ref 151], es)) i_219_6 rfl ?_
    refine x_imul i_219_7 ?_
    refine x0 (r := (9, [some (.ref 143), some (.int (zI dp)), some (.int (zI v1))], [.int (zI v1), .int (zI (36 * dp)), .ref 151], es)) i_219_8 rfl ?_
    refine x_iadd i_219_9 ?_
    refine x_iald (p := 87) i_219_10 hs_es rfl (by unfold i32 iLO iHI; omega) (by omega) (by omega) ?_
    obtain ⟨v3, e_v3⟩ : ∃ z : Int, z = (gA es 87 ((36 * dp) + v1).toNat).toInt := ⟨_, rfl⟩
    rw [← e_v3]
    have r_v3 : iLO ≤ v3 ∧ v3 ≤ iHI := by rw [e_v3]; exact i32_rng _
    unfold iLO iHI at r_v3
    refine x_ret (v := some (.int (zI v3))) i_219_11 rfl (fun _ => rfl) rfl rfl rfl ?_
    show aW _ _ _ _ _ _ (30, [some (.ref 143), some (.int (zI dp)), some (.int (zI fm)), some (.int (zI ah)), some (.int (zI (-1))), some (.int (zI v1))], [.int (zI v3)], es)
    by_cases c4 : v3 < 0
    · refine x_ifT i_226_30 (by unfold i32 iLO iHI; omega) rfl (by simp only [zC, cR]; omega) ?_
      refine x_iinc (x := (-1)) i_226_44 rfl (by show 4 < 6; decide) ?_
      show aW _ _ _ _ _ _ (47, [some (.ref 143), some (.int (zI dp)), some (.int (zI fm)), some (.int (zI ah)), some (.int (zI 1)), some (.int (zI v1))], [], es)
      refine x0 (r := (3, [some (.ref 143), some (.int (zI dp)), some (.int (zI fm)), some (.int (zI ah)), some (.int (zI 1)), some (.int (zI v1))], [], es)) i_226_47 rfl ?_
      exact K2 v1 p_v1 c2 v3 e_v3 c4
    · refine x_ifF i_226_30 (by unfold i32 iLO iHI; omega) rfl (by simp only [zC, cR]; omega) ?_
      refine x0 (r := (34, [some (.ref 143), some (.int (zI dp)), some (.int (zI fm)), some (.int (zI ah)), some (.int (zI (-1))), some (.int (zI v1))], [.ref 143], es)) i_226_33 rfl ?_
      refine x0 (r := (35, [some (.ref 143), some (.int (zI dp)), some (.int (zI fm)), some (.int (zI ah)), some (.int (zI (-1))), some (.int (zI v1))], [.int (zI dp), .ref 143], es)) i_226_34 rfl ?_
      refine x0 (r := (36, [some (.ref 143), some (.int (zI dp)), some (.int (zI fm)), some (.int (zI ah)), some (.int (zI (-1))), some (.int (zI v1))], [.int (zI fm), .int (zI dp), .ref 143], es)) i_226_35 rfl ?_
      refine x0 (r := (38, [some (.ref 143), some (.int (zI dp)), some (.int (zI fm)), some (.int (zI ah)), some (.int (zI (-1))), some (.int (zI v1))], [.int (zI (-1)), .int (zI fm), .int (zI dp), .ref 143], es)) i_226_36 rfl ?_
      refine x0 (r := (39, [some (.ref 143), some (.int (zI dp)), some (.int (zI fm)), some (.int (zI ah)), some (.int (zI (-1))), some (.int (zI v1))], [.int (zI ah), .int (zI (-1)), .int (zI fm), .int (zI dp), .ref 143], es)) i_226_38 rfl ?_
      refine x0 (r := (40, [some (.ref 143), some (.int (zI dp)), some (.int (zI fm)), some (.int (zI ah)), some (.int (zI (-1))), some (.int (zI v1))], [.int (zI 1), .int (zI ah), .int (zI (-1)), .int (zI fm), .int (zI dp), .ref 143], es)) i_226_39 (by rfl) ?_
      refine x0 (r := (41, [some (.ref 143), some (.int (zI dp)), some (.int (zI fm)), some (.int (zI ah)), some (.int (zI (-1))), some (.int (zI v1))], [.int (zI 0), .int (zI 1), .int (zI ah), .int (zI (-1)), .int (zI fm), .int (zI dp), .ref 143], es)) i_226_40 (by rfl) ?_
      refine x_call (vs := [.ref 143, .int (zI dp), .int (zI fm), .int (zI (-1)), .int (zI ah), .int (zI 1), .int (zI 0)]) (rs := []) i_226_41 rfl (fun _ => rfl) rfl rfl rfl rfl rfl (pCall_v (p := 79) hs_es rfl rfl rfl rfl rfl (by decide) rfl rfl rfl rfl rfl) ?_
      show aW _ _ _ _ _ _ (0, [some (.ref 143), some (.int (zI dp)), some (.int (zI fm)), some (.int (zI (-1))), some (.int (zI ah)), some (.int (zI 1)), some (.int (zI 0)), none, none, none], [], es)
      refine along_spec hs_es (by omega) (by omega) (by omega) (by omega) (by omega) (by omega) (fun es5 p_es5 => ?_)
      have hs_es5 : sh es5 := p_es5.1
      show aW _ _ _ _ _ _ (44, [some (.ref 143), some (.int (zI dp)), some (.int (zI fm)), some (.int (zI ah)), some (.int (zI (-1))), some (.int (zI v1))], [], es5)
      refine x_iinc (x := (-1)) i_226_44 rfl (by show 4 < 6; decide) ?_
      show aW _ _ _ _ _ _ (47, [some (.ref 143), some (.int (zI dp)), some (.int (zI fm)), some (.int (zI ah)), some (.int (zI 1)), some (.int (zI v1))], [], es5)
      refine x0 (r := (3, [some (.ref 143), some (.int (zI dp)), some (.int (zI fm)), some (.int (zI ah)), some (.int (zI 1)), some (.int (zI v1))], [], es5)) i_226_47 rfl ?_
      exact K3 v1 p_v1 c2 v3 e_v3 c4 es5 p_es5

theorem s_bitesB {O : pOut} {d kc ks : Nat} {Q : pRes → Prop} {es : PH} {dp fm ah : Int} {x5 : Option Value} (hs_es : sh es) (hd : 0 ≤ dp ∧ dp ≤ 30) (hf : 0 ≤ fm ∧ fm ≤ 35) (h1 : -1 ≤ ah ∧ ah ≤ 1)
    (K1 : ∀ v1 : Int, offP fm 1 ah es v1 → v1 < 0 → aW O (d + 3) 226 kc ks Q (3, [some (.ref 143), some (.int (zI dp)), some (.int (zI fm)), some (.int (zI ah)), some (.int (zI 3)), some (.int (zI v1))], [], es))
    (K2 : ∀ v1 : Int, offP fm 1 ah es v1 → ¬ (v1 < 0) → ∀ v3 : Int, v3 = (gA es 87 ((36 * dp) + v1).toNat).toInt → v3 < 0 → aW O (d + 3) 226 kc ks Q (3, [some (.ref 143), some (.int (zI dp)), some (.int (zI fm)), some (.int (zI ah)), some (.int (zI 3)), some (.int (zI v1))], [], es))
    (K3 : ∀ v1 : Int, offP fm 1 ah es v1 → ¬ (v1 < 0) → ∀ v3 : Int, v3 = (gA es 87 ((36 * dp) + v1).toNat).toInt → ¬ (v3 < 0) → ∀ es5 : PH, alongP dp fm 1 ah 1 0 es es5 → aW O (d + 3) 226 kc ks Q (3, [some (.ref 143), some (.int (zI dp)), some (.int (zI fm)), some (.int (zI ah)), some (.int (zI 3)), some (.int (zI v1))], [], es5)) :
    aW O (d + 3) 226 kc ks Q (3, [some (.ref 143), some (.int (zI dp)), some (.int (zI fm)), some (.int (zI ah)), some (.int (zI 1)), x5], [], es) := by
  refine x0 (r := (5, [some (.ref 143), some (.int (zI dp)), some (.int (zI fm)), some (.int (zI ah)), some (.int (zI 1)), x5], [.int (zI 1)], es)) i_226_3 rfl ?_
  refine x0 (r := (6, [some (.ref 143), some (.int (zI dp)), some (.int (zI fm)), some (.int (zI ah)), some (.int (zI 1)), x5], [.int (zI 1), .int (zI 1)], es)) i_226_5 (by rfl) ?_
  refine x_cmpF i_226_6 (by unfold i32 iLO iHI; omega) (by unfold i32 iLO iHI; omega) rfl (by simp only [zC, cR]; omega) ?_
  refine x0 (r := (10, [some (.ref 143), some (.int (zI dp)), some (.int (zI fm)), some (.int (zI ah)), some (.int (zI 1)), x5], [.int (zI fm)], es)) i_226_9 rfl ?_
  refine x0 (r := (12, [some (.ref 143), some (.int (zI dp)), some (.int (zI fm)), some (.int (zI ah)), some (.int (zI 1)), x5], [.int (zI 1), .int (zI fm)], es)) i_226_10 rfl ?_
  refine x0 (r := (13, [some (.ref 143), some (.int (zI dp)), some (.int (zI fm)), some (.int (zI ah)), some (.int (zI 1)), x5], [.int (zI ah), .int (zI 1), .int (zI fm)], es)) i_226_12 rfl ?_
  refine x_call (vs := [.int (zI fm), .int (zI 1), .int (zI ah)]) (rs := []) i_226_13 rfl (fun _ => rfl) rfl rfl rfl rfl rfl rfl ?_
  show aW _ _ _ _ _ _ (0, [some (.int (zI fm)), some (.int (zI 1)), some (.int (zI ah)), none, none], [], es)
  refine off_spec hs_es (by omega) (by omega) (by omega) (fun v1 p_v1 => ?_)
  have r_v1 := p_v1.2
  show aW _ _ _ _ _ _ (16, [some (.ref 143), some (.int (zI dp)), some (.int (zI fm)), some (.int (zI ah)), some (.int (zI 1)), x5], [.int (zI v1)], es)
  refine x0 (r := (18, [some (.ref 143), some (.int (zI dp)), some (.int (zI fm)), some (.int (zI ah)), some (.int (zI 1)), some (.int (zI v1))], [], es)) i_226_16 rfl ?_
  refine x0 (r := (20, [some (.ref 143), some (.int (zI dp)), some (.int (zI fm)), some (.int (zI ah)), some (.int (zI 1)), some (.int (zI v1))], [.int (zI v1)], es)) i_226_18 rfl ?_
  by_cases c2 : v1 < 0
  · refine x_ifT i_226_20 (by unfold i32 iLO iHI; omega) rfl (by simp only [zC, cR]; omega) ?_
    refine x_iinc (x := 1) i_226_44 rfl (by show 4 < 6; decide) ?_
    show aW _ _ _ _ _ _ (47, [some (.ref 143), some (.int (zI dp)), some (.int (zI fm)), some (.int (zI ah)), some (.int (zI 3)), some (.int (zI v1))], [], es)
    refine x0 (r := (3, [some (.ref 143), some (.int (zI dp)), some (.int (zI fm)), some (.int (zI ah)), some (.int (zI 3)), some (.int (zI v1))], [], es)) i_226_47 rfl ?_
    exact K1 v1 p_v1 c2
  · refine x_ifF i_226_20 (by unfold i32 iLO iHI; omega) rfl (by simp only [zC, cR]; omega) ?_
    refine x0 (r := (24, [some (.ref 143), some (.int (zI dp)), some (.int (zI fm)), some (.int (zI ah)), some (.int (zI 1)), some (.int (zI v1))], [.ref 143], es)) i_226_23 rfl ?_
    refine x0 (r := (25, [some (.ref 143), some (.int (zI dp)), some (.int (zI fm)), some (.int (zI ah)), some (.int (zI 1)), some (.int (zI v1))], [.int (zI dp), .ref 143], es)) i_226_24 rfl ?_
    refine x0 (r := (27, [some (.ref 143), some (.int (zI dp)), some (.int (zI fm)), some (.int (zI ah)), some (.int (zI 1)), some (.int (zI v1))], [.int (zI v1), .int (zI dp), .ref 143], es)) i_226_25 rfl ?_
    refine x_call (vs := [.ref 143, .int (zI dp), .int (zI v1)]) (rs := []) i_226_27 rfl (fun _ => rfl) rfl rfl rfl rfl rfl (pCall_v (p := 79) hs_es rfl rfl rfl rfl rfl (by decide) rfl rfl rfl rfl rfl) ?_
    show aW _ _ _ _ _ _ (0, [some (.ref 143), some (.int (zI dp)), some (.int (zI v1))], [], es)
    refine x0 (r := (1, [some (.ref 143), some (.int (zI dp)), some (.int (zI v1))], [.ref 143], es)) i_219_0 rfl ?_
    refine x_getr (p := 79) (k := 151) i_219_1 hs_es rfl rfl ?_
    show aW _ _ _ _ _ _ (4, [some (.ref 143), some (.int (zI dp)), some (.int (zI v1))], [.ref 151], es)
    refine x0 (r := (6, [some (.ref 143), some (.int (zI dp)), some (.int (zI v1))], [.int (zI 36), .ref 151], es)) i_219_4 (by rfl) ?_
    refine x0 (r := (7, [some (.ref 143), some (.int (zI dp)), some (.int (zI v1))], [.int (zI dp), .int (zI 36), .ref 151], es)) i_219_6 rfl ?_
    refine x_imul i_219_7 ?_
    refine x0 (r := (9, [some (.ref 143), some (.int (zI dp)), some (.int (zI v1))], [.int (zI v1), .int (zI (36 * dp)), .ref 151], es)) i_219_8 rfl ?_
    refine x_iadd i_219_9 ?_
    refine x_iald (p := 87) i_219_10 hs_es rfl (by unfold i32 iLO iHI; omega) (by omega) (by omega) ?_
    obtain ⟨v3, e_v3⟩ : ∃ z : Int, z = (gA es 87 ((36 * dp) + v1).toNat).toInt := ⟨_, rfl⟩
    rw [← e_v3]
    have r_v3 : iLO ≤ v3 ∧ v3 ≤ iHI := by rw [e_v3]; exact i32_rng _
    unfold iLO iHI at r_v3
    refine x_ret (v := some (.int (zI v3))) i_219_11 rfl (fun _ => rfl) rfl rfl rfl ?_
    show aW _ _ _ _ _ _ (30, [some (.ref 143), some (.int (zI dp)), some (.int (zI fm)), some (.int (zI ah)), some (.int (zI 1)), some (.int (zI v1))], [.int (zI v3)], es)
    by_cases c4 : v3 < 0
    · refine x_ifT i_226_30 (by unfold i32 iLO iHI; omega) rfl (by simp only [zC, cR]; omega) ?_
      refine x_iinc (x := 1) i_226_44 rfl (by show 4 < 6; decide) ?_
      show aW _ _ _ _ _ _ (47, [some (.ref 143), some (.int (zI dp)), some (.int (zI fm)), some (.int (zI ah)), some (.int (zI 3)), some (.int (zI v1))], [], es)
      refine x0 (r := (3, [some (.ref 143), some (.int (zI dp)), some (.int (zI fm)), some (.int (zI ah)), some (.int (zI 3)), some (.int (zI v1))], [], es)) i_226_47 rfl ?_
      exact K2 v1 p_v1 c2 v3 e_v3 c4
    · refine x_ifF i_226_30 (by unfold i32 iLO iHI; omega) rfl (by simp only [zC, cR]; omega) ?_
      refine x0 (r := (34, [some (.ref 143), some (.int (zI dp)), some (.int (zI fm)), some (.int (zI ah)), some (.int (zI 1)), some (.int (zI v1))], [.ref 143], es)) i_226_33 rfl ?_
      refine x0 (r := (35, [some (.ref 143), some (.int (zI dp)), some (.int (zI fm)), some (.int (zI ah)), some (.int (zI 1)), some (.int (zI v1))], [.int (zI dp), .ref 143], es)) i_226_34 rfl ?_
      refine x0 (r := (36, [some (.ref 143), some (.int (zI dp)), some (.int (zI fm)), some (.int (zI ah)), some (.int (zI 1)), some (.int (zI v1))], [.int (zI fm), .int (zI dp), .ref 143], es)) i_226_35 rfl ?_
      refine x0 (r := (38, [some (.ref 143), some (.int (zI dp)), some (.int (zI fm)), some (.int (zI ah)), some (.int (zI 1)), some (.int (zI v1))], [.int (zI 1), .int (zI fm), .int (zI dp), .ref 143], es)) i_226_36 rfl ?_
      refine x0 (r := (39, [some (.ref 143), some (.int (zI dp)), some (.int (zI fm)), some (.int (zI ah)), some (.int (zI 1)), some (.int (zI v1))], [.int (zI ah), .int (zI 1), .int (zI fm), .int (zI dp), .ref 143], es)) i_226_38 rfl ?_
      refine x0 (r := (40, [some (.ref 143), some (.int (zI dp)), some (.int (zI fm)), some (.int (zI ah)), some (.int (zI 1)), some (.int (zI v1))], [.int (zI 1), .int (zI ah), .int (zI 1), .int (zI fm), .int (zI dp), .ref 143], es)) i_226_39 (by rfl) ?_
      refine x0 (r := (41, [some (.ref 143), some (.int (zI dp)), some (.int (zI fm)), some (.int (zI ah)), some (.int (zI 1)), some (.int (zI v1))], [.int (zI 0), .int (zI 1), .int (zI ah), .int (zI 1), .int (zI fm), .int (zI dp), .ref 143], es)) i_226_40 (by rfl) ?_
      refine x_call (vs := [.ref 143, .int (zI dp), .int (zI fm), .int (zI 1), .int (zI ah), .int (zI 1), .int (zI 0)]) (rs := []) i_226_41 rfl (fun _ => rfl) rfl rfl rfl rfl rfl (pCall_v (p := 79) hs_es rfl rfl rfl rfl rfl (by decide) rfl rfl rfl rfl rfl) ?_
      show aW _ _ _ _ _ _ (0, [some (.ref 143), some (.int (zI dp)), some (.int (zI fm)), some (.int (zI 1)), some (.int (zI ah)), some (.int (zI 1)), some (.int (zI 0)), none, none, none], [], es)
      refine along_spec hs_es (by omega) (by omega) (by omega) (by omega) (by omega) (by omega) (fun es5 p_es5 => ?_)
      have hs_es5 : sh es5 := p_es5.1
      show aW _ _ _ _ _ _ (44, [some (.ref 143), some (.int (zI dp)), some (.int (zI fm)), some (.int (zI ah)), some (.int (zI 1)), some (.int (zI v1))], [], es5)
      refine x_iinc (x := 1) i_226_44 rfl (by show 4 < 6; decide) ?_
      show aW _ _ _ _ _ _ (47, [some (.ref 143), some (.int (zI dp)), some (.int (zI fm)), some (.int (zI ah)), some (.int (zI 3)), some (.int (zI v1))], [], es5)
      refine x0 (r := (3, [some (.ref 143), some (.int (zI dp)), some (.int (zI fm)), some (.int (zI ah)), some (.int (zI 3)), some (.int (zI v1))], [], es5)) i_226_47 rfl ?_
      exact K3 v1 p_v1 c2 v3 e_v3 c4 es5 p_es5

theorem s_bitesC {O : pOut} {d kc ks : Nat} {Q : pRes → Prop} {es : PH} {dp fm ah : Int} {x5 : Option Value} (hs_es : sh es) (hd : 0 ≤ dp ∧ dp ≤ 30) (hf : 0 ≤ fm ∧ fm ≤ 35) (h1 : -1 ≤ ah ∧ ah ≤ 1)
    (K1 : Q (.inl (none), es, kc, ks)) :
    aW O d 226 kc ks Q (3, [some (.ref 143), some (.int (zI dp)), some (.int (zI fm)), some (.int (zI ah)), some (.int (zI 3)), x5], [], es) := by
  refine x0 (r := (5, [some (.ref 143), some (.int (zI dp)), some (.int (zI fm)), some (.int (zI ah)), some (.int (zI 3)), x5], [.int (zI 3)], es)) i_226_3 rfl ?_
  refine x0 (r := (6, [some (.ref 143), some (.int (zI dp)), some (.int (zI fm)), some (.int (zI ah)), some (.int (zI 3)), x5], [.int (zI 1), .int (zI 3)], es)) i_226_5 (by rfl) ?_
  refine x_cmpT i_226_6 (by unfold i32 iLO iHI; omega) (by unfold i32 iLO iHI; omega) rfl (by simp only [zC, cR]; omega) ?_
  refine x_ret (v := none) i_226_50 rfl (fun _ => rfl) rfl rfl rfl ?_
  exact K1
