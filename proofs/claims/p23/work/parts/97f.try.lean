theorem s_ofTwice {O : pOut} {d kc ks : Nat} {Q : pRes → Prop} {es : PH} {m n b : Int} (hs_es : sh es) (hb : 0 ≤ b ∧ b ≤ 2) (hm : 0 ≤ m ∧ m ≤ 30) (hn : 0 ≤ n ∧ n ≤ 24) (hT_es : hOK tT es)
    (K1 : n = 0 → Q (.inl (some (.int (zI 1000))), es, kc, ks))
    (K2 : ¬ (n = 0) → ∀ v2 : Int, twP b (n - 1) es v2 → v2 ≠ 0 → ∀ v4 : Int, v4 = (gA es 94 ((25 * ((31 * b) + m)) + (n - 1)).toNat).toInt → ∀ v5 : Int, v5 = (gA es 90 (Int.toNat 7)).toInt → Q (.inl (some (.int (zI (v4 + v5)))), es, kc, ks))
    (K3 : ¬ (n = 0) → ∀ v2 : Int, twP b (n - 1) es v2 → ¬ (v2 ≠ 0) → Q (.inl (some (.int (zI 1000))), es, kc, ks)) :
    aW O (d + 3) 241 kc ks Q (0, [some (.ref 143), some (.int (zI m)), some (.int (zI n)), some (.int (zI b))], [], es) := by
  refine x0 (r := (1, [some (.ref 143), some (.int (zI m)), some (.int (zI n)), some (.int (zI b))], [.int (zI n)], es)) i_241_0 rfl ?_
  by_cases c1 : n = 0
  · refine x_ifT i_241_1 (by unfold i32 iLO iHI; omega) rfl (by simp only [zC, cR]; omega) ?_
    refine x0 (r := (18, [some (.ref 143), some (.int (zI m)), some (.int (zI n)), some (.int (zI b))], [.int (zI 1000)], es)) i_241_15 (by rfl) ?_
    refine x0 (r := (42, [some (.ref 143), some (.int (zI m)), some (.int (zI n)), some (.int (zI b))], [.int (zI 1000)], es)) i_241_18 rfl ?_
    refine x_ret (v := some (.int (zI 1000))) i_241_42 rfl (fun _ => rfl) rfl rfl rfl ?_
    exact K1 c1
  · refine x_ifF i_241_1 (by unfold i32 iLO iHI; omega) rfl (by simp only [zC, cR]; omega) ?_
    refine x0 (r := (5, [some (.ref 143), some (.int (zI m)), some (.int (zI n)), some (.int (zI b))], [.ref 143], es)) i_241_4 rfl ?_
    refine x0 (r := (6, [some (.ref 143), some (.int (zI m)), some (.int (zI n)), some (.int (zI b))], [.int (zI b), .ref 143], es)) i_241_5 rfl ?_
    refine x0 (r := (7, [some (.ref 143), some (.int (zI m)), some (.int (zI n)), some (.int (zI b))], [.int (zI n), .int (zI b), .ref 143], es)) i_241_6 rfl ?_
    refine x0 (r := (8, [some (.ref 143), some (.int (zI m)), some (.int (zI n)), some (.int (zI b))], [.int (zI 1), .int (zI n), .int (zI b), .ref 143], es)) i_241_7 (by rfl) ?_
    refine x_isub i_241_8 ?_
    refine x_call (vs := [.ref 143, .int (zI b), .int (zI (n - 1))]) (rs := []) i_241_9 rfl (fun _ => rfl) rfl rfl rfl rfl rfl (pCall_v (p := 79) hs_es rfl rfl rfl rfl rfl (by decide) rfl rfl rfl rfl rfl) ?_
    show aW _ _ _ _ _ _ (0, [some (.ref 143), some (.int (zI b)), some (.int (zI (n - 1))), none, none], [], es)
    refine tw_spec hs_es (by omega) (by omega) hT_es (fun v2 p_v2 => ?_)
    have r_v2 := p_v2.2
    show aW _ _ _ _ _ _ (12, [some (.ref 143), some (.int (zI m)), some (.int (zI n)), some (.int (zI b))], [.int (zI v2)], es)
    by_cases c3 : v2 ≠ 0
    · refine x_ifT i_241_12 (by unfold i32 iLO iHI; omega) rfl (by simp only [zC, cR]; omega) ?_
      refine x0 (r := (22, [some (.ref 143), some (.int (zI m)), some (.int (zI n)), some (.int (zI b))], [.ref 143], es)) i_241_21 rfl ?_
      refine x_getr (p := 79) (k := 158) i_241_22 hs_es rfl rfl ?_
      show aW _ _ _ _ _ _ (25, [some (.ref 143), some (.int (zI m)), some (.int (zI n)), some (.int (zI b))], [.ref 158], es)
      refine x0 (r := (26, [some (.ref 143), some (.int (zI m)), some (.int (zI n)), some (.int (zI b))], [.int (zI b), .ref 158], es)) i_241_25 rfl ?_
      refine x0 (r := (27, [some (.ref 143), some (.int (zI m)), some (.int (zI n)), some (.int (zI b))], [.int (zI m), .int (zI b), .ref 158], es)) i_241_26 rfl ?_
      refine x0 (r := (28, [some (.ref 143), some (.int (zI m)), some (.int (zI n)), some (.int (zI b))], [.int (zI n), .int (zI m), .int (zI b), .ref 158], es)) i_241_27 rfl ?_
      refine x0 (r := (29, [some (.ref 143), some (.int (zI m)), some (.int (zI n)), some (.int (zI b))], [.int (zI 1), .int (zI n), .int (zI m), .int (zI b), .ref 158], es)) i_241_28 (by rfl) ?_
      refine x_isub i_241_29 ?_
      refine x_call (vs := [.int (zI b), .int (zI m), .int (zI (n - 1))]) (rs := [.ref 158]) i_241_30 rfl (fun _ => rfl) rfl rfl rfl rfl rfl rfl ?_
      show aW _ _ _ _ _ _ (0, [some (.int (zI b)), some (.int (zI m)), some (.int (zI (n - 1)))], [], es)
      refine x0 (r := (2, [some (.int (zI b)), some (.int (zI m)), some (.int (zI (n - 1)))], [.int (zI 25)], es)) i_238_0 (by rfl) ?_
      refine x0 (r := (4, [some (.int (zI b)), some (.int (zI m)), some (.int (zI (n - 1)))], [.int (zI 31), .int (zI 25)], es)) i_238_2 (by rfl) ?_
      refine x0 (r := (5, [some (.int (zI b)), some (.int (zI m)), some (.int (zI (n - 1)))], [.int (zI b), .int (zI 31), .int (zI 25)], es)) i_238_4 rfl ?_
      refine x_imul i_238_5 ?_
      refine x0 (r := (7, [some (.int (zI b)), some (.int (zI m)), some (.int (zI (n - 1)))], [.int (zI m), .int (zI (31 * b)), .int (zI 25)], es)) i_238_6 rfl ?_
      refine x_iadd i_238_7 ?_
      refine x_imul i_238_8 ?_
      refine x0 (r := (10, [some (.int (zI b)), some (.int (zI m)), some (.int (zI (n - 1)))], [.int (zI (n - 1)), .int (zI (25 * ((31 * b) + m)))], es)) i_238_9 rfl ?_
      refine x_iadd i_238_10 ?_
      refine x_ret (v := some (.int (zI ((25 * ((31 * b) + m)) + (n - 1))))) i_238_11 rfl (fun _ => rfl) rfl rfl rfl ?_
      show aW _ _ _ _ _ _ (33, [some (.ref 143), some (.int (zI m)), some (.int (zI n)), some (.int (zI b))], [.int (zI ((25 * ((31 * b) + m)) + (n - 1))), .ref 158], es)
      refine x_iald (p := 94) i_241_33 hs_es rfl (by unfold i32 iLO iHI; omega) (by omega) (by omega) ?_
      obtain ⟨v4, e_v4⟩ : ∃ z : Int, z = (gA es 94 ((25 * ((31 * b) + m)) + (n - 1)).toNat).toInt := ⟨_, rfl⟩
      rw [← e_v4]
      have r_v4 : iLO ≤ v4 ∧ v4 ≤ iHI := by rw [e_v4]; exact i32_rng _
      unfold iLO iHI at r_v4
      have b_v4 : (0 : Int) ≤ v4 ∧ v4 ≤ (1000 : Int) := by rw [e_v4]; exact gA_bd hT_es (p := 94) (k := ((25 * ((31 * b) + m)) + (n - 1)).toNat) rfl (by omega) (by decide)
      refine x0 (r := (35, [some (.ref 143), some (.int (zI m)), some (.int (zI n)), some (.int (zI b))], [.ref 143, .int (zI v4)], es)) i_241_34 rfl ?_
      refine x_getr (p := 79) (k := 154) i_241_35 hs_es rfl rfl ?_
      show aW _ _ _ _ _ _ (38, [some (.ref 143), some (.int (zI m)), some (.int (zI n)), some (.int (zI b))], [.ref 154, .int (zI v4)], es)
      refine x0 (r := (40, [some (.ref 143), some (.int (zI m)), some (.int (zI n)), some (.int (zI b))], [.int (zI 7), .ref 154, .int (zI v4)], es)) i_241_38 (by rfl) ?_
      refine x_iald (p := 90) i_241_40 hs_es rfl (by unfold i32 iLO iHI; omega) (by omega) (by omega) ?_
      obtain ⟨v5, e_v5⟩ : ∃ z : Int, z = (gA es 90 (Int.toNat 7)).toInt := ⟨_, rfl⟩
      rw [← e_v5]
      have r_v5 : iLO ≤ v5 ∧ v5 ≤ iHI := by rw [e_v5]; exact i32_rng _
      unfold iLO iHI at r_v5
      have b_v5 : (0 : Int) ≤ v5 ∧ v5 ≤ (9 : Int) := by rw [e_v5]; exact gA_bd hT_es (p := 90) (k := (Int.toNat 7)) rfl (by omega) (by decide)
      refine x_iadd i_241_41 ?_
      refine x_ret (v := some (.int (zI (v4 + v5)))) i_241_42 rfl (fun _ => rfl) rfl rfl rfl ?_
      exact K2 c1 v2 p_v2 c3 v4 e_v4 v5 e_v5
    · refine x_ifF i_241_12 (by unfold i32 iLO iHI; omega) rfl (by simp only [zC, cR]; omega) ?_
      refine x0 (r := (18, [some (.ref 143), some (.int (zI m)), some (.int (zI n)), some (.int (zI b))], [.int (zI 1000)], es)) i_241_15 (by rfl) ?_
      refine x0 (r := (42, [some (.ref 143), some (.int (zI m)), some (.int (zI n)), some (.int (zI b))], [.int (zI 1000)], es)) i_241_18 rfl ?_
      refine x_ret (v := some (.int (zI 1000))) i_241_42 rfl (fun _ => rfl) rfl rfl rfl ?_
      exact K3 c1 v2 p_v2 c3

theorem s_try130 {O : pOut} {d kc ks : Nat} {Q : pRes → Prop} {es : PH} {dp b n cd mn to rk kd fr be it s : Int} {x13 : Option Value} (hs_es : sh es) (hd : 0 ≤ dp ∧ dp ≤ 30) (hb : 0 ≤ b ∧ b ≤ 2) (hn : 0 ≤ n ∧ n ≤ 23) (h1 : 0 ≤ cd ∧ cd ≤ 1295) (h2 : -1 ≤ mn ∧ mn ≤ 9) (h3 : 0 ≤ to ∧ to ≤ 35) (h4 : 0 ≤ rk ∧ rk ≤ 5) (h5 : 0 ≤ kd ∧ kd ≤ 1) (h6 : 0 ≤ fr ∧ fr ≤ 1) (h7 : 0 ≤ be ∧ be ≤ 1000) (h8 : 0 ≤ it ∧ it ≤ 5) (h9 : 0 ≤ s ∧ s ≤ 6) (hz2 : -20 ≤ (gA es 80 ((119 + (98 * b)) + ((2 + (4 * n)) + 2)).toNat).toInt ∧ (gA es 80 ((119 + (98 * b)) + ((2 + (4 * n)) + 2)).toNat).toInt ≤ 20) (hz3 : -20 ≤ (gA es 80 ((119 + (98 * b)) + ((2 + (4 * n)) + 3)).toNat).toInt ∧ (gA es 80 ((119 + (98 * b)) + ((2 + (4 * n)) + 3)).toNat).toInt ≤ 20) (hT_es : hOK tT es)
    (K1 : 6 ≤ s → ∀ es2 : PH, es2 = sA es 92 ((((3 * dp) + b) * 24) + n).toNat (zI be) → ∀ es3 : PH, es3 = sA es2 93 ((((3 * dp) + b) * 24) + n).toNat (zI it) → Q (.inl (none), es3, kc, ks))
    (K2 : ¬ (6 ≤ s) → s ≤ 0 → ∀ v5 : Int, v5 = (gA es 80 ((119 + (98 * b)) + ((2 + (4 * n)) + 2)).toNat).toInt → ∀ v6 : Int, v6 = (gA es 80 ((119 + (98 * b)) + ((2 + (4 * n)) + 3)).toNat).toInt → ∀ v7 : Int, fitP s kd fr v5 v6 (to % 6) rk es v7 → v7 ≠ 0 → be ≤ 0 → ∀ v10 : Int, v10 = min be 0 → aW O (d + 2) 254 kc ks Q (130, [some (.ref 143), some (.int (zI dp)), some (.int (zI b)), some (.int (zI n)), some (.int (zI cd)), some (.int (zI mn)), some (.int (zI to)), some (.int (zI rk)), some (.int (zI kd)), some (.int (zI fr)), some (.int (zI v10)), some (.int (zI it)), some (.int (zI (s + 1))), some (.int (zI 0))], [], es))
    (K3 : ¬ (6 ≤ s) → s ≤ 0 → ∀ v5 : Int, v5 = (gA es 80 ((119 + (98 * b)) + ((2 + (4 * n)) + 2)).toNat).toInt → ∀ v6 : Int, v6 = (gA es 80 ((119 + (98 * b)) + ((2 + (4 * n)) + 3)).toNat).toInt → ∀ v7 : Int, fitP s kd fr v5 v6 (to % 6) rk es v7 → v7 ≠ 0 → ¬ (be ≤ 0) → ∀ v11 : Int, v11 = min be 0 → aW O (d + 2) 254 kc ks Q (130, [some (.ref 143), some (.int (zI dp)), some (.int (zI b)), some (.int (zI n)), some (.int (zI cd)), some (.int (zI mn)), some (.int (zI to)), some (.int (zI rk)), some (.int (zI kd)), some (.int (zI fr)), some (.int (zI v11)), some (.int (zI s)), some (.int (zI (s + 1))), some (.int (zI 0))], [], es))
    (K4 : ¬ (6 ≤ s) → s ≤ 0 → ∀ v5 : Int, v5 = (gA es 80 ((119 + (98 * b)) + ((2 + (4 * n)) + 2)).toNat).toInt → ∀ v6 : Int, v6 = (gA es 80 ((119 + (98 * b)) + ((2 + (4 * n)) + 3)).toNat).toInt → ∀ v7 : Int, fitP s kd fr v5 v6 (to % 6) rk es v7 → ¬ (v7 ≠ 0) → aW O (d + 2) 254 kc ks Q (130, [some (.ref 143), some (.int (zI dp)), some (.int (zI b)), some (.int (zI n)), some (.int (zI cd)), some (.int (zI mn)), some (.int (zI to)), some (.int (zI rk)), some (.int (zI kd)), some (.int (zI fr)), some (.int (zI be)), some (.int (zI it)), some (.int (zI (s + 1))), x13], [], es))
    (K5 : ¬ (6 ≤ s) → ¬ (s ≤ 0) → ∀ v12 : Int, v12 = (gA es 90 s.toNat).toInt → v12 = 0 → aW O (d + 2) 254 kc ks Q (130, [some (.ref 143), some (.int (zI dp)), some (.int (zI b)), some (.int (zI n)), some (.int (zI cd)), some (.int (zI mn)), some (.int (zI to)), some (.int (zI rk)), some (.int (zI kd)), some (.int (zI fr)), some (.int (zI be)), some (.int (zI it)), some (.int (zI (s + 1))), x13], [], es))
    (K6 : ¬ (6 ≤ s) → ¬ (s ≤ 0) → ∀ v12 : Int, v12 = (gA es 90 s.toNat).toInt → ¬ (v12 = 0) → ∀ v14 : Int, v14 = (gA es 80 ((119 + (98 * b)) + ((2 + (4 * n)) + 2)).toNat).toInt → ∀ v15 : Int, v15 = (gA es 80 ((119 + (98 * b)) + ((2 + (4 * n)) + 3)).toNat).toInt → ∀ v16 : Int, fitP s kd fr v14 v15 (to % 6) rk es v16 → v16 ≠ 0 → ∀ v18 : Int, v18 = (gA es 90 s.toNat).toInt → be ≤ v18 → ∀ v20 : Int, v20 = min be v18 → aW O (d + 2) 254 kc ks Q (130, [some (.ref 143), some (.int (zI dp)), some (.int (zI b)), some (.int (zI n)), some (.int (zI cd)), some (.int (zI mn)), some (.int (zI to)), some (.int (zI rk)), some (.int (zI kd)), some (.int (zI fr)), some (.int (zI v20)), some (.int (zI it)), some (.int (zI (s + 1))), some (.int (zI v18))], [], es))
    (K7 : ¬ (6 ≤ s) → ¬ (s ≤ 0) → ∀ v12 : Int, v12 = (gA es 90 s.toNat).toInt → ¬ (v12 = 0) → ∀ v14 : Int, v14 = (gA es 80 ((119 + (98 * b)) + ((2 + (4 * n)) + 2)).toNat).toInt → ∀ v15 : Int, v15 = (gA es 80 ((119 + (98 * b)) + ((2 + (4 * n)) + 3)).toNat).toInt → ∀ v16 : Int, fitP s kd fr v14 v15 (to % 6) rk es v16 → v16 ≠ 0 → ∀ v18 : Int, v18 = (gA es 90 s.toNat).toInt → ¬ (be ≤ v18) → ∀ v21 : Int, v21 = min be v18 → aW O (d + 2) 254 kc ks Q (130, [some (.ref 143), some (.int (zI dp)), some (.int (zI b)), some (.int (zI n)), some (.int (zI cd)), some (.int (zI mn)), some (.int (zI to)), some (.int (zI rk)), some (.int (zI kd)), some (.int (zI fr)), some (.int (zI v21)), some (.int (zI s)), some (.int (zI (s + 1))), some (.int (zI v18))], [], es))
    (K8 : ¬ (6 ≤ s) → ¬ (s ≤ 0) → ∀ v12 : Int, v12 = (gA es 90 s.toNat).toInt → ¬ (v12 = 0) → ∀ v14 : Int, v14 = (gA es 80 ((119 + (98 * b)) + ((2 + (4 * n)) + 2)).toNat).toInt → ∀ v15 : Int, v15 = (gA es 80 ((119 + (98 * b)) + ((2 + (4 * n)) + 3)).toNat).toInt → ∀ v16 : Int, fitP s kd fr v14 v15 (to % 6) rk es v16 → ¬ (v16 ≠ 0) → aW O (d + 2) 254 kc ks Q (130, [some (.ref 143), some (.int (zI dp)), some (.int (zI b)), some (.int (zI n)), some (.int (zI cd)), some (.int (zI mn)), some (.int (zI to)), some (.int (zI rk)), some (.int (zI kd)), some (.int (zI fr)), some (.int (zI be)), some (.int (zI it)), some (.int (zI (s + 1))), x13], [], es)) :
    aW O (d + 2) 254 kc ks Q (130, [some (.ref 143), some (.int (zI dp)), some (.int (zI b)), some (.int (zI n)), some (.int (zI cd)), some (.int (zI mn)), some (.int (zI to)), some (.int (zI rk)), some (.int (zI kd)), some (.int (zI fr)), some (.int (zI be)), some (.int (zI it)), some (.int (zI s)), x13], [], es) := by
  refine x0 (r := (132, [some (.ref 143), some (.int (zI dp)), some (.int (zI b)), some (.int (zI n)), some (.int (zI cd)), some (.int (zI mn)), some (.int (zI to)), some (.int (zI rk)), some (.int (zI kd)), some (.int (zI fr)), some (.int (zI be)), some (.int (zI it)), some (.int (zI s)), x13], [.int (zI s)], es)) i_254_130 rfl ?_
  refine x0 (r := (134, [some (.ref 143), some (.int (zI dp)), some (.int (zI b)), some (.int (zI n)), some (.int (zI cd)), some (.int (zI mn)), some (.int (zI to)), some (.int (zI rk)), some (.int (zI kd)), some (.int (zI fr)), some (.int (zI be)), some (.int (zI it)), some (.int (zI s)), x13], [.int (zI 6), .int (zI s)], es)) i_254_132 (by rfl) ?_
  by_cases c1 : 6 ≤ s
  · refine x_cmpT i_254_134 (by unfold i32 iLO iHI; omega) (by unfold i32 iLO iHI; omega) rfl (by simp only [zC, cR]; omega) ?_
    refine x0 (r := (238, [some (.ref 143), some (.int (zI dp)), some (.int (zI b)), some (.int (zI n)), some (.int (zI cd)), some (.int (zI mn)), some (.int (zI to)), some (.int (zI rk)), some (.int (zI kd)), some (.int (zI fr)), some (.int (zI be)), some (.int (zI it)), some (.int (zI s)), x13], [.ref 143], es)) i_254_237 rfl ?_
    refine x_getr (p := 79) (k := 156) i_254_238 hs_es rfl rfl ?_
    show aW _ _ _ _ _ _ (241, [some (.ref 143), some (.int (zI dp)), some (.int (zI b)), some (.int (zI n)), some (.int (zI cd)), some (.int (zI mn)), some (.int (zI to)), some (.int (zI rk)), some (.int (zI kd)), some (.int (zI fr)), some (.int (zI be)), some (.int (zI it)), some (.int (zI s)), x13], [.ref 156], es)
    refine x0 (r := (242, [some (.ref 143), some (.int (zI dp)), some (.int (zI b)), some (.int (zI n)), some (.int (zI cd)), some (.int (zI mn)), some (.int (zI to)), some (.int (zI rk)), some (.int (zI kd)), some (.int (zI fr)), some (.int (zI be)), some (.int (zI it)), some (.int (zI s)), x13], [.int (zI dp), .ref 156], es)) i_254_241 rfl ?_
    refine x0 (r := (243, [some (.ref 143), some (.int (zI dp)), some (.int (zI b)), some (.int (zI n)), some (.int (zI cd)), some (.int (zI mn)), some (.int (zI to)), some (.int (zI rk)), some (.int (zI kd)), some (.int (zI fr)), some (.int (zI be)), some (.int (zI it)), some (.int (zI s)), x13], [.int (zI b), .int (zI dp), .ref 156], es)) i_254_242 rfl ?_
    refine x0 (r := (244, [some (.ref 143), some (.int (zI dp)), some (.int (zI b)), some (.int (zI n)), some (.int (zI cd)), some (.int (zI mn)), some (.int (zI to)), some (.int (zI rk)), some (.int (zI kd)), some (.int (zI fr)), some (.int (zI be)), some (.int (zI it)), some (.int (zI s)), x13], [.int (zI n), .int (zI b), .int (zI dp), .ref 156], es)) i_254_243 rfl ?_
    refine x_call (vs := [.int (zI dp), .int (zI b), .int (zI n)]) (rs := [.ref 156]) i_254_244 rfl (fun _ => rfl) rfl rfl rfl rfl rfl rfl ?_
    show aW _ _ _ _ _ _ (0, [some (.int (zI dp)), some (.int (zI b)), some (.int (zI n))], [], es)
    refine x0 (r := (1, [some (.int (zI dp)), some (.int (zI b)), some (.int (zI n))], [.int (zI 3)], es)) i_239_0 (by rfl) ?_
    refine x0 (r := (2, [some (.int (zI dp)), some (.int (zI b)), some (.int (zI n))], [.int (zI dp), .int (zI 3)], es)) i_239_1 rfl ?_
    refine x_imul i_239_2 ?_
    refine x0 (r := (4, [some (.int (zI dp)), some (.int (zI b)), some (.int (zI n))], [.int (zI b), .int (zI (3 * dp))], es)) i_239_3 rfl ?_
    refine x_iadd i_239_4 ?_
    refine x0 (r := (7, [some (.int (zI dp)), some (.int (zI b)), some (.int (zI n))], [.int (zI 24), .int (zI ((3 * dp) + b))], es)) i_239_5 (by rfl) ?_
    refine x_imul i_239_7 ?_
    refine x0 (r := (9, [some (.int (zI dp)), some (.int (zI b)), some (.int (zI n))], [.int (zI n), .int (zI (((3 * dp) + b) * 24))], es)) i_239_8 rfl ?_
    refine x_iadd i_239_9 ?_
    refine x_ret (v := some (.int (zI ((((3 * dp) + b) * 24) + n)))) i_239_10 rfl (fun _ => rfl) rfl rfl rfl ?_
    show aW _ _ _ _ _ _ (247, [some (.ref 143), some (.int (zI dp)), some (.int (zI b)), some (.int (zI n)), some (.int (zI cd)), some (.int (zI mn)), some (.int (zI to)), some (.int (zI rk)), some (.int (zI kd)), some (.int (zI fr)), some (.int (zI be)), some (.int (zI it)), some (.int (zI s)), x13], [.int (zI ((((3 * dp) + b) * 24) + n)), .ref 156], es)
    refine x0 (r := (249, [some (.ref 143), some (.int (zI dp)), some (.int (zI b)), some (.int (zI n)), some (.int (zI cd)), some (.int (zI mn)), some (.int (zI to)), some (.int (zI rk)), some (.int (zI kd)), some (.int (zI fr)), some (.int (zI be)), some (.int (zI it)), some (.int (zI s)), x13], [.int (zI be), .int (zI ((((3 * dp) + b) * 24) + n)), .ref 156], es)) i_254_247 rfl ?_
    refine x_iast (p := 92) i_254_249 hs_es rfl (by unfold i32 iLO iHI; omega) (by omega) (by omega) ?_
    obtain ⟨es2, e_es2⟩ : ∃ z : PH, z = sA es 92 ((((3 * dp) + b) * 24) + n).toNat (zI be) := ⟨_, rfl⟩
    have hs_es2 : sh es2 := by rw [e_es2]; exact sh_sA hs_es
    have hT_es2 : hOK tT es2 := by rw [e_es2]; exact hOK_sA hT_es (p := 92) (n := 2232) rfl (fun _ => by rw [zI_toInt (by unfold i32 iLO iHI; omega)]; exact ⟨by show (0 : Int) ≤ be; omega, by show be ≤ (1000 : Int); omega⟩)
    rw [← e_es2]
    refine x0 (r := (251, [some (.ref 143), some (.int (zI dp)), some (.int (zI b)), some (.int (zI n)), some (.int (zI cd)), some (.int (zI mn)), some (.int (zI to)), some (.int (zI rk)), some (.int (zI kd)), some (.int (zI fr)), some (.int (zI be)), some (.int (zI it)), some (.int (zI s)), x13], [.ref 143], es2)) i_254_250 rfl ?_
    refine x_getr (p := 79) (k := 157) i_254_251 hs_es2 rfl rfl ?_
    show aW _ _ _ _ _ _ (254, [some (.ref 143), some (.int (zI dp)), some (.int (zI b)), some (.int (zI n)), some (.int (zI cd)), some (.int (zI mn)), some (.int (zI to)), some (.int (zI rk)), some (.int (zI kd)), some (.int (zI fr)), some (.int (zI be)), some (.int (zI it)), some (.int (zI s)), x13], [.ref 157], es2)
    refine x0 (r := (255, [some (.ref 143), some (.int (zI dp)), some (.int (zI b)), some (.int (zI n)), some (.int (zI cd)), some (.int (zI mn)), some (.int (zI to)), some (.int (zI rk)), some (.int (zI kd)), some (.int (zI fr)), some (.int (zI be)), some (.int (zI it)), some (.int (zI s)), x13], [.int (zI dp), .ref 157], es2)) i_254_254 rfl ?_
    refine x0 (r := (256, [some (.ref 143), some (.int (zI dp)), some (.int (zI b)), some (.int (zI n)), some (.int (zI cd)), some (.int (zI mn)), some (.int (zI to)), some (.int (zI rk)), some (.int (zI kd)), some (.int (zI fr)), some (.int (zI be)), some (.int (zI it)), some (.int (zI s)), x13], [.int (zI b), .int (zI dp), .ref 157], es2)) i_254_255 rfl ?_
    refine x0 (r := (257, [some (.ref 143), some (.int (zI dp)), some (.int (zI b)), some (.int (zI n)), some (.int (zI cd)), some (.int (zI mn)), some (.int (zI to)), some (.int (zI rk)), some (.int (zI kd)), some (.int (zI fr)), some (.int (zI be)), some (.int (zI it)), some (.int (zI s)), x13], [.int (zI n), .int (zI b), .int (zI dp), .ref 157], es2)) i_254_256 rfl ?_
    refine x_call (vs := [.int (zI dp), .int (zI b), .int (zI n)]) (rs := [.ref 157]) i_254_257 rfl (fun _ => rfl) rfl rfl rfl rfl rfl rfl ?_
    show aW _ _ _ _ _ _ (0, [some (.int (zI dp)), some (.int (zI b)), some (.int (zI n))], [], es2)
    refine x0 (r := (1, [some (.int (zI dp)), some (.int (zI b)), some (.int (zI n))], [.int (zI 3)], es2)) i_239_0 (by rfl) ?_
    refine x0 (r := (2, [some (.int (zI dp)), some (.int (zI b)), some (.int (zI n))], [.int (zI dp), .int (zI 3)], es2)) i_239_1 rfl ?_
    refine x_imul i_239_2 ?_
    refine x0 (r := (4, [some (.int (zI dp)), some (.int (zI b)), some (.int (zI n))], [.int (zI b), .int (zI (3 * dp))], es2)) i_239_3 rfl ?_
    refine x_iadd i_239_4 ?_
    refine x0 (r := (7, [some (.int (zI dp)), some (.int (zI b)), some (.int (zI n))], [.int (zI 24), .int (zI ((3 * dp) + b))], es2)) i_239_5 (by rfl) ?_
    refine x_imul i_239_7 ?_
    refine x0 (r := (9, [some (.int (zI dp)), some (.int (zI b)), some (.int (zI n))], [.int (zI n), .int (zI (((3 * dp) + b) * 24))], es2)) i_239_8 rfl ?_
    refine x_iadd i_239_9 ?_
    refine x_ret (v := some (.int (zI ((((3 * dp) + b) * 24) + n)))) i_239_10 rfl (fun _ => rfl) rfl rfl rfl ?_
    show aW _ _ _ _ _ _ (260, [some (.ref 143), some (.int (zI dp)), some (.int (zI b)), some (.int (zI n)), some (.int (zI cd)), some (.int (zI mn)), some (.int (zI to)), some (.int (zI rk)), some (.int (zI kd)), some (.int (zI fr)), some (.int (zI be)), some (.int (zI it)), some (.int (zI s)), x13], [.int (zI ((((3 * dp) + b) * 24) + n)), .ref 157], es2)
    refine x0 (r := (262, [some (.ref 143), some (.int (zI dp)), some (.int (zI b)), some (.int (zI n)), some (.int (zI cd)), some (.int (zI mn)), some (.int (zI to)), some (.int (zI rk)), some (.int (zI kd)), some (.int (zI fr)), some (.int (zI be)), some (.int (zI it)), some (.int (zI s)), x13], [.int (zI it), .int (zI ((((3 * dp) + b) * 24) + n)), .ref 157], es2)) i_254_260 rfl ?_
    refine x_iast (p := 93) i_254_262 hs_es2 rfl (by unfold i32 iLO iHI; omega) (by omega) (by omega) ?_
    obtain ⟨es3, e_es3⟩ : ∃ z : PH, z = sA es2 93 ((((3 * dp) + b) * 24) + n).toNat (zI it) := ⟨_, rfl⟩
    have hs_es3 : sh es3 := by rw [e_es3]; exact sh_sA hs_es2
    have hT_es3 : hOK tT es3 := by rw [e_es3]; exact hOK_sA hT_es2 (p := 93) (n := 2232) rfl (fun _ => by rw [zI_toInt (by unfold i32 iLO iHI; omega)]; exact ⟨by show (0 : Int) ≤ it; omega, by show it ≤ (5 : Int); omega⟩)
    rw [← e_es3]
    refine x_ret (v := none) i_254_263 rfl (fun _ => rfl) rfl rfl rfl ?_
    exact K1 c1 es2 e_es2 es3 e_es3
  · refine x_cmpF i_254_134 (by unfold i32 iLO iHI; omega) (by unfold i32 iLO iHI; omega) rfl (by simp only [zC, cR]; omega) ?_
    refine x0 (r := (139, [some (.ref 143), some (.int (zI dp)), some (.int (zI b)), some (.int (zI n)), some (.int (zI cd)), some (.int (zI mn)), some (.int (zI to)), some (.int (zI rk)), some (.int (zI kd)), some (.int (zI fr)), some (.int (zI be)), some (.int (zI it)), some (.int (zI s)), x13], [.int (zI s)], es)) i_254_137 rfl ?_
    by_cases c4 : s ≤ 0
    · refine x_ifT i_254_139 (by unfold i32 iLO iHI; omega) rfl (by simp only [zC, cR]; omega) ?_
      refine x0 (r := (154, [some (.ref 143), some (.int (zI dp)), some (.int (zI b)), some (.int (zI n)), some (.int (zI cd)), some (.int (zI mn)), some (.int (zI to)), some (.int (zI rk)), some (.int (zI kd)), some (.int (zI fr)), some (.int (zI be)), some (.int (zI it)), some (.int (zI s)), x13], [.int (zI s)], es)) i_254_152 rfl ?_
      refine x0 (r := (156, [some (.ref 143), some (.int (zI dp)), some (.int (zI b)), some (.int (zI n)), some (.int (zI cd)), some (.int (zI mn)), some (.int (zI to)), some (.int (zI rk)), some (.int (zI kd)), some (.int (zI fr)), some (.int (zI be)), some (.int (zI it)), some (.int (zI s)), x13], [.int (zI kd), .int (zI s)], es)) i_254_154 rfl ?_
      refine x0 (r := (158, [some (.ref 143), some (.int (zI dp)), some (.int (zI b)), some (.int (zI n)), some (.int (zI cd)), some (.int (zI mn)), some (.int (zI to)), some (.int (zI rk)), some (.int (zI kd)), some (.int (zI fr)), some (.int (zI be)), some (.int (zI it)), some (.int (zI s)), x13], [.int (zI fr), .int (zI kd), .int (zI s)], es)) i_254_156 rfl ?_
      refine x0 (r := (159, [some (.ref 143), some (.int (zI dp)), some (.int (zI b)), some (.int (zI n)), some (.int (zI cd)), some (.int (zI mn)), some (.int (zI to)), some (.int (zI rk)), some (.int (zI kd)), some (.int (zI fr)), some (.int (zI be)), some (.int (zI it)), some (.int (zI s)), x13], [.ref 143, .int (zI fr), .int (zI kd), .int (zI s)], es)) i_254_158 rfl ?_
      refine x0 (r := (160, [some (.ref 143), some (.int (zI dp)), some (.int (zI b)), some (.int (zI n)), some (.int (zI cd)), some (.int (zI mn)), some (.int (zI to)), some (.int (zI rk)), some (.int (zI kd)), some (.int (zI fr)), some (.int (zI be)), some (.int (zI it)), some (.int (zI s)), x13], [.int (zI b), .ref 143, .int (zI fr), .int (zI kd), .int (zI s)], es)) i_254_159 rfl ?_
      refine x0 (r := (161, [some (.ref 143), some (.int (zI dp)), some (.int (zI b)), some (.int (zI n)), some (.int (zI cd)), some (.int (zI mn)), some (.int (zI to)), some (.int (zI rk)), some (.int (zI kd)), some (.int (zI fr)), some (.int (zI be)), some (.int (zI it)), some (.int (zI s)), x13], [.int (zI n), .int (zI b), .ref 143, .int (zI fr), .int (zI kd), .int (zI s)], es)) i_254_160 rfl ?_
      refine x0 (r := (162, [some (.ref 143), some (.int (zI dp)), some (.int (zI b)), some (.int (zI n)), some (.int (zI cd)), some (.int (zI mn)), some (.int (zI to)), some (.int (zI rk)), some (.int (zI kd)), some (.int (zI fr)), some (.int (zI be)), some (.int (zI it)), some (.int (zI s)), x13], [.int (zI 2), .int (zI n), .int (zI b), .ref 143, .int (zI fr), .int (zI kd), .int (zI s)], es)) i_254_161 (by rfl) ?_
      refine x_call (vs := [.ref 143, .int (zI b), .int (zI n), .int (zI 2)]) (rs := [.int (zI fr), .int (zI kd), .int (zI s)]) i_254_162 rfl (fun _ => rfl) rfl rfl rfl rfl rfl (pCall_v (p := 79) hs_es rfl rfl rfl rfl rfl (by decide) rfl rfl rfl rfl rfl) ?_
      show aW _ _ _ _ _ _ (0, [some (.ref 143), some (.int (zI b)), some (.int (zI n)), some (.int (zI 2))], [], es)
      refine x0 (r := (1, [some (.ref 143), some (.int (zI b)), some (.int (zI n)), some (.int (zI 2))], [.ref 143], es)) i_211_0 rfl ?_
      refine x0 (r := (2, [some (.ref 143), some (.int (zI b)), some (.int (zI n)), some (.int (zI 2))], [.int (zI b), .ref 143], es)) i_211_1 rfl ?_
      refine x0 (r := (3, [some (.ref 143), some (.int (zI b)), some (.int (zI n)), some (.int (zI 2))], [.int (zI 2), .int (zI b), .ref 143], es)) i_211_2 (by rfl) ?_
      refine x0 (r := (4, [some (.ref 143), some (.int (zI b)), some (.int (zI n)), some (.int (zI 2))], [.int (zI 4), .int (zI 2), .int (zI b), .ref 143], es)) i_211_3 (by rfl) ?_
      refine x0 (r := (5, [some (.ref 143), some (.int (zI b)), some (.int (zI n)), some (.int (zI 2))], [.int (zI n), .int (zI 4), .int (zI 2), .int (zI b), .ref 143], es)) i_211_4 rfl ?_
      refine x_imul i_211_5 ?_
      refine x_iadd i_211_6 ?_
      refine x0 (r := (8, [some (.ref 143), some (.int (zI b)), some (.int (zI n)), some (.int (zI 2))], [.int (zI 2), .int (zI (2 + (4 * n))), .int (zI b), .ref 143], es)) i_211_7 rfl ?_
      refine x_iadd i_211_8 ?_
      refine x_call (vs := [.ref 143, .int (zI b), .int (zI ((2 + (4 * n)) + 2))]) (rs := []) i_211_9 rfl (fun _ => rfl) rfl rfl rfl rfl rfl (pCall_v (p := 79) hs_es rfl rfl rfl rfl rfl (by decide) rfl rfl rfl rfl rfl) ?_
      show aW _ _ _ _ _ _ (0, [some (.ref 143), some (.int (zI b)), some (.int (zI ((2 + (4 * n)) + 2)))], [], es)
      refine x0 (r := (1, [some (.ref 143), some (.int (zI b)), some (.int (zI ((2 + (4 * n)) + 2)))], [.ref 143], es)) i_206_0 rfl ?_
      refine x_getr (p := 79) (k := 144) i_206_1 hs_es rfl rfl ?_
      show aW _ _ _ _ _ _ (4, [some (.ref 143), some (.int (zI b)), some (.int (zI ((2 + (4 * n)) + 2)))], [.ref 144], es)
      refine x0 (r := (6, [some (.ref 143), some (.int (zI b)), some (.int (zI ((2 + (4 * n)) + 2)))], [.int (zI 119), .ref 144], es)) i_206_4 (by rfl) ?_
      refine x0 (r := (8, [some (.ref 143), some (.int (zI b)), some (.int (zI ((2 + (4 * n)) + 2)))], [.int (zI 98), .int (zI 119), .ref 144], es)) i_206_6 (by rfl) ?_
      refine x0 (r := (9, [some (.ref 143), some (.int (zI b)), some (.int (zI ((2 + (4 * n)) + 2)))], [.int (zI b), .int (zI 98), .int (zI 119), .ref 144], es)) i_206_8 rfl ?_
      refine x_imul i_206_9 ?_
      refine x_iadd i_206_10 ?_
      refine x0 (r := (12, [some (.ref 143), some (.int (zI b)), some (.int (zI ((2 + (4 * n)) + 2)))], [.int (zI ((2 + (4 * n)) + 2)), .int (zI (119 + (98 * b))), .ref 144], es)) i_206_11 rfl ?_
      refine x_iadd i_206_12 ?_
      refine x_iald (p := 80) i_206_13 hs_es rfl (by unfold i32 iLO iHI; omega) (by omega) (by omega) ?_
      obtain ⟨v5, e_v5⟩ : ∃ z : Int, z = (gA es 80 ((119 + (98 * b)) + ((2 + (4 * n)) + 2)).toNat).toInt := ⟨_, rfl⟩
      rw [← e_v5]
      have r_v5 : iLO ≤ v5 ∧ v5 ≤ iHI := by rw [e_v5]; exact i32_rng _
      unfold iLO iHI at r_v5
      refine x_ret (v := some (.int (zI v5))) i_206_14 rfl (fun _ => rfl) rfl rfl rfl ?_
      show aW _ _ _ _ _ _ (12, [some (.ref 143), some (.int (zI b)), some (.int (zI n)), some (.int (zI 2))], [.int (zI v5)], es)
      refine x_ret (v := some (.int (zI v5))) i_211_12 rfl (fun _ => rfl) rfl rfl rfl ?_
      show aW _ _ _ _ _ _ (165, [some (.ref 143), some (.int (zI dp)), some (.int (zI b)), some (.int (zI n)), some (.int (zI cd)), some (.int (zI mn)), some (.int (zI to)), some (.int (zI rk)), some (.int (zI kd)), some (.int (zI fr)), some (.int (zI be)), some (.int (zI it)), some (.int (zI s)), x13], [.int (zI v5), .int (zI fr), .int (zI kd), .int (zI s)], es)
      refine x0 (r := (166, [some (.ref 143), some (.int (zI dp)), some (.int (zI b)), some (.int (zI n)), some (.int (zI cd)), some (.int (zI mn)), some (.int (zI to)), some (.int (zI rk)), some (.int (zI kd)), some (.int (zI fr)), some (.int (zI be)), some (.int (zI it)), some (.int (zI s)), x13], [.ref 143, .int (zI v5), .int (zI fr), .int (zI kd), .int (zI s)], es)) i_254_165 rfl ?_
      refine x0 (r := (167, [some (.ref 143), some (.int (zI dp)), some (.int (zI b)), some (.int (zI n)), some (.int (zI cd)), some (.int (zI mn)), some (.int (zI to)), some (.int (zI rk)), some (.int (zI kd)), some (.int (zI fr)), some (.int (zI be)), some (.int (zI it)), some (.int (zI s)), x13], [.int (zI b), .ref 143, .int (zI v5), .int (zI fr), .int (zI kd), .int (zI s)], es)) i_254_166 rfl ?_
      refine x0 (r := (168, [some (.ref 143), some (.int (zI dp)), some (.int (zI b)), some (.int (zI n)), some (.int (zI cd)), some (.int (zI mn)), some (.int (zI to)), some (.int (zI rk)), some (.int (zI kd)), some (.int (zI fr)), some (.int (zI be)), some (.int (zI it)), some (.int (zI s)), x13], [.int (zI n), .int (zI b), .ref 143, .int (zI v5), .int (zI fr), .int (zI kd), .int (zI s)], es)) i_254_167 rfl ?_
      refine x0 (r := (169, [some (.ref 143), some (.int (zI dp)), some (.int (zI b)), some (.int (zI n)), some (.int (zI cd)), some (.int (zI mn)), some (.int (zI to)), some (.int (zI rk)), some (.int (zI kd)), some (.int (zI fr)), some (.int (zI be)), some (.int (zI it)), some (.int (zI s)), x13], [.int (zI 3), .int (zI n), .int (zI b), .ref 143, .int (zI v5), .int (zI fr), .int (zI kd), .int (zI s)], es)) i_254_168 (by rfl) ?_
      refine x_call (vs := [.ref 143, .int (zI b), .int (zI n), .int (zI 3)]) (rs := [.int (zI v5), .int (zI fr), .int (zI kd), .int (zI s)]) i_254_169 rfl (fun _ => rfl) rfl rfl rfl rfl rfl (pCall_v (p := 79) hs_es rfl rfl rfl rfl rfl (by decide) rfl rfl rfl rfl rfl) ?_
      show aW _ _ _ _ _ _ (0, [some (.ref 143), some (.int (zI b)), some (.int (zI n)), some (.int (zI 3))], [], es)
      refine x0 (r := (1, [some (.ref 143), some (.int (zI b)), some (.int (zI n)), some (.int (zI 3))], [.ref 143], es)) i_211_0 rfl ?_
      refine x0 (r := (2, [some (.ref 143), some (.int (zI b)), some (.int (zI n)), some (.int (zI 3))], [.int (zI b), .ref 143], es)) i_211_1 rfl ?_
      refine x0 (r := (3, [some (.ref 143), some (.int (zI b)), some (.int (zI n)), some (.int (zI 3))], [.int (zI 2), .int (zI b), .ref 143], es)) i_211_2 (by rfl) ?_
      refine x0 (r := (4, [some (.ref 143), some (.int (zI b)), some (.int (zI n)), some (.int (zI 3))], [.int (zI 4), .int (zI 2), .int (zI b), .ref 143], es)) i_211_3 (by rfl) ?_
      refine x0 (r := (5, [some (.ref 143), some (.int (zI b)), some (.int (zI n)), some (.int (zI 3))], [.int (zI n), .int (zI 4), .int (zI 2), .int (zI b), .ref 143], es)) i_211_4 rfl ?_
      refine x_imul i_211_5 ?_
      refine x_iadd i_211_6 ?_
      refine x0 (r := (8, [some (.ref 143), some (.int (zI b)), some (.int (zI n)), some (.int (zI 3))], [.int (zI 3), .int (zI (2 + (4 * n))), .int (zI b), .ref 143], es)) i_211_7 rfl ?_
      refine x_iadd i_211_8 ?_
      refine x_call (vs := [.ref 143, .int (zI b), .int (zI ((2 + (4 * n)) + 3))]) (rs := []) i_211_9 rfl (fun _ => rfl) rfl rfl rfl rfl rfl (pCall_v (p := 79) hs_es rfl rfl rfl rfl rfl (by decide) rfl rfl rfl rfl rfl) ?_
      show aW _ _ _ _ _ _ (0, [some (.ref 143), some (.int (zI b)), some (.int (zI ((2 + (4 * n)) + 3)))], [], es)
      refine x0 (r := (1, [some (.ref 143), some (.int (zI b)), some (.int (zI ((2 + (4 * n)) + 3)))], [.ref 143], es)) i_206_0 rfl ?_
      refine x_getr (p := 79) (k := 144) i_206_1 hs_es rfl rfl ?_
      show aW _ _ _ _ _ _ (4, [some (.ref 143), some (.int (zI b)), some (.int (zI ((2 + (4 * n)) + 3)))], [.ref 144], es)
      refine x0 (r := (6, [some (.ref 143), some (.int (zI b)), some (.int (zI ((2 + (4 * n)) + 3)))], [.int (zI 119), .ref 144], es)) i_206_4 (by rfl) ?_
      refine x0 (r := (8, [some (.ref 143), some (.int (zI b)), some (.int (zI ((2 + (4 * n)) + 3)))], [.int (zI 98), .int (zI 119), .ref 144], es)) i_206_6 (by rfl) ?_
      refine x0 (r := (9, [some (.ref 143), some (.int (zI b)), some (.int (zI ((2 + (4 * n)) + 3)))], [.int (zI b), .int (zI 98), .int (zI 119), .ref 144], es)) i_206_8 rfl ?_
      refine x_imul i_206_9 ?_
      refine x_iadd i_206_10 ?_
      refine x0 (r := (12, [some (.ref 143), some (.int (zI b)), some (.int (zI ((2 + (4 * n)) + 3)))], [.int (zI ((2 + (4 * n)) + 3)), .int (zI (119 + (98 * b))), .ref 144], es)) i_206_11 rfl ?_
      refine x_iadd i_206_12 ?_
      refine x_iald (p := 80) i_206_13 hs_es rfl (by unfold i32 iLO iHI; omega) (by omega) (by omega) ?_
      obtain ⟨v6, e_v6⟩ : ∃ z : Int, z = (gA es 80 ((119 + (98 * b)) + ((2 + (4 * n)) + 3)).toNat).toInt := ⟨_, rfl⟩
      rw [← e_v6]
      have r_v6 : iLO ≤ v6 ∧ v6 ≤ iHI := by rw [e_v6]; exact i32_rng _
      unfold iLO iHI at r_v6
      refine x_ret (v := some (.int (zI v6))) i_206_14 rfl (fun _ => rfl) rfl rfl rfl ?_
      show aW _ _ _ _ _ _ (12, [some (.ref 143), some (.int (zI b)), some (.int (zI n)), some (.int (zI 3))], [.int (zI v6)], es)
      refine x_ret (v := some (.int (zI v6))) i_211_12 rfl (fun _ => rfl) rfl rfl rfl ?_
      show aW _ _ _ _ _ _ (172, [some (.ref 143), some (.int (zI dp)), some (.int (zI b)), some (.int (zI n)), some (.int (zI cd)), some (.int (zI mn)), some (.int (zI to)), some (.int (zI rk)), some (.int (zI kd)), some (.int (zI fr)), some (.int (zI be)), some (.int (zI it)), some (.int (zI s)), x13], [.int (zI v6), .int (zI v5), .int (zI fr), .int (zI kd), .int (zI s)], es)
      refine x0 (r := (174, [some (.ref 143), some (.int (zI dp)), some (.int (zI b)), some (.int (zI n)), some (.int (zI cd)), some (.int (zI mn)), some (.int (zI to)), some (.int (zI rk)), some (.int (zI kd)), some (.int (zI fr)), some (.int (zI be)), some (.int (zI it)), some (.int (zI s)), x13], [.int (zI to), .int (zI v6), .int (zI v5), .int (zI fr), .int (zI kd), .int (zI s)], es)) i_254_172 rfl ?_
      refine x0 (r := (176, [some (.ref 143), some (.int (zI dp)), some (.int (zI b)), some (.int (zI n)), some (.int (zI cd)), some (.int (zI mn)), some (.int (zI to)), some (.int (zI rk)), some (.int (zI kd)), some (.int (zI fr)), some (.int (zI be)), some (.int (zI it)), some (.int (zI s)), x13], [.int (zI 6), .int (zI to), .int (zI v6), .int (zI v5), .int (zI fr), .int (zI kd), .int (zI s)], es)) i_254_174 (by rfl) ?_
      refine x_iremn i_254_176 (by omega) (by unfold i32 iLO iHI; omega) (by unfold i32 iLO iHI; omega) (by omega) ?_
      refine x0 (r := (179, [some (.ref 143), some (.int (zI dp)), some (.int (zI b)), some (.int (zI n)), some (.int (zI cd)), some (.int (zI mn)), some (.int (zI to)), some (.int (zI rk)), some (.int (zI kd)), some (.int (zI fr)), some (.int (zI be)), some (.int (zI it)), some (.int (zI s)), x13], [.int (zI rk), .int (zI (to % 6)), .int (zI v6), .int (zI v5), .int (zI fr), .int (zI kd), .int (zI s)], es)) i_254_177 rfl ?_
      refine x_call (vs := [.int (zI s), .int (zI kd), .int (zI fr), .int (zI v5), .int (zI v6), .int (zI (to % 6)), .int (zI rk)]) (rs := []) i_254_179 rfl (fun _ => rfl) rfl rfl rfl rfl rfl rfl ?_
      show aW _ _ _ _ _ _ (0, [some (.int (zI s)), some (.int (zI kd)), some (.int (zI fr)), some (.int (zI v5)), some (.int (zI v6)), some (.int (zI (to % 6))), some (.int (zI rk)), none, none], [], es)
      refine fits_spec hs_es (by omega) (by omega) (by omega) (by omega) (by omega) (by omega) (by omega) (fun v7 p_v7 => ?_)
      have r_v7 := p_v7.2
      show aW _ _ _ _ _ _ (182, [some (.ref 143), some (.int (zI dp)), some (.int (zI b)), some (.int (zI n)), some (.int (zI cd)), some (.int (zI mn)), some (.int (zI to)), some (.int (zI rk)), some (.int (zI kd)), some (.int (zI fr)), some (.int (zI be)), some (.int (zI it)), some (.int (zI s)), x13], [.int (zI v7)], es)
      by_cases c8 : v7 ≠ 0
      · refine x_ifT i_254_182 (by unfold i32 iLO iHI; omega) rfl (by simp only [zC, cR]; omega) ?_
        refine x0 (r := (190, [some (.ref 143), some (.int (zI dp)), some (.int (zI b)), some (.int (zI n)), some (.int (zI cd)), some (.int (zI mn)), some (.int (zI to)), some (.int (zI rk)), some (.int (zI kd)), some (.int (zI fr)), some (.int (zI be)), some (.int (zI it)), some (.int (zI s)), x13], [.int (zI s)], es)) i_254_188 rfl ?_
        refine x_ifF i_254_190 (by unfold i32 iLO iHI; omega) rfl (by simp only [zC, cR]; omega) ?_
        refine x0 (r := (194, [some (.ref 143), some (.int (zI dp)), some (.int (zI b)), some (.int (zI n)), some (.int (zI cd)), some (.int (zI mn)), some (.int (zI to)), some (.int (zI rk)), some (.int (zI kd)), some (.int (zI fr)), some (.int (zI be)), some (.int (zI it)), some (.int (zI s)), x13], [.int (zI 0)], es)) i_254_193 (by rfl) ?_
        refine x0 (r := (204, [some (.ref 143), some (.int (zI dp)), some (.int (zI b)), some (.int (zI n)), some (.int (zI cd)), some (.int (zI mn)), some (.int (zI to)), some (.int (zI rk)), some (.int (zI kd)), some (.int (zI fr)), some (.int (zI be)), some (.int (zI it)), some (.int (zI s)), x13], [.int (zI 0)], es)) i_254_194 rfl ?_
        refine x0 (r := (206, [some (.ref 143), some (.int (zI dp)), some (.int (zI b)), some (.int (zI n)), some (.int (zI cd)), some (.int (zI mn)), some (.int (zI to)), some (.int (zI rk)), some (.int (zI kd)), some (.int (zI fr)), some (.int (zI be)), some (.int (zI it)), some (.int (zI s)), some (.int (zI 0))], [], es)) i_254_204 rfl ?_
        refine x0 (r := (208, [some (.ref 143), some (.int (zI dp)), some (.int (zI b)), some (.int (zI n)), some (.int (zI cd)), some (.int (zI mn)), some (.int (zI to)), some (.int (zI rk)), some (.int (zI kd)), some (.int (zI fr)), some (.int (zI be)), some (.int (zI it)), some (.int (zI s)), some (.int (zI 0))], [.int (zI 0)], es)) i_254_206 rfl ?_
        refine x0 (r := (210, [some (.ref 143), some (.int (zI dp)), some (.int (zI b)), some (.int (zI n)), some (.int (zI cd)), some (.int (zI mn)), some (.int (zI to)), some (.int (zI rk)), some (.int (zI kd)), some (.int (zI fr)), some (.int (zI be)), some (.int (zI it)), some (.int (zI s)), some (.int (zI 0))], [.int (zI be), .int (zI 0)], es)) i_254_208 rfl ?_
        by_cases c9 : be ≤ 0
        · refine x_cmpT i_254_210 (by unfold i32 iLO iHI; omega) (by unfold i32 iLO iHI; omega) rfl (by simp only [zC, cR]; omega) ?_
          refine x0 (r := (220, [some (.ref 143), some (.int (zI dp)), some (.int (zI b)), some (.int (zI n)), some (.int (zI cd)), some (.int (zI mn)), some (.int (zI to)), some (.int (zI rk)), some (.int (zI kd)), some (.int (zI fr)), some (.int (zI be)), some (.int (zI it)), some (.int (zI s)), some (.int (zI 0))], [.int (zI it)], es)) i_254_218 rfl ?_
          refine x0 (r := (222, [some (.ref 143), some (.int (zI dp)), some (.int (zI b)), some (.int (zI n)), some (.int (zI cd)), some (.int (zI mn)), some (.int (zI to)), some (.int (zI rk)), some (.int (zI kd)), some (.int (zI fr)), some (.int (zI be)), some (.int (zI it)), some (.int (zI s)), some (.int (zI 0))], [], es)) i_254_220 rfl ?_
          refine x0 (r := (224, [some (.ref 143), some (.int (zI dp)), some (.int (zI b)), some (.int (zI n)), some (.int (zI cd)), some (.int (zI mn)), some (.int (zI to)), some (.int (zI rk)), some (.int (zI kd)), some (.int (zI fr)), some (.int (zI be)), some (.int (zI it)), some (.int (zI s)), some (.int (zI 0))], [.int (zI be)], es)) i_254_222 rfl ?_
          refine x0 (r := (226, [some (.ref 143), some (.int (zI dp)), some (.int (zI b)), some (.int (zI n)), some (.int (zI cd)), some (.int (zI mn)), some (.int (zI to)), some (.int (zI rk)), some (.int (zI kd)), some (.int (zI fr)), some (.int (zI be)), some (.int (zI it)), some (.int (zI s)), some (.int (zI 0))], [.int (zI 0), .int (zI be)], es)) i_254_224 rfl ?_
          refine x_min i_254_226 (by unfold i32 iLO iHI; omega) (by unfold i32 iLO iHI; omega) (Nat.le_of_ble_eq_true rfl) ?_
          obtain ⟨v10, e_v10⟩ : ∃ z : Int, z = min be 0 := ⟨_, rfl⟩
          rw [← e_v10]
          refine x0 (r := (231, [some (.ref 143), some (.int (zI dp)), some (.int (zI b)), some (.int (zI n)), some (.int (zI cd)), some (.int (zI mn)), some (.int (zI to)), some (.int (zI rk)), some (.int (zI kd)), some (.int (zI fr)), some (.int (zI v10)), some (.int (zI it)), some (.int (zI s)), some (.int (zI 0))], [], es)) i_254_229 rfl ?_
          refine x_iinc (x := s) i_254_231 rfl (by show 12 < 14; decide) ?_
          show aW _ _ _ _ _ _ (234, [some (.ref 143), some (.int (zI dp)), some (.int (zI b)), some (.int (zI n)), some (.int (zI cd)), some (.int (zI mn)), some (.int (zI to)), some (.int (zI rk)), some (.int (zI kd)), some (.int (zI fr)), some (.int (zI v10)), some (.int (zI it)), some (.int (zI (s + 1))), some (.int (zI 0))], [], es)
          refine x0 (r := (130, [some (.ref 143), some (.int (zI dp)), some (.int (zI b)), some (.int (zI n)), some (.int (zI cd)), some (.int (zI mn)), some (.int (zI to)), some (.int (zI rk)), some (.int (zI kd)), some (.int (zI fr)), some (.int (zI v10)), some (.int (zI it)), some (.int (zI (s + 1))), some (.int (zI 0))], [], es)) i_254_234 rfl ?_
          exact K2 c1 c4 v5 e_v5 v6 e_v6 v7 p_v7 c8 c9 v10 e_v10
        · refine x_cmpF i_254_210 (by unfold i32 iLO iHI; omega) (by unfold i32 iLO iHI; omega) rfl (by simp only [zC, cR]; omega) ?_
          refine x0 (r := (215, [some (.ref 143), some (.int (zI dp)), some (.int (zI b)), some (.int (zI n)), some (.int (zI cd)), some (.int (zI mn)), some (.int (zI to)), some (.int (zI rk)), some (.int (zI kd)), some (.int (zI fr)), some (.int (zI be)), some (.int (zI it)), some (.int (zI s)), some (.int (zI 0))], [.int (zI s)], es)) i_254_213 rfl ?_
          refine x0 (r := (220, [some (.ref 143), some (.int (zI dp)), some (.int (zI b)), some (.int (zI n)), some (.int (zI cd)), some (.int (zI mn)), some (.int (zI to)), some (.int (zI rk)), some (.int (zI kd)), some (.int (zI fr)), some (.int (zI be)), some (.int (zI it)), some (.int (zI s)), some (.int (zI 0))], [.int (zI s)], es)) i_254_215 rfl ?_
          refine x0 (r := (222, [some (.ref 143), some (.int (zI dp)), some (.int (zI b)), some (.int (zI n)), some (.int (zI cd)), some (.int (zI mn)), some (.int (zI to)), some (.int (zI rk)), some (.int (zI kd)), some (.int (zI fr)), some (.int (zI be)), some (.int (zI s)), some (.int (zI s)), some (.int (zI 0))], [], es)) i_254_220 rfl ?_
          refine x0 (r := (224, [some (.ref 143), some (.int (zI dp)), some (.int (zI b)), some (.int (zI n)), some (.int (zI cd)), some (.int (zI mn)), some (.int (zI to)), some (.int (zI rk)), some (.int (zI kd)), some (.int (zI fr)), some (.int (zI be)), some (.int (zI s)), some (.int (zI s)), some (.int (zI 0))], [.int (zI be)], es)) i_254_222 rfl ?_
          refine x0 (r := (226, [some (.ref 143), some (.int (zI dp)), some (.int (zI b)), some (.int (zI n)), some (.int (zI cd)), some (.int (zI mn)), some (.int (zI to)), some (.int (zI rk)), some (.int (zI kd)), some (.int (zI fr)), some (.int (zI be)), some (.int (zI s)), some (.int (zI s)), some (.int (zI 0))], [.int (zI 0), .int (zI be)], es)) i_254_224 rfl ?_
          refine x_min i_254_226 (by unfold i32 iLO iHI; omega) (by unfold i32 iLO iHI; omega) (Nat.le_of_ble_eq_true rfl) ?_
          obtain ⟨v11, e_v11⟩ : ∃ z : Int, z = min be 0 := ⟨_, rfl⟩
          rw [← e_v11]
          refine x0 (r := (231, [some (.ref 143), some (.int (zI dp)), some (.int (zI b)), some (.int (zI n)), some (.int (zI cd)), some (.int (zI mn)), some (.int (zI to)), some (.int (zI rk)), some (.int (zI kd)), some (.int (zI fr)), some (.int (zI v11)), some (.int (zI s)), some (.int (zI s)), some (.int (zI 0))], [], es)) i_254_229 rfl ?_
          refine x_iinc (x := s) i_254_231 rfl (by show 12 < 14; decide) ?_
          show aW _ _ _ _ _ _ (234, [some (.ref 143), some (.int (zI dp)), some (.int (zI b)), some (.int (zI n)), some (.int (zI cd)), some (.int (zI mn)), some (.int (zI to)), some (.int (zI rk)), some (.int (zI kd)), some (.int (zI fr)), some (.int (zI v11)), some (.int (zI s)), some (.int (zI (s + 1))), some (.int (zI 0))], [], es)
          refine x0 (r := (130, [some (.ref 143), some (.int (zI dp)), some (.int (zI b)), some (.int (zI n)), some (.int (zI cd)), some (.int (zI mn)), some (.int (zI to)), some (.int (zI rk)), some (.int (zI kd)), some (.int (zI fr)), some (.int (zI v11)), some (.int (zI s)), some (.int (zI (s + 1))), some (.int (zI 0))], [], es)) i_254_234 rfl ?_
          exact K3 c1 c4 v5 e_v5 v6 e_v6 v7 p_v7 c8 c9 v11 e_v11
      · refine x_ifF i_254_182 (by unfold i32 iLO iHI; omega) rfl (by simp only [zC, cR]; omega) ?_
        refine x0 (r := (231, [some (.ref 143), some (.int (zI dp)), some (.int (zI b)), some (.int (zI n)), some (.int (zI cd)), some (.int (zI mn)), some (.int (zI to)), some (.int (zI rk)), some (.int (zI kd)), some (.int (zI fr)), some (.int (zI be)), some (.int (zI it)), some (.int (zI s)), x13], [], es)) i_254_185 rfl ?_
        refine x_iinc (x := s) i_254_231 rfl (by show 12 < 14; decide) ?_
        show aW _ _ _ _ _ _ (234, [some (.ref 143), some (.int (zI dp)), some (.int (zI b)), some (.int (zI n)), some (.int (zI cd)), some (.int (zI mn)), some (.int (zI to)), some (.int (zI rk)), some (.int (zI kd)), some (.int (zI fr)), some (.int (zI be)), some (.int (zI it)), some (.int (zI (s + 1))), x13], [], es)
        refine x0 (r := (130, [some (.ref 143), some (.int (zI dp)), some (.int (zI b)), some (.int (zI n)), some (.int (zI cd)), some (.int (zI mn)), some (.int (zI to)), some (.int (zI rk)), some (.int (zI kd)), some (.int (zI fr)), some (.int (zI be)), some (.int (zI it)), some (.int (zI (s + 1))), x13], [], es)) i_254_234 rfl ?_
        exact K4 c1 c4 v5 e_v5 v6 e_v6 v7 p_v7 c8
    · refine x_ifF i_254_139 (by unfold i32 iLO iHI; omega) rfl (by simp only [zC, cR]; omega) ?_
      refine x0 (r := (143, [some (.ref 143), some (.int (zI dp)), some (.int (zI b)), some (.int (zI n)), some (.int (zI cd)), some (.int (zI mn)), some (.int (zI to)), some (.int (zI rk)), some (.int (zI kd)), some (.int (zI fr)), some (.int (zI be)), some (.int (zI it)), some (.int (zI s)), x13], [.ref 143], es)) i_254_142 rfl ?_
      refine x_getr (p := 79) (k := 154) i_254_143 hs_es rfl rfl ?_
      show aW _ _ _ _ _ _ (146, [some (.ref 143), some (.int (zI dp)), some (.int (zI b)), some (.int (zI n)), some (.int (zI cd)), some (.int (zI mn)), some (.int (zI to)), some (.int (zI rk)), some (.int (zI kd)), some (.int (zI fr)), some (.int (zI be)), some (.int (zI it)), some (.int (zI s)), x13], [.ref 154], es)
      refine x0 (r := (148, [some (.ref 143), some (.int (zI dp)), some (.int (zI b)), some (.int (zI n)), some (.int (zI cd)), some (.int (zI mn)), some (.int (zI to)), some (.int (zI rk)), some (.int (zI kd)), some (.int (zI fr)), some (.int (zI be)), some (.int (zI it)), some (.int (zI s)), x13], [.int (zI s), .ref 154], es)) i_254_146 rfl ?_
      refine x_iald (p := 90) i_254_148 hs_es rfl (by unfold i32 iLO iHI; omega) (by omega) (by omega) ?_
      obtain ⟨v12, e_v12⟩ : ∃ z : Int, z = (gA es 90 s.toNat).toInt := ⟨_, rfl⟩
      rw [← e_v12]
      have r_v12 : iLO ≤ v12 ∧ v12 ≤ iHI := by rw [e_v12]; exact i32_rng _
      unfold iLO iHI at r_v12
      have b_v12 : (0 : Int) ≤ v12 ∧ v12 ≤ (9 : Int) := by rw [e_v12]; exact gA_bd hT_es (p := 90) (k := s.toNat) rfl (by omega) (by decide)
      by_cases c13 : v12 = 0
      · refine x_ifT i_254_149 (by unfold i32 iLO iHI; omega) rfl (by simp only [zC, cR]; omega) ?_
        refine x_iinc (x := s) i_254_231 rfl (by show 12 < 14; decide) ?_
        show aW _ _ _ _ _ _ (234, [some (.ref 143), some (.int (zI dp)), some (.int (zI b)), some (.int (zI n)), some (.int (zI cd)), some (.int (zI mn)), some (.int (zI to)), some (.int (zI rk)), some (.int (zI kd)), some (.int (zI fr)), some (.int (zI be)), some (.int (zI it)), some (.int (zI (s + 1))), x13], [], es)
        refine x0 (r := (130, [some (.ref 143), some (.int (zI dp)), some (.int (zI b)), some (.int (zI n)), some (.int (zI cd)), some (.int (zI mn)), some (.int (zI to)), some (.int (zI rk)), some (.int (zI kd)), some (.int (zI fr)), some (.int (zI be)), some (.int (zI it)), some (.int (zI (s + 1))), x13], [], es)) i_254_234 rfl ?_
        exact K5 c1 c4 v12 e_v12 c13
      · refine x_ifF i_254_149 (by unfold i32 iLO iHI; omega) rfl (by simp only [zC, cR]; omega) ?_
        refine x0 (r := (154, [some (.ref 143), some (.int (zI dp)), some (.int (zI b)), some (.int (zI n)), some (.int (zI cd)), some (.int (zI mn)), some (.int (zI to)), some (.int (zI rk)), some (.int (zI kd)), some (.int (zI fr)), some (.int (zI be)), some (.int (zI it)), some (.int (zI s)), x13], [.int (zI s)], es)) i_254_152 rfl ?_
        refine x0 (r := (156, [some (.ref 143), some (.int (zI dp)), some (.int (zI b)), some (.int (zI n)), some (.int (zI cd)), some (.int (zI mn)), some (.int (zI to)), some (.int (zI rk)), some (.int (zI kd)), some (.int (zI fr)), some (.int (zI be)), some (.int (zI it)), some (.int (zI s)), x13], [.int (zI kd), .int (zI s)], es)) i_254_154 rfl ?_
        refine x0 (r := (158, [some (.ref 143), some (.int (zI dp)), some (.int (zI b)), some (.int (zI n)), some (.int (zI cd)), some (.int (zI mn)), some (.int (zI to)), some (.int (zI rk)), some (.int (zI kd)), some (.int (zI fr)), some (.int (zI be)), some (.int (zI it)), some (.int (zI s)), x13], [.int (zI fr), .int (zI kd), .int (zI s)], es)) i_254_156 rfl ?_
        refine x0 (r := (159, [some (.ref 143), some (.int (zI dp)), some (.int (zI b)), some (.int (zI n)), some (.int (zI cd)), some (.int (zI mn)), some (.int (zI to)), some (.int (zI rk)), some (.int (zI kd)), some (.int (zI fr)), some (.int (zI be)), some (.int (zI it)), some (.int (zI s)), x13], [.ref 143, .int (zI fr), .int (zI kd), .int (zI s)], es)) i_254_158 rfl ?_
        refine x0 (r := (160, [some (.ref 143), some (.int (zI dp)), some (.int (zI b)), some (.int (zI n)), some (.int (zI cd)), some (.int (zI mn)), some (.int (zI to)), some (.int (zI rk)), some (.int (zI kd)), some (.int (zI fr)), some (.int (zI be)), some (.int (zI it)), some (.int (zI s)), x13], [.int (zI b), .ref 143, .int (zI fr), .int (zI kd), .int (zI s)], es)) i_254_159 rfl ?_
        refine x0 (r := (161, [some (.ref 143), some (.int (zI dp)), some (.int (zI b)), some (.int (zI n)), some (.int (zI cd)), some (.int (zI mn)), some (.int (zI to)), some (.int (zI rk)), some (.int (zI kd)), some (.int (zI fr)), some (.int (zI be)), some (.int (zI it)), some (.int (zI s)), x13], [.int (zI n), .int (zI b), .ref 143, .int (zI fr), .int (zI kd), .int (zI s)], es)) i_254_160 rfl ?_
        refine x0 (r := (162, [some (.ref 143), some (.int (zI dp)), some (.int (zI b)), some (.int (zI n)), some (.int (zI cd)), some (.int (zI mn)), some (.int (zI to)), some (.int (zI rk)), some (.int (zI kd)), some (.int (zI fr)), some (.int (zI be)), some (.int (zI it)), some (.int (zI s)), x13], [.int (zI 2), .int (zI n), .int (zI b), .ref 143, .int (zI fr), .int (zI kd), .int (zI s)], es)) i_254_161 (by rfl) ?_
        refine x_call (vs := [.ref 143, .int (zI b), .int (zI n), .int (zI 2)]) (rs := [.int (zI fr), .int (zI kd), .int (zI s)]) i_254_162 rfl (fun _ => rfl) rfl rfl rfl rfl rfl (pCall_v (p := 79) hs_es rfl rfl rfl rfl rfl (by decide) rfl rfl rfl rfl rfl) ?_
        show aW _ _ _ _ _ _ (0, [some (.ref 143), some (.int (zI b)), some (.int (zI n)), some (.int (zI 2))], [], es)
        refine x0 (r := (1, [some (.ref 143), some (.int (zI b)), some (.int (zI n)), some (.int (zI 2))], [.ref 143], es)) i_211_0 rfl ?_
        refine x0 (r := (2, [some (.ref 143), some (.int (zI b)), some (.int (zI n)), some (.int (zI 2))], [.int (zI b), .ref 143], es)) i_211_1 rfl ?_
        refine x0 (r := (3, [some (.ref 143), some (.int (zI b)), some (.int (zI n)), some (.int (zI 2))], [.int (zI 2), .int (zI b), .ref 143], es)) i_211_2 (by rfl) ?_
        refine x0 (r := (4, [some (.ref 143), some (.int (zI b)), some (.int (zI n)), some (.int (zI 2))], [.int (zI 4), .int (zI 2), .int (zI b), .ref 143], es)) i_211_3 (by rfl) ?_
        refine x0 (r := (5, [some (.ref 143), some (.int (zI b)), some (.int (zI n)), some (.int (zI 2))], [.int (zI n), .int (zI 4), .int (zI 2), .int (zI b), .ref 143], es)) i_211_4 rfl ?_
        refine x_imul i_211_5 ?_
        refine x_iadd i_211_6 ?_
        refine x0 (r := (8, [some (.ref 143), some (.int (zI b)), some (.int (zI n)), some (.int (zI 2))], [.int (zI 2), .int (zI (2 + (4 * n))), .int (zI b), .ref 143], es)) i_211_7 rfl ?_
        refine x_iadd i_211_8 ?_
        refine x_call (vs := [.ref 143, .int (zI b), .int (zI ((2 + (4 * n)) + 2))]) (rs := []) i_211_9 rfl (fun _ => rfl) rfl rfl rfl rfl rfl (pCall_v (p := 79) hs_es rfl rfl rfl rfl rfl (by decide) rfl rfl rfl rfl rfl) ?_
        show aW _ _ _ _ _ _ (0, [some (.ref 143), some (.int (zI b)), some (.int (zI ((2 + (4 * n)) + 2)))], [], es)
        refine x0 (r := (1, [some (.ref 143), some (.int (zI b)), some (.int (zI ((2 + (4 * n)) + 2)))], [.ref 143], es)) i_206_0 rfl ?_
        refine x_getr (p := 79) (k := 144) i_206_1 hs_es rfl rfl ?_
        show aW _ _ _ _ _ _ (4, [some (.ref 143), some (.int (zI b)), some (.int (zI ((2 + (4 * n)) + 2)))], [.ref 144], es)
        refine x0 (r := (6, [some (.ref 143), some (.int (zI b)), some (.int (zI ((2 + (4 * n)) + 2)))], [.int (zI 119), .ref 144], es)) i_206_4 (by rfl) ?_
        refine x0 (r := (8, [some (.ref 143), some (.int (zI b)), some (.int (zI ((2 + (4 * n)) + 2)))], [.int (zI 98), .int (zI 119), .ref 144], es)) i_206_6 (by rfl) ?_
        refine x0 (r := (9, [some (.ref 143), some (.int (zI b)), some (.int (zI ((2 + (4 * n)) + 2)))], [.int (zI b), .int (zI 98), .int (zI 119), .ref 144], es)) i_206_8 rfl ?_
        refine x_imul i_206_9 ?_
        refine x_iadd i_206_10 ?_
        refine x0 (r := (12, [some (.ref 143), some (.int (zI b)), some (.int (zI ((2 + (4 * n)) + 2)))], [.int (zI ((2 + (4 * n)) + 2)), .int (zI (119 + (98 * b))), .ref 144], es)) i_206_11 rfl ?_
        refine x_iadd i_206_12 ?_
        refine x_iald (p := 80) i_206_13 hs_es rfl (by unfold i32 iLO iHI; omega) (by omega) (by omega) ?_
        obtain ⟨v14, e_v14⟩ : ∃ z : Int, z = (gA es 80 ((119 + (98 * b)) + ((2 + (4 * n)) + 2)).toNat).toInt := ⟨_, rfl⟩
        rw [← e_v14]
        have r_v14 : iLO ≤ v14 ∧ v14 ≤ iHI := by rw [e_v14]; exact i32_rng _
        unfold iLO iHI at r_v14
        refine x_ret (v := some (.int (zI v14))) i_206_14 rfl (fun _ => rfl) rfl rfl rfl ?_
        show aW _ _ _ _ _ _ (12, [some (.ref 143), some (.int (zI b)), some (.int (zI n)), some (.int (zI 2))], [.int (zI v14)], es)
        refine x_ret (v := some (.int (zI v14))) i_211_12 rfl (fun _ => rfl) rfl rfl rfl ?_
        show aW _ _ _ _ _ _ (165, [some (.ref 143), some (.int (zI dp)), some (.int (zI b)), some (.int (zI n)), some (.int (zI cd)), some (.int (zI mn)), some (.int (zI to)), some (.int (zI rk)), some (.int (zI kd)), some (.int (zI fr)), some (.int (zI be)), some (.int (zI it)), some (.int (zI s)), x13], [.int (zI v14), .int (zI fr), .int (zI kd), .int (zI s)], es)
        refine x0 (r := (166, [some (.ref 143), some (.int (zI dp)), some (.int (zI b)), some (.int (zI n)), some (.int (zI cd)), some (.int (zI mn)), some (.int (zI to)), some (.int (zI rk)), some (.int (zI kd)), some (.int (zI fr)), some (.int (zI be)), some (.int (zI it)), some (.int (zI s)), x13], [.ref 143, .int (zI v14), .int (zI fr), .int (zI kd), .int (zI s)], es)) i_254_165 rfl ?_
        refine x0 (r := (167, [some (.ref 143), some (.int (zI dp)), some (.int (zI b)), some (.int (zI n)), some (.int (zI cd)), some (.int (zI mn)), some (.int (zI to)), some (.int (zI rk)), some (.int (zI kd)), some (.int (zI fr)), some (.int (zI be)), some (.int (zI it)), some (.int (zI s)), x13], [.int (zI b), .ref 143, .int (zI v14), .int (zI fr), .int (zI kd), .int (zI s)], es)) i_254_166 rfl ?_
        refine x0 (r := (168, [some (.ref 143), some (.int (zI dp)), some (.int (zI b)), some (.int (zI n)), some (.int (zI cd)), some (.int (zI mn)), some (.int (zI to)), some (.int (zI rk)), some (.int (zI kd)), some (.int (zI fr)), some (.int (zI be)), some (.int (zI it)), some (.int (zI s)), x13], [.int (zI n), .int (zI b), .ref 143, .int (zI v14), .int (zI fr), .int (zI kd), .int (zI s)], es)) i_254_167 rfl ?_
        refine x0 (r := (169, [some (.ref 143), some (.int (zI dp)), some (.int (zI b)), some (.int (zI n)), some (.int (zI cd)), some (.int (zI mn)), some (.int (zI to)), some (.int (zI rk)), some (.int (zI kd)), some (.int (zI fr)), some (.int (zI be)), some (.int (zI it)), some (.int (zI s)), x13], [.int (zI 3), .int (zI n), .int (zI b), .ref 143, .int (zI v14), .int (zI fr), .int (zI kd), .int (zI s)], es)) i_254_168 (by rfl) ?_
        refine x_call (vs := [.ref 143, .int (zI b), .int (zI n), .int (zI 3)]) (rs := [.int (zI v14), .int (zI fr), .int (zI kd), .int (zI s)]) i_254_169 rfl (fun _ => rfl) rfl rfl rfl rfl rfl (pCall_v (p := 79) hs_es rfl rfl rfl rfl rfl (by decide) rfl rfl rfl rfl rfl) ?_
        show aW _ _ _ _ _ _ (0, [some (.ref 143), some (.int (zI b)), some (.int (zI n)), some (.int (zI 3))], [], es)
        refine x0 (r := (1, [some (.ref 143), some (.int (zI b)), some (.int (zI n)), some (.int (zI 3))], [.ref 143], es)) i_211_0 rfl ?_
        refine x0 (r := (2, [some (.ref 143), some (.int (zI b)), some (.int (zI n)), some (.int (zI 3))], [.int (zI b), .ref 143], es)) i_211_1 rfl ?_
        refine x0 (r := (3, [some (.ref 143), some (.int (zI b)), some (.int (zI n)), some (.int (zI 3))], [.int (zI 2), .int (zI b), .ref 143], es)) i_211_2 (by rfl) ?_
        refine x0 (r := (4, [some (.ref 143), some (.int (zI b)), some (.int (zI n)), some (.int (zI 3))], [.int (zI 4), .int (zI 2), .int (zI b), .ref 143], es)) i_211_3 (by rfl) ?_
        refine x0 (r := (5, [some (.ref 143), some (.int (zI b)), some (.int (zI n)), some (.int (zI 3))], [.int (zI n), .int (zI 4), .int (zI 2), .int (zI b), .ref 143], es)) i_211_4 rfl ?_
        refine x_imul i_211_5 ?_
        refine x_iadd i_211_6 ?_
        refine x0 (r := (8, [some (.ref 143), some (.int (zI b)), some (.int (zI n)), some (.int (zI 3))], [.int (zI 3), .int (zI (2 + (4 * n))), .int (zI b), .ref 143], es)) i_211_7 rfl ?_
        refine x_iadd i_211_8 ?_
        refine x_call (vs := [.ref 143, .int (zI b), .int (zI ((2 + (4 * n)) + 3))]) (rs := []) i_211_9 rfl (fun _ => rfl) rfl rfl rfl rfl rfl (pCall_v (p := 79) hs_es rfl rfl rfl rfl rfl (by decide) rfl rfl rfl rfl rfl) ?_
        show aW _ _ _ _ _ _ (0, [some (.ref 143), some (.int (zI b)), some (.int (zI ((2 + (4 * n)) + 3)))], [], es)
        refine x0 (r := (1, [some (.ref 143), some (.int (zI b)), some (.int (zI ((2 + (4 * n)) + 3)))], [.ref 143], es)) i_206_0 rfl ?_
        refine x_getr (p := 79) (k := 144) i_206_1 hs_es rfl rfl ?_
        show aW _ _ _ _ _ _ (4, [some (.ref 143), some (.int (zI b)), some (.int (zI ((2 + (4 * n)) + 3)))], [.ref 144], es)
        refine x0 (r := (6, [some (.ref 143), some (.int (zI b)), some (.int (zI ((2 + (4 * n)) + 3)))], [.int (zI 119), .ref 144], es)) i_206_4 (by rfl) ?_
        refine x0 (r := (8, [some (.ref 143), some (.int (zI b)), some (.int (zI ((2 + (4 * n)) + 3)))], [.int (zI 98), .int (zI 119), .ref 144], es)) i_206_6 (by rfl) ?_
        refine x0 (r := (9, [some (.ref 143), some (.int (zI b)), some (.int (zI ((2 + (4 * n)) + 3)))], [.int (zI b), .int (zI 98), .int (zI 119), .ref 144], es)) i_206_8 rfl ?_
        refine x_imul i_206_9 ?_
        refine x_iadd i_206_10 ?_
        refine x0 (r := (12, [some (.ref 143), some (.int (zI b)), some (.int (zI ((2 + (4 * n)) + 3)))], [.int (zI ((2 + (4 * n)) + 3)), .int (zI (119 + (98 * b))), .ref 144], es)) i_206_11 rfl ?_
        refine x_iadd i_206_12 ?_
        refine x_iald (p := 80) i_206_13 hs_es rfl (by unfold i32 iLO iHI; omega) (by omega) (by omega) ?_
        obtain ⟨v15, e_v15⟩ : ∃ z : Int, z = (gA es 80 ((119 + (98 * b)) + ((2 + (4 * n)) + 3)).toNat).toInt := ⟨_, rfl⟩
        rw [← e_v15]
        have r_v15 : iLO ≤ v15 ∧ v15 ≤ iHI := by rw [e_v15]; exact i32_rng _
        unfold iLO iHI at r_v15
        refine x_ret (v := some (.int (zI v15))) i_206_14 rfl (fun _ => rfl) rfl rfl rfl ?_
        show aW _ _ _ _ _ _ (12, [some (.ref 143), some (.int (zI b)), some (.int (zI n)), some (.int (zI 3))], [.int (zI v15)], es)
        refine x_ret (v := some (.int (zI v15))) i_211_12 rfl (fun _ => rfl) rfl rfl rfl ?_
        show aW _ _ _ _ _ _ (172, [some (.ref 143), some (.int (zI dp)), some (.int (zI b)), some (.int (zI n)), some (.int (zI cd)), some (.int (zI mn)), some (.int (zI to)), some (.int (zI rk)), some (.int (zI kd)), some (.int (zI fr)), some (.int (zI be)), some (.int (zI it)), some (.int (zI s)), x13], [.int (zI v15), .int (zI v14), .int (zI fr), .int (zI kd), .int (zI s)], es)
        refine x0 (r := (174, [some (.ref 143), some (.int (zI dp)), some (.int (zI b)), some (.int (zI n)), some (.int (zI cd)), some (.int (zI mn)), some (.int (zI to)), some (.int (zI rk)), some (.int (zI kd)), some (.int (zI fr)), some (.int (zI be)), some (.int (zI it)), some (.int (zI s)), x13], [.int (zI to), .int (zI v15), .int (zI v14), .int (zI fr), .int (zI kd), .int (zI s)], es)) i_254_172 rfl ?_
        refine x0 (r := (176, [some (.ref 143), some (.int (zI dp)), some (.int (zI b)), some (.int (zI n)), some (.int (zI cd)), some (.int (zI mn)), some (.int (zI to)), some (.int (zI rk)), some (.int (zI kd)), some (.int (zI fr)), some (.int (zI be)), some (.int (zI it)), some (.int (zI s)), x13], [.int (zI 6), .int (zI to), .int (zI v15), .int (zI v14), .int (zI fr), .int (zI kd), .int (zI s)], es)) i_254_174 (by rfl) ?_
        refine x_iremn i_254_176 (by omega) (by unfold i32 iLO iHI; omega) (by unfold i32 iLO iHI; omega) (by omega) ?_
        refine x0 (r := (179, [some (.ref 143), some (.int (zI dp)), some (.int (zI b)), some (.int (zI n)), some (.int (zI cd)), some (.int (zI mn)), some (.int (zI to)), some (.int (zI rk)), some (.int (zI kd)), some (.int (zI fr)), some (.int (zI be)), some (.int (zI it)), some (.int (zI s)), x13], [.int (zI rk), .int (zI (to % 6)), .int (zI v15), .int (zI v14), .int (zI fr), .int (zI kd), .int (zI s)], es)) i_254_177 rfl ?_
        refine x_call (vs := [.int (zI s), .int (zI kd), .int (zI fr), .int (zI v14), .int (zI v15), .int (zI (to % 6)), .int (zI rk)]) (rs := []) i_254_179 rfl (fun _ => rfl) rfl rfl rfl rfl rfl rfl ?_
        show aW _ _ _ _ _ _ (0, [some (.int (zI s)), some (.int (zI kd)), some (.int (zI fr)), some (.int (zI v14)), some (.int (zI v15)), some (.int (zI (to % 6))), some (.int (zI rk)), none, none], [], es)
        refine fits_spec hs_es (by omega) (by omega) (by omega) (by omega) (by omega) (by omega) (by omega) (fun v16 p_v16 => ?_)
        have r_v16 := p_v16.2
        show aW _ _ _ _ _ _ (182, [some (.ref 143), some (.int (zI dp)), some (.int (zI b)), some (.int (zI n)), some (.int (zI cd)), some (.int (zI mn)), some (.int (zI to)), some (.int (zI rk)), some (.int (zI kd)), some (.int (zI fr)), some (.int (zI be)), some (.int (zI it)), some (.int (zI s)), x13], [.int (zI v16)], es)
        by_cases c17 : v16 ≠ 0
        · refine x_ifT i_254_182 (by unfold i32 iLO iHI; omega) rfl (by simp only [zC, cR]; omega) ?_
          refine x0 (r := (190, [some (.ref 143), some (.int (zI dp)), some (.int (zI b)), some (.int (zI n)), some (.int (zI cd)), some (.int (zI mn)), some (.int (zI to)), some (.int (zI rk)), some (.int (zI kd)), some (.int (zI fr)), some (.int (zI be)), some (.int (zI it)), some (.int (zI s)), x13], [.int (zI s)], es)) i_254_188 rfl ?_
          refine x_ifT i_254_190 (by unfold i32 iLO iHI; omega) rfl (by simp only [zC, cR]; omega) ?_
          refine x0 (r := (198, [some (.ref 143), some (.int (zI dp)), some (.int (zI b)), some (.int (zI n)), some (.int (zI cd)), some (.int (zI mn)), some (.int (zI to)), some (.int (zI rk)), some (.int (zI kd)), some (.int (zI fr)), some (.int (zI be)), some (.int (zI it)), some (.int (zI s)), x13], [.ref 143], es)) i_254_197 rfl ?_
          refine x_getr (p := 79) (k := 154) i_254_198 hs_es rfl rfl ?_
          show aW _ _ _ _ _ _ (201, [some (.ref 143), some (.int (zI dp)), some (.int (zI b)), some (.int (zI n)), some (.int (zI cd)), some (.int (zI mn)), some (.int (zI to)), some (.int (zI rk)), some (.int (zI kd)), some (.int (zI fr)), some (.int (zI be)), some (.int (zI it)), some (.int (zI s)), x13], [.ref 154], es)
          refine x0 (r := (203, [some (.ref 143), some (.int (zI dp)), some (.int (zI b)), some (.int (zI n)), some (.int (zI cd)), some (.int (zI mn)), some (.int (zI to)), some (.int (zI rk)), some (.int (zI kd)), some (.int (zI fr)), some (.int (zI be)), some (.int (zI it)), some (.int (zI s)), x13], [.int (zI s), .ref 154], es)) i_254_201 rfl ?_
          refine x_iald (p := 90) i_254_203 hs_es rfl (by unfold i32 iLO iHI; omega) (by omega) (by omega) ?_
          obtain ⟨v18, e_v18⟩ : ∃ z : Int, z = (gA es 90 s.toNat).toInt := ⟨_, rfl⟩
          rw [← e_v18]
          have r_v18 : iLO ≤ v18 ∧ v18 ≤ iHI := by rw [e_v18]; exact i32_rng _
          unfold iLO iHI at r_v18
          have b_v18 : (0 : Int) ≤ v18 ∧ v18 ≤ (9 : Int) := by rw [e_v18]; exact gA_bd hT_es (p := 90) (k := s.toNat) rfl (by omega) (by decide)
          refine x0 (r := (206, [some (.ref 143), some (.int (zI dp)), some (.int (zI b)), some (.int (zI n)), some (.int (zI cd)), some (.int (zI mn)), some (.int (zI to)), some (.int (zI rk)), some (.int (zI kd)), some (.int (zI fr)), some (.int (zI be)), some (.int (zI it)), some (.int (zI s)), some (.int (zI v18))], [], es)) i_254_204 rfl ?_
          refine x0 (r := (208, [some (.ref 143), some (.int (zI dp)), some (.int (zI b)), some (.int (zI n)), some (.int (zI cd)), some (.int (zI mn)), some (.int (zI to)), some (.int (zI rk)), some (.int (zI kd)), some (.int (zI fr)), some (.int (zI be)), some (.int (zI it)), some (.int (zI s)), some (.int (zI v18))], [.int (zI v18)], es)) i_254_206 rfl ?_
          refine x0 (r := (210, [some (.ref 143), some (.int (zI dp)), some (.int (zI b)), some (.int (zI n)), some (.int (zI cd)), some (.int (zI mn)), some (.int (zI to)), some (.int (zI rk)), some (.int (zI kd)), some (.int (zI fr)), some (.int (zI be)), some (.int (zI it)), some (.int (zI s)), some (.int (zI v18))], [.int (zI be), .int (zI v18)], es)) i_254_208 rfl ?_
          by_cases c19 : be ≤ v18
          · refine x_cmpT i_254_210 (by unfold i32 iLO iHI; omega) (by unfold i32 iLO iHI; omega) rfl (by simp only [zC, cR]; omega) ?_
            refine x0 (r := (220, [some (.ref 143), some (.int (zI dp)), some (.int (zI b)), some (.int (zI n)), some (.int (zI cd)), some (.int (zI mn)), some (.int (zI to)), some (.int (zI rk)), some (.int (zI kd)), some (.int (zI fr)), some (.int (zI be)), some (.int (zI it)), some (.int (zI s)), some (.int (zI v18))], [.int (zI it)], es)) i_254_218 rfl ?_
            refine x0 (r := (222, [some (.ref 143), some (.int (zI dp)), some (.int (zI b)), some (.int (zI n)), some (.int (zI cd)), some (.int (zI mn)), some (.int (zI to)), some (.int (zI rk)), some (.int (zI kd)), some (.int (zI fr)), some (.int (zI be)), some (.int (zI it)), some (.int (zI s)), some (.int (zI v18))], [], es)) i_254_220 rfl ?_
            refine x0 (r := (224, [some (.ref 143), some (.int (zI dp)), some (.int (zI b)), some (.int (zI n)), some (.int (zI cd)), some (.int (zI mn)), some (.int (zI to)), some (.int (zI rk)), some (.int (zI kd)), some (.int (zI fr)), some (.int (zI be)), some (.int (zI it)), some (.int (zI s)), some (.int (zI v18))], [.int (zI be)], es)) i_254_222 rfl ?_
            refine x0 (r := (226, [some (.ref 143), some (.int (zI dp)), some (.int (zI b)), some (.int (zI n)), some (.int (zI cd)), some (.int (zI mn)), some (.int (zI to)), some (.int (zI rk)), some (.int (zI kd)), some (.int (zI fr)), some (.int (zI be)), some (.int (zI it)), some (.int (zI s)), some (.int (zI v18))], [.int (zI v18), .int (zI be)], es)) i_254_224 rfl ?_
            refine x_min i_254_226 (by unfold i32 iLO iHI; omega) (by unfold i32 iLO iHI; omega) (Nat.le_of_ble_eq_true rfl) ?_
            obtain ⟨v20, e_v20⟩ : ∃ z : Int, z = min be v18 := ⟨_, rfl⟩
            rw [← e_v20]
            refine x0 (r := (231, [some (.ref 143), some (.int (zI dp)), some (.int (zI b)), some (.int (zI n)), some (.int (zI cd)), some (.int (zI mn)), some (.int (zI to)), some (.int (zI rk)), some (.int (zI kd)), some (.int (zI fr)), some (.int (zI v20)), some (.int (zI it)), some (.int (zI s)), some (.int (zI v18))], [], es)) i_254_229 rfl ?_
            refine x_iinc (x := s) i_254_231 rfl (by show 12 < 14; decide) ?_
            show aW _ _ _ _ _ _ (234, [some (.ref 143), some (.int (zI dp)), some (.int (zI b)), some (.int (zI n)), some (.int (zI cd)), some (.int (zI mn)), some (.int (zI to)), some (.int (zI rk)), some (.int (zI kd)), some (.int (zI fr)), some (.int (zI v20)), some (.int (zI it)), some (.int (zI (s + 1))), some (.int (zI v18))], [], es)
            refine x0 (r := (130, [some (.ref 143), some (.int (zI dp)), some (.int (zI b)), some (.int (zI n)), some (.int (zI cd)), some (.int (zI mn)), some (.int (zI to)), some (.int (zI rk)), some (.int (zI kd)), some (.int (zI fr)), some (.int (zI v20)), some (.int (zI it)), some (.int (zI (s + 1))), some (.int (zI v18))], [], es)) i_254_234 rfl ?_
            exact K6 c1 c4 v12 e_v12 c13 v14 e_v14 v15 e_v15 v16 p_v16 c17 v18 e_v18 c19 v20 e_v20
          · refine x_cmpF i_254_210 (by unfold i32 iLO iHI; omega) (by unfold i32 iLO iHI; omega) rfl (by simp only [zC, cR]; omega) ?_
            refine x0 (r := (215, [some (.ref 143), some (.int (zI dp)), some (.int (zI b)), some (.int (zI n)), some (.int (zI cd)), some (.int (zI mn)), some (.int (zI to)), some (.int (zI rk)), some (.int (zI kd)), some (.int (zI fr)), some (.int (zI be)), some (.int (zI it)), some (.int (zI s)), some (.int (zI v18))], [.int (zI s)], es)) i_254_213 rfl ?_
            refine x0 (r := (220, [some (.ref 143), some (.int (zI dp)), some (.int (zI b)), some (.int (zI n)), some (.int (zI cd)), some (.int (zI mn)), some (.int (zI to)), some (.int (zI rk)), some (.int (zI kd)), some (.int (zI fr)), some (.int (zI be)), some (.int (zI it)), some (.int (zI s)), some (.int (zI v18))], [.int (zI s)], es)) i_254_215 rfl ?_
            refine x0 (r := (222, [some (.ref 143), some (.int (zI dp)), some (.int (zI b)), some (.int (zI n)), some (.int (zI cd)), some (.int (zI mn)), some (.int (zI to)), some (.int (zI rk)), some (.int (zI kd)), some (.int (zI fr)), some (.int (zI be)), some (.int (zI s)), some (.int (zI s)), some (.int (zI v18))], [], es)) i_254_220 rfl ?_
            refine x0 (r := (224, [some (.ref 143), some (.int (zI dp)), some (.int (zI b)), some (.int (zI n)), some (.int (zI cd)), some (.int (zI mn)), some (.int (zI to)), some (.int (zI rk)), some (.int (zI kd)), some (.int (zI fr)), some (.int (zI be)), some (.int (zI s)), some (.int (zI s)), some (.int (zI v18))], [.int (zI be)], es)) i_254_222 rfl ?_
            refine x0 (r := (226, [some (.ref 143), some (.int (zI dp)), some (.int (zI b)), some (.int (zI n)), some (.int (zI cd)), some (.int (zI mn)), some (.int (zI to)), some (.int (zI rk)), some (.int (zI kd)), some (.int (zI fr)), some (.int (zI be)), some (.int (zI s)), some (.int (zI s)), some (.int (zI v18))], [.int (zI v18), .int (zI be)], es)) i_254_224 rfl ?_
            refine x_min i_254_226 (by unfold i32 iLO iHI; omega) (by unfold i32 iLO iHI; omega) (Nat.le_of_ble_eq_true rfl) ?_
            obtain ⟨v21, e_v21⟩ : ∃ z : Int, z = min be v18 := ⟨_, rfl⟩
            rw [← e_v21]
            refine x0 (r := (231, [some (.ref 143), some (.int (zI dp)), some (.int (zI b)), some (.int (zI n)), some (.int (zI cd)), some (.int (zI mn)), some (.int (zI to)), some (.int (zI rk)), some (.int (zI kd)), some (.int (zI fr)), some (.int (zI v21)), some (.int (zI s)), some (.int (zI s)), some (.int (zI v18))], [], es)) i_254_229 rfl ?_
            refine x_iinc (x := s) i_254_231 rfl (by show 12 < 14; decide) ?_
            show aW _ _ _ _ _ _ (234, [some (.ref 143), some (.int (zI dp)), some (.int (zI b)), some (.int (zI n)), some (.int (zI cd)), some (.int (zI mn)), some (.int (zI to)), some (.int (zI rk)), some (.int (zI kd)), some (.int (zI fr)), some (.int (zI v21)), some (.int (zI s)), some (.int (zI (s + 1))), some (.int (zI v18))], [], es)
            refine x0 (r := (130, [some (.ref 143), some (.int (zI dp)), some (.int (zI b)), some (.int (zI n)), some (.int (zI cd)), some (.int (zI mn)), some (.int (zI to)), some (.int (zI rk)), some (.int (zI kd)), some (.int (zI fr)), some (.int (zI v21)), some (.int (zI s)), some (.int (zI (s + 1))), some (.int (zI v18))], [], es)) i_254_234 rfl ?_
            exact K7 c1 c4 v12 e_v12 c13 v14 e_v14 v15 e_v15 v16 p_v16 c17 v18 e_v18 c19 v21 e_v21
        · refine x_ifF i_254_182 (by unfold i32 iLO iHI; omega) rfl (by simp only [zC, cR]; omega) ?_
          refine x0 (r := (231, [some (.ref 143), some (.int (zI dp)), some (.int (zI b)), some (.int (zI n)), some (.int (zI cd)), some (.int (zI mn)), some (.int (zI to)), some (.int (zI rk)), some (.int (zI kd)), some (.int (zI fr)), some (.int (zI be)), some (.int (zI it)), some (.int (zI s)), x13], [], es)) i_254_185 rfl ?_
          refine x_iinc (x := s) i_254_231 rfl (by show 12 < 14; decide) ?_
          show aW _ _ _ _ _ _ (234, [some (.ref 143), some (.int (zI dp)), some (.int (zI b)), some (.int (zI n)), some (.int (zI cd)), some (.int (zI mn)), some (.int (zI to)), some (.int (zI rk)), some (.int (zI kd)), some (.int (zI fr)), some (.int (zI be)), some (.int (zI it)), some (.int (zI (s + 1))), x13], [], es)
          refine x0 (r := (130, [some (.ref 143), some (.int (zI dp)), some (.int (zI b)), some (.int (zI n)), some (.int (zI cd)), some (.int (zI mn)), some (.int (zI to)), some (.int (zI rk)), some (.int (zI kd)), some (.int (zI fr)), some (.int (zI be)), some (.int (zI it)), some (.int (zI (s + 1))), x13], [], es)) i_254_234 rfl ?_
          exact K8 c1 c4 v12 e_v12 c13 v14 e_v14 v15 e_v15 v16 p_v16 c17
section
variable {O : pOut} {d kc ks : Nat} {Q : pRes → Prop} {es : PH}
theorem tt_spec {m n b : Int} (hs : sh es) (hm : 0 ≤ m ∧ m ≤ 30) (hn : 0 ≤ n ∧ n ≤ 24) (hb : 0 ≤ b ∧ b ≤ 2) (hT : hOK tT es) (K : ∀ v, ttP m n b es v → Q (.inl (some (.int (zI v))), es, kc, ks)) :
    aW O (d + 3) 241 kc ks Q (0, [some (.ref 143), some (.int (zI m)), some (.int (zI n)), some (.int (zI b))], [], es) := by
  have e5 : n ≠ 0 → (n - 1).toNat = n.toNat - 1 := by omega
  refine s_ofTwice hs hb hm hn hT (fun h => K 1000 ⟨by unfold ttI; rw [if_pos (by omega)], by omega, by omega⟩) (fun h1 v2 p2 h2 v3 e3 v4 e4 => ?_) (fun h1 v2 p2 h2 => K 1000 ⟨?_, by omega, by omega⟩)
  · have i1 : ((25 * ((31 * b) + m)) + (n - 1)).toNat = 25 * (31 * b.toNat + m.toNat) + (n.toNat - 1) := by omega
    rw [i1] at e3
    have e4' : v4 = (gA es 90 7).toInt := e4
    have g1 := sum_bd hT (i := 25 * (31 * b.toNat + m.toNat) + (n.toNat - 1)) (by omega)
    have g2 := pr_bd hT (i := 7) (by omega)
    rw [← e3] at g1
    rw [← e4'] at g2
    have p3 := p2.1
    rw [e5 h1] at p3
    exact K _ ⟨by unfold ttI; rw [if_neg (by omega), if_neg (by rw [← p3]; exact h2), e3, e4'], by omega, by omega⟩
  · have p3 := p2.1
    rw [e5 h1] at p3
    unfold ttI; rw [if_neg (by omega), if_pos (by rw [← p3]; omega)]
/-- tries: what is left of the kinds of slips, what was best -/
noncomputable def trF (po : Nat → Int32) (kd fr fi ra f2 r2 : Int) : Nat → Nat → Int → Int
  | 0, _, be => be
  | m + 1, s, be => if (0 < s ∧ (po s).toInt = 0) ∨ fitI (s : Int) kd fr fi ra f2 r2 = 0 then trF po kd fr fi ra f2 r2 m (s + 1) be
    else trF po kd fr fi ra f2 r2 m (s + 1) (min be (if s = 0 then 0 else (po s).toInt))
def tkd (W : Nat → Int32) (b n : Nat) (mn : Int) : Int := if ntW W b n 0 = mn.tdiv 2 then 1 else 0
def tfr (W : Nat → Int32) (b n : Nat) (cd : Int) : Int := if ntW W b n 1 < 0 ∨ ntW W b n 1 = cd / 36 % 6 then 1 else 0
def trk (wo : Nat → Int32) (b : Nat) (mn cd : Int) : Int := if (wo b).toInt = 1 ∧ sdI mn = 1 then 5 - cd % 36 / 6 else cd % 36 / 6
noncomputable def fitF (W wo po : Nat → Int32) (row : Nat → Int) (cd : Nat) (b n : Nat) : Int :=
  trF po (tkd W b n (row (cd / 36))) (tfr W b n cd) (ntW W b n 2) (ntW W b n 3) ((cd : Int) % 36 % 6) (trk wo b (row (cd / 36)) cd) 6 0 1000
def triesP (D b n : Nat) (es es' : PH) : Prop := sh es' ∧ hOK tT es' ∧ fr [(92, 0, 72 * D + 24 * b + n, 72 * D + 24 * b + n + 1), (93, 0, 72 * D + 24 * b + n, 72 * D + 24 * b + n + 1)] es es' ∧
  (gA es' 92 (72 * D + 24 * b + n)).toInt = fitF (gA es 80) (gA es 89) (gA es 90) (brow es D) (gA es 91 D).toInt.toNat b n
theorem tS80_nt : ∀ b, b < 3 → ∀ n, n < 24 → tS80 (119 + 98 * b + 2 + 4 * n + 2) = (-6, 7) ∧ tS80 (119 + 98 * b + 2 + 4 * n + 3) = (-7, 12) := by decide +kernel
theorem trF_bd {po : Nat → Int32} {kd fr fi ra f2 r2 : Int} (hp : ∀ i, i < 8 → 0 ≤ (po i).toInt) : ∀ (m s : Nat) (be : Int), s + m ≤ 8 → 0 ≤ be → be ≤ 1000 → 0 ≤ trF po kd fr fi ra f2 r2 m s be ∧ trF po kd fr fi ra f2 r2 m s be ≤ 1000
  | 0, s, be, _, h0, h1 => ⟨h0, h1⟩
  | m + 1, s, be, hs, h0, h1 => by
    rw [trF]
    have := hp s (by omega)
    split
    · exact trF_bd hp m (s + 1) be (by omega) h0 h1
    · exact trF_bd hp m (s + 1) _ (by omega) (by split <;> omega) (by omega)
theorem tries_loop {dp b n cd mn to rk kd fr : Int} {D B N : Nat} (hD : dp = (D : Int)) (hB : b = (B : Int)) (hN : n = (N : Int)) (hd : 0 ≤ dp ∧ dp ≤ 30) (hb : 0 ≤ b ∧ b ≤ 2) (hn : 0 ≤ n ∧ n ≤ 23) (h1 : 0 ≤ cd ∧ cd ≤ 1295) (h2 : -1 ≤ mn ∧ mn ≤ 9) (h3 : 0 ≤ to ∧ to ≤ 35) (h4 : 0 ≤ rk ∧ rk ≤ 5) (h5 : 0 ≤ kd ∧ kd ≤ 1) (h6 : 0 ≤ fr ∧ fr ≤ 1) (hT : hOK tT es)
    (K : ∀ be it : Int, be = trF (gA es 90) kd fr (ntW (gA es 80) B N 2) (ntW (gA es 80) B N 3) (to % 6) rk 6 0 1000 → 0 ≤ be ∧ be ≤ 1000 → 0 ≤ it ∧ it ≤ 5 → Q (.inl none, sA (sA es 92 (72 * D + 24 * B + N) (zI be)) 93 (72 * D + 24 * B + N) (zI it), kc, ks)) :
    ∀ (m s : Nat) (be it : Int) (x13 : Option Value), s + m = 6 → 0 ≤ be ∧ be ≤ 1000 → 0 ≤ it ∧ it ≤ 5 → trF (gA es 90) kd fr (ntW (gA es 80) B N 2) (ntW (gA es 80) B N 3) (to % 6) rk m s be = trF (gA es 90) kd fr (ntW (gA es 80) B N 2) (ntW (gA es 80) B N 3) (to % 6) rk 6 0 1000 →
    aW O (d + 2) 254 kc ks Q (130, [some (.ref 143), some (.int (zI dp)), some (.int (zI b)), some (.int (zI n)), some (.int (zI cd)), some (.int (zI mn)), some (.int (zI to)), some (.int (zI rk)), some (.int (zI kd)), some (.int (zI fr)), some (.int (zI be)), some (.int (zI it)), some (.int (zI (s : Int))), x13], [], es) := by
  have i2 : ((119 + (98 * b)) + ((2 + (4 * n)) + 2)).toNat = 119 + 98 * B + 2 + 4 * N + 2 := by omega
  have i3 : ((119 + (98 * b)) + ((2 + (4 * n)) + 3)).toNat = 119 + 98 * B + 2 + 4 * N + 3 := by omega
  have i4 : ((((3 * dp) + b) * 24) + n).toNat = 72 * D + 24 * B + N := by omega
  have w2 := gA_bd hT (p := 80) (t := 0) (n := 2125) (sp := tS80) (k := 119 + 98 * B + 2 + 4 * N + 2) rfl (by omega) (by decide)
  have w3 := gA_bd hT (p := 80) (t := 0) (n := 2125) (sp := tS80) (k := 119 + 98 * B + 2 + 4 * N + 3) rfl (by omega) (by decide)
  rw [(tS80_nt B (by omega) N (by omega)).1] at w2
  rw [(tS80_nt B (by omega) N (by omega)).2] at w3
  have w2' : -6 ≤ (gA es 80 (119 + 98 * B + 2 + 4 * N + 2)).toInt ∧ (gA es 80 (119 + 98 * B + 2 + 4 * N + 2)).toInt ≤ 7 := w2
  have w3' : -7 ≤ (gA es 80 (119 + 98 * B + 2 + 4 * N + 3)).toInt ∧ (gA es 80 (119 + 98 * B + 2 + 4 * N + 3)).toInt ≤ 12 := w3
  intro m
  induction m with
  | zero =>
    intro s be it x13 hm hbe hit hF
    refine s_try130 (s := (s : Int)) (sh_of hT) hd hb hn h1 h2 h3 h4 h5 h6 hbe hit ⟨by omega, by omega⟩ (by rw [i2]; omega) (by rw [i3]; omega) hT (fun _ es2 e2 es3 e3 => ?_) ?_ ?_ ?_ ?_ ?_ ?_ ?_
    · rw [i4] at e2 e3
      rw [e3, e2]
      exact K be it (by rw [← hF, trF]) hbe hit
    all_goals intro h; omega
  | succ m ih =>
    intro s be it x13 hm hbe hit hF
    have e1 : ((s + 1 : Nat) : Int) = (s : Int) + 1 := by omega
    have gp := pr_bd hT (i := s) (by omega)
    have skip : ∀ x : Option Value, ((0 < s ∧ (gA es 90 s).toInt = 0) ∨ fitI (s : Int) kd fr (ntW (gA es 80) B N 2) (ntW (gA es 80) B N 3) (to % 6) rk = 0) →
        aW O (d + 2) 254 kc ks Q (130, [some (.ref 143), some (.int (zI dp)), some (.int (zI b)), some (.int (zI n)), some (.int (zI cd)), some (.int (zI mn)), some (.int (zI to)), some (.int (zI rk)), some (.int (zI kd)), some (.int (zI fr)), some (.int (zI be)), some (.int (zI it)), some (.int (zI ((s : Int) + 1))), x], [], es) := by
      intro x hc
      have := ih (s + 1) be it x (by omega) hbe hit (by rw [← hF, trF, if_pos hc])
      rw [e1] at this
      exact this
    have take : ∀ (p be' it' : Int) (x : Option Value), ¬ ((0 < s ∧ (gA es 90 s).toInt = 0) ∨ fitI (s : Int) kd fr (ntW (gA es 80) B N 2) (ntW (gA es 80) B N 3) (to % 6) rk = 0) → p = (if s = 0 then 0 else (gA es 90 s).toInt) → be' = min be p → 0 ≤ it' ∧ it' ≤ 5 →
        aW O (d + 2) 254 kc ks Q (130, [some (.ref 143), some (.int (zI dp)), some (.int (zI b)), some (.int (zI n)), some (.int (zI cd)), some (.int (zI mn)), some (.int (zI to)), some (.int (zI rk)), some (.int (zI kd)), some (.int (zI fr)), some (.int (zI be')), some (.int (zI it')), some (.int (zI ((s : Int) + 1))), x], [], es) := by
      intro p be' it' x hc hp hbe' hit'
      have hp0 : 0 ≤ p := by rw [hp]; split <;> omega
      have := ih (s + 1) be' it' x (by omega) (by omega) hit' (by rw [← hF, trF, if_neg hc, hbe', hp])
      rw [e1] at this
      exact this
    have hz : ¬ (6 : Int) ≤ (s : Int) := by omega
    refine s_try130 (s := (s : Int)) (sh_of hT) hd hb hn h1 h2 h3 h4 h5 h6 hbe hit ⟨by omega, by omega⟩ (by rw [i2]; omega) (by rw [i3]; omega) hT (fun h => absurd h hz) (fun _ hs0 v5 e5 v6 e6 v7 p7 h7 c1 v10 e10 => ?_) (fun _ hs0 v5 e5 v6 e6 v7 p7 h7 c1 v10 e10 => ?_) (fun _ hs0 v5 e5 v6 e6 v7 p7 h7 => ?_) (fun _ hs0 v12 e12 h12 => ?_) (fun _ hs0 v12 e12 h12 v5 e5 v6 e6 v7 p7 h7 v18 e18 c1 v10 e10 => ?_) (fun _ hs0 v12 e12 h12 v5 e5 v6 e6 v7 p7 h7 v18 e18 c1 v10 e10 => ?_) (fun _ hs0 v12 e12 h12 v5 e5 v6 e6 v7 p7 h7 => ?_)
    all_goals first
      | (rw [Int.toNat_natCast] at e12
         exact skip _ (Or.inl ⟨by omega, by rw [← e12]; exact h12⟩))
      | skip
    all_goals
      rw [i2] at e5
      rw [i3] at e6
      have hv := p7.1
      rw [e5, e6] at hv
    · exact take 0 _ _ _ (fun hc => by rcases hc with hc | hc; omega; exact h7 (by rw [hv]; exact hc)) (by rw [if_pos (by omega)]) e10 hit
    · exact take 0 _ _ _ (fun hc => by rcases hc with hc | hc; omega; exact h7 (by rw [hv]; exact hc)) (by rw [if_pos (by omega)]) e10 ⟨by omega, by omega⟩
    · exact skip _ (Or.inr (by have : v7 = 0 := by omega
                               rw [hv] at this; exact this))
    · rw [Int.toNat_natCast] at e12 e18
      exact take v18 _ _ _ (fun hc => by rcases hc with hc | hc; exact h12 (by rw [e12]; exact hc.2); exact h7 (by rw [hv]; exact hc)) (by rw [if_neg (by omega)]; exact e18) e10 hit
    · rw [Int.toNat_natCast] at e12 e18
      exact take v18 _ _ _ (fun hc => by rcases hc with hc | hc; exact h12 (by rw [e12]; exact hc.2); exact h7 (by rw [hv]; exact hc)) (by rw [if_neg (by omega)]; exact e18) e10 ⟨by omega, by omega⟩
    · exact skip _ (Or.inr (by have : v7 = 0 := by omega
                               rw [hv] at this; exact this))
end
theorem tdv {x : Int} (h : -1 ≤ x ∧ x ≤ 9) : -1 ≤ x.tdiv 2 ∧ x.tdiv 2 ≤ 4 := by
  rcases Int.lt_or_le x 0 with h0 | h0
  · have : x = -1 := by omega
    subst this; decide
  · rw [Int.tdiv_eq_ediv_of_nonneg h0]; omega
section
variable {O : pOut} {d kc ks : Nat} {Q : pRes → Prop} {es : PH}
theorem tries_spec {dp b n : Int} (hs : sh es) (hd : 0 ≤ dp ∧ dp ≤ 30) (hb : 0 ≤ b ∧ b ≤ 2) (hn : 0 ≤ n ∧ n ≤ 23) (hT : hOK tT es) (K : ∀ es', triesP dp.toNat b.toNat n.toNat es es' → Q (.inl none, es', kc, ks)) :
    aW O (d + 2) 254 kc ks Q (0, [some (.ref 143), some (.int (zI dp)), some (.int (zI b)), some (.int (zI n)), none, none, none, none, none, none, none, none, none, none], [], es) := by
  obtain ⟨D, rfl⟩ := Int.eq_ofNat_of_zero_le hd.1
  obtain ⟨B, rfl⟩ := Int.eq_ofNat_of_zero_le hb.1
  obtain ⟨N, rfl⟩ := Int.eq_ofNat_of_zero_le hn.1
  simp only [Int.toNat_natCast] at K
  have hcd := gA_bd hT (p := 91) (t := 0) (n := 31) (k := D) rfl (by omega) (by decide)
  have hcd' : 0 ≤ (gA es 91 D).toInt ∧ (gA es 91 D).toInt ≤ 1295 := hcd
  obtain ⟨c, hc⟩ := Int.eq_ofNat_of_zero_le hcd'.1
  have hmn := gA_bd hT (p := 87) (t := 0) (n := 1116) (k := 36 * D + c / 36) rfl (by omega) (by decide)
  have hmn' : -1 ≤ (gA es 87 (36 * D + c / 36)).toInt ∧ (gA es 87 (36 * D + c / 36)).toInt ≤ 9 := hmn
  have hrow : brow es D (c / 36) = (gA es 87 (36 * D + c / 36)).toInt := by unfold brow; rw [if_pos (by omega)]
  rw [← hrow] at hmn'
  have j0 : ((119 + (98 * (B : Int))) + ((2 + (4 * (N : Int))) + 0)).toNat = 119 + 98 * B + 2 + 4 * N + 0 := by omega
  have j1 : ((119 + (98 * (B : Int))) + ((2 + (4 * (N : Int))) + 1)).toNat = 119 + 98 * B + 2 + 4 * N + 1 := by omega
  have fin : ∀ (be it : Int), be = fitF (gA es 80) (gA es 89) (gA es 90) (brow es D) c B N → 0 ≤ be ∧ be ≤ 1000 → 0 ≤ it ∧ it ≤ 5 → Q (.inl none, sA (sA es 92 (72 * D + 24 * B + N) (zI be)) 93 (72 * D + 24 * B + N) (zI it), kc, ks) := by
    intro be it hbe h1 h2
    have hz : (zI be).toInt = be := zI_toInt (by unfold i32 iLO iHI; omega)
    have hz2 : (zI it).toInt = it := zI_toInt (by unfold i32 iLO iHI; omega)
    have hT1 : hOK tT (sA es 92 (72 * D + 24 * B + N) (zI be)) := hOK_sA hT (p := 92) (t := 0) (n := 2232) rfl (fun _ => by rw [hz]; exact h1)
    have hT2 : hOK tT (sA (sA es 92 (72 * D + 24 * B + N) (zI be)) 93 (72 * D + 24 * B + N) (zI it)) := hOK_sA hT1 (p := 93) (t := 0) (n := 2232) rfl (fun _ => by rw [hz2]; exact h2)
    refine K _ ⟨sh_of hT2, hT2, fr_trans (fr_sA (mIn_yes (by simp only [mHq, true_and, and_true, false_and, and_false, or_false, false_or, not_false_eq_true, Nat.reduceEqDiff] <;> omega))) (fr_sA (mIn_yes (by simp only [mHq, true_and, and_true, false_and, and_false, or_false, false_or, not_false_eq_true, Nat.reduceEqDiff] <;> omega))), ?_⟩
    rw [gA_sA_ne (by decide), gA_sA hs (p := 92) (t := 0) (n := 2232) rfl (by decide)]
    unfold upd
    rw [if_pos rfl, hz, hc]
    exact hbe
  have go : ∀ rk : Int, rk = trk (gA es 89) B (brow es D (c / 36)) c → aW O (d + 2) 254 kc ks Q (61, [some (.ref 143), some (.int (zI D)), some (.int (zI B)), some (.int (zI N)), some (.int (zI (c : Int))), some (.int (zI (brow es D (c / 36)))), some (.int (zI ((c : Int) % 36))), none, none, none, none, none, none, none], [.int (zI rk)], es) := by
    intro rk hrk
    have hrk2 : 0 ≤ rk ∧ rk ≤ 5 := by rw [hrk]; unfold trk; split <;> omega
    have lp : ∀ kd fr : Int, kd = tkd (gA es 80) B N (brow es D (c / 36)) → fr = tfr (gA es 80) B N c → aW O (d + 2) 254 kc ks Q (130, [some (.ref 143), some (.int (zI D)), some (.int (zI B)), some (.int (zI N)), some (.int (zI (c : Int))), some (.int (zI (brow es D (c / 36)))), some (.int (zI ((c : Int) % 36))), some (.int (zI rk)), some (.int (zI kd)), some (.int (zI fr)), some (.int (zI 1000)), some (.int (zI 0)), some (.int (zI 0)), none], [], es) := by
      intro kd fr hkd hfr
      refine tries_loop (D := D) (B := B) (N := N) rfl rfl rfl hd hb hn (by omega) hmn' (by omega) hrk2 (by rw [hkd]; unfold tkd; split <;> omega) (by rw [hfr]; unfold tfr; split <;> omega) hT (fun be it h1 h2 h3 => fin be it ?_ h2 h3) 6 0 1000 0 none (by omega) (by omega) (by omega) rfl
      rw [h1, hkd, hfr, hrk]
      rfl
    refine s_try61 (d := d) hs hd hb hn (by omega) hmn' (by omega) hrk2 (tdv hmn') hT (fun v1 e1 h1 v3 e3 h3 => ?_) (fun v1 e1 h1 v3 e3 h3 v5 e5 h5 => ?_) (fun v1 e1 h1 v3 e3 h3 v5 e5 h5 => ?_) (fun v1 e1 h1 v3 e3 h3 => ?_) (fun v1 e1 h1 v3 e3 h3 v5 e5 h5 => ?_) (fun v1 e1 h1 v3 e3 h3 v5 e5 h5 => ?_)
    all_goals
      rw [j0] at e1
      rw [j1] at e3
    · exact lp 0 1 (by unfold tkd ntW; rw [← e1, if_neg h1]) (by unfold tfr ntW; rw [← e3, if_pos (Or.inl h3)])
    · rw [j1] at e5
      exact lp 0 0 (by unfold tkd ntW; rw [← e1, if_neg h1]) (by unfold tfr ntW; rw [← e3, if_neg (by omega)])
    · rw [j1] at e5
      exact lp 0 1 (by unfold tkd ntW; rw [← e1, if_neg h1]) (by unfold tfr ntW; rw [← e3, if_pos (by omega)])
    · exact lp 1 1 (by unfold tkd ntW; rw [← e1, if_pos (by omega)]) (by unfold tfr ntW; rw [← e3, if_pos (Or.inl h3)])
    · rw [j1] at e5
      exact lp 1 0 (by unfold tkd ntW; rw [← e1, if_pos (by omega)]) (by unfold tfr ntW; rw [← e3, if_neg (by omega)])
    · rw [j1] at e5
      exact lp 1 1 (by unfold tkd ntW; rw [← e1, if_pos (by omega)]) (by unfold tfr ntW; rw [← e3, if_pos (by omega)])
  have i1 : ((36 * (D : Int)) + ((c : Int) / 36)).toNat = 36 * D + c / 36 := by omega
  refine s_try0 (d := d + 1) hs hd hb hn hT (fun v1 e1 v2 e2 v3 e3 h3 => ?_) (fun v1 e1 v2 e2 v3 e3 h3 v5 e5 h5 => ?_) (fun v1 e1 v2 e2 v3 e3 h3 v5 e5 h5 => ?_)
  all_goals
    rw [Int.toNat_natCast, hc] at e1
    subst e1
    rw [i1, ← hrow] at e2
    subst e2
    rw [Int.toNat_natCast] at e3
  · exact go _ (by unfold trk; rw [if_neg (by omega)])
  · exact go _ (by unfold trk sdI; rw [if_neg (by omega)])
  · exact go _ (by unfold trk sdI; rw [if_pos (by omega)])
end
