theorem s_rp0 {O : pOut} {d kc ks : Nat} {Q : pRes → Prop} {es : PH} (hs_es : sh es) (hW : wordsOK O) (hT_es : hOK tT es)
    (K1 : ∀ es1 : PH, ltP  es es1 → ∀ v2 : Int, v2 = (gI es1 79 6).toInt → ∀ v3 : Int, v3 = (gI es1 79 8).toInt → v2 ≤ v3 → ∀ es5 : PH, ∀ v6 : Int, nmP 0 999 es1 es5 v6 → aW O (d + 4) 192 kc ks Q (44, [some (.ref 143), some (.int (zI v6))], [.int (zI v6), .int (zI 6), .ref 143], es5))
    (K2 : ∀ es1 : PH, ltP  es es1 → ∀ v2 : Int, v2 = (gI es1 79 6).toInt → ∀ v3 : Int, v3 = (gI es1 79 8).toInt → ¬ (v2 ≤ v3) → ∀ es7 : PH, ∀ v8 : Int, faP  es1 es7 v8 → aW O (d + 4) 192 kc ks Q (25, [some (.ref 143), some (.int (zI v8))], [.int (zI 0), .int (zI v8), .ref 143], es7)) :
    aW O (d + 4) 192 kc ks Q (0, [some (.ref 143), none], [], es) := by
  refine x0 (r := (1, [some (.ref 143), none], [.ref 143], es)) i_192_0 rfl ?_
  refine x_call (vs := [.ref 143]) (rs := []) i_192_1 rfl (fun _ => rfl) rfl rfl rfl rfl rfl (pCall_v (p := 79) hs_es rfl rfl rfl rfl rfl (by decide) rfl rfl rfl rfl rfl) ?_
  show aW _ _ _ _ _ _ (0, [some (.ref 143)], [], es)
  refine lt_spec hs_es hT_es (fun es1 p_es1 => ?_)
  have hs_es1 : sh es1 := p_es1.1
  have hT_es1 : hOK tT es1 := p_es1.2.1
  show aW _ _ _ _ _ _ (4, [some (.ref 143), none], [], es1)
  refine x0 (r := (5, [some (.ref 143), none], [.int (zI (-1))], es1)) i_192_4 (by rfl) ?_
  refine x0 (r := (6, [some (.ref 143), some (.int (zI (-1)))], [], es1)) i_192_5 rfl ?_
  refine x0 (r := (7, [some (.ref 143), some (.int (zI (-1)))], [.ref 143], es1)) i_192_6 rfl ?_
  refine x_geti (p := 79) i_192_7 hs_es1 rfl rfl ?_
  obtain ⟨v2, e_v2⟩ : ∃ z : Int, z = (gI es1 79 6).toInt := ⟨_, rfl⟩
  rw [← e_v2]
  have r_v2 : iLO ≤ v2 ∧ v2 ≤ iHI := by rw [e_v2]; exact i32_rng _
  unfold iLO iHI at r_v2
  have b_v2 : (0 : Int) ≤ v2 ∧ v2 ≤ (400 : Int) := by rw [e_v2]; exact gI_bd hT_es1 (p := 79) (b := 6) rfl rfl
  refine x0 (r := (11, [some (.ref 143), some (.int (zI (-1)))], [.ref 143, .int (zI v2)], es1)) i_192_10 rfl ?_
  refine x_geti (p := 79) i_192_11 hs_es1 rfl rfl ?_
  obtain ⟨v3, e_v3⟩ : ∃ z : Int, z = (gI es1 79 8).toInt := ⟨_, rfl⟩
  rw [← e_v3]
  have r_v3 : iLO ≤ v3 ∧ v3 ≤ iHI := by rw [e_v3]; exact i32_rng _
  unfold iLO iHI at r_v3
  have b_v3 : (0 : Int) ≤ v3 ∧ v3 ≤ (400 : Int) := by rw [e_v3]; exact gI_bd hT_es1 (p := 79) (b := 8) rfl rfl
  by_cases c4 : v2 ≤ v3
  · refine x_cmpT i_192_14 (by unfold i32 iLO iHI; omega) (by unfold i32 iLO iHI; omega) rfl (by simp only [zC, cR]; omega) ?_
    refine x0 (r := (32, [some (.ref 143), some (.int (zI (-1)))], [.ref 143], es1)) i_192_31 rfl ?_
    refine x0 (r := (33, [some (.ref 143), some (.int (zI (-1)))], [.int (zI 0), .ref 143], es1)) i_192_32 (by rfl) ?_
    refine x0 (r := (36, [some (.ref 143), some (.int (zI (-1)))], [.int (zI 999), .int (zI 0), .ref 143], es1)) i_192_33 (by rfl) ?_
    refine x_call (vs := [.ref 143, .int (zI 0), .int (zI 999)]) (rs := []) i_192_36 rfl (fun _ => rfl) rfl rfl rfl rfl rfl (pCall_v (p := 79) hs_es1 rfl rfl rfl rfl rfl (by decide) rfl rfl rfl rfl rfl) ?_
    show aW _ _ _ _ _ _ (0, [some (.ref 143), some (.int (zI 0)), some (.int (zI 999)), none], [], es1)
    refine nm_spec hs_es1 hT_es1 (by omega) (by omega) (fun es5 v6 p_es5 => ?_)
    have hs_es5 : sh es5 := p_es5.1
    have hT_es5 : hOK tT es5 := p_es5.2.1
    have r_v6 := p_es5.2.2.1
    show aW _ _ _ _ _ _ (39, [some (.ref 143), some (.int (zI (-1)))], [.int (zI v6)], es5)
    refine x0 (r := (40, [some (.ref 143), some (.int (zI v6))], [], es5)) i_192_39 rfl ?_
    refine x0 (r := (41, [some (.ref 143), some (.int (zI v6))], [.ref 143], es5)) i_192_40 rfl ?_
    refine x0 (r := (43, [some (.ref 143), some (.int (zI v6))], [.int (zI 6), .ref 143], es5)) i_192_41 (by rfl) ?_
    refine x0 (r := (44, [some (.ref 143), some (.int (zI v6))], [.int (zI v6), .int (zI 6), .ref 143], es5)) i_192_43 rfl ?_
    exact K1 es1 p_es1 v2 e_v2 v3 e_v3 c4 es5 v6 p_es5
  · refine x_cmpF i_192_14 (by unfold i32 iLO iHI; omega) (by unfold i32 iLO iHI; omega) rfl (by simp only [zC, cR]; omega) ?_
    refine x0 (r := (18, [some (.ref 143), some (.int (zI (-1)))], [.ref 143], es1)) i_192_17 rfl ?_
    refine x_call (vs := [.ref 143]) (rs := []) i_192_18 rfl (fun _ => rfl) rfl rfl rfl rfl rfl (pCall_v (p := 79) hs_es1 rfl rfl rfl rfl rfl (by decide) rfl rfl rfl rfl rfl) ?_
    show aW _ _ _ _ _ _ (0, [some (.ref 143)], [], es1)
    refine fa_spec hs_es1 hT_es1 hW (fun es7 v8 p_es7 => ?_)
    have hs_es7 : sh es7 := p_es7.1
    have hT_es7 : hOK tT es7 := p_es7.2.1
    have r_v8 := p_es7.2.2.1
    show aW _ _ _ _ _ _ (21, [some (.ref 143), some (.int (zI (-1)))], [.int (zI v8)], es7)
    refine x0 (r := (22, [some (.ref 143), some (.int (zI v8))], [], es7)) i_192_21 rfl ?_
    refine x0 (r := (23, [some (.ref 143), some (.int (zI v8))], [.ref 143], es7)) i_192_22 rfl ?_
    refine x0 (r := (24, [some (.ref 143), some (.int (zI v8))], [.int (zI v8), .ref 143], es7)) i_192_23 rfl ?_
    refine x0 (r := (25, [some (.ref 143), some (.int (zI v8))], [.int (zI 0), .int (zI v8), .ref 143], es7)) i_192_24 (by rfl) ?_
    exact K2 es1 p_es1 v2 e_v2 v3 e_v3 c4 es7 v8 p_es7

theorem s_rp47 {O : pOut} {d kc ks : Nat} {Q : pRes → Prop} {es : PH} {n : Int} (hs_es : sh es) (hn : -1 ≤ n ∧ n ≤ 999) (hT_es : hOK tT es)
    (K1 : n < 0 → Q (.inl (some (.int (zI 0))), es, kc, ks))
    (K2 : ¬ (n < 0) → Q (.inl (some (.int (zI 1))), es, kc, ks)) :
    aW O d 192 kc ks Q (47, [some (.ref 143), some (.int (zI n))], [], es) := by
  refine x0 (r := (48, [some (.ref 143), some (.int (zI n))], [.int (zI n)], es)) i_192_47 rfl ?_
  by_cases c1 : n < 0
  · refine x_ifT i_192_48 (by unfold i32 iLO iHI; omega) rfl (by simp only [zC, cR]; omega) ?_
    refine x0 (r := (56, [some (.ref 143), some (.int (zI n))], [.int (zI 0)], es)) i_192_55 (by rfl) ?_
    refine x_ret (v := some (.int (zI 0))) i_192_56 rfl (fun _ => rfl) rfl rfl (pFin_b (by omega)) ?_
    exact K1 c1
  · refine x_ifF i_192_48 (by unfold i32 iLO iHI; omega) rfl (by simp only [zC, cR]; omega) ?_
    refine x0 (r := (52, [some (.ref 143), some (.int (zI n))], [.int (zI 1)], es)) i_192_51 (by rfl) ?_
    refine x0 (r := (56, [some (.ref 143), some (.int (zI n))], [.int (zI 1)], es)) i_192_52 rfl ?_
    refine x_ret (v := some (.int (zI 1))) i_192_56 rfl (fun _ => rfl) rfl rfl (pFin_b (by omega)) ?_
    exact K2 c1

theorem s_rs0 {O : pOut} {d kc ks : Nat} {Q : pRes → Prop} {es : PH} (hs_es : sh es) (hT_es : hOK tT es)
    (K1 : aW O d 191 kc ks Q (1, [some (.ref 143)], [.ref 143], es)) :
    aW O d 191 kc ks Q (0, [some (.ref 143)], [], es) := by
  refine x0 (r := (1, [some (.ref 143)], [.ref 143], es)) i_191_0 rfl ?_
  exact K1

theorem s_rs4 {O : pOut} {d kc ks : Nat} {Q : pRes → Prop} {es : PH} {v : Int} (hs_es : sh es) (hv : 0 ≤ v ∧ v ≤ 1) (hT_es : hOK tT es)
    (K1 : v ≠ 0 → aW O d 191 kc ks Q (9, [some (.ref 143)], [], es))
    (K2 : ¬ (v ≠ 0) → Q (.inl (some (.int (zI 0))), es, kc, ks)) :
    aW O d 191 kc ks Q (4, [some (.ref 143)], [.int (zI v)], es) := by
  by_cases c1 : v ≠ 0
  · refine x_ifT i_191_4 (by unfold i32 iLO iHI; omega) rfl (by simp only [zC, cR]; omega) ?_
    exact K1 c1
  · refine x_ifF i_191_4 (by unfold i32 iLO iHI; omega) rfl (by simp only [zC, cR]; omega) ?_
    refine x0 (r := (8, [some (.ref 143)], [.int (zI 0)], es)) i_191_7 (by rfl) ?_
    refine x_ret (v := some (.int (zI 0))) i_191_8 rfl (fun _ => rfl) rfl rfl (pFin_b (by omega)) ?_
    exact K2 c1

theorem s_rs9 {O : pOut} {d kc ks : Nat} {Q : pRes → Prop} {es : PH} (hs_es : sh es) (hW : wordsOK O) (hT_es : hOK tT es)
    (K1 : ∀ es1 : PH, ∀ v2 : Int, sgP 43 es es1 v2 → v2 = 0 → Q (.inl (some (.int (zI 1))), es1, kc, ks))
    (K2 : ∀ es1 : PH, ∀ v2 : Int, sgP 43 es es1 v2 → ¬ (v2 = 0) → aW O (d + 3) 191 kc ks Q (19, [some (.ref 143)], [.ref 143], es1)) :
    aW O (d + 3) 191 kc ks Q (9, [some (.ref 143)], [], es) := by
  refine x0 (r := (10, [some (.ref 143)], [.ref 143], es)) i_191_9 rfl ?_
  refine x0 (r := (12, [some (.ref 143)], [.int (zI 43), .ref 143], es)) i_191_10 (by rfl) ?_
  refine x_call (vs := [.ref 143, .int (zI 43)]) (rs := []) i_191_12 rfl (fun _ => rfl) rfl rfl rfl rfl rfl (pCall_v (p := 79) hs_es rfl rfl rfl rfl rfl (by decide) rfl rfl rfl rfl rfl) ?_
  show aW _ _ _ _ _ _ (0, [some (.ref 143), some (.int (zI 43))], [], es)
  refine sg_spec hs_es hT_es (by omega) (fun es1 v2 p_es1 => ?_)
  have hs_es1 : sh es1 := p_es1.1
  have hT_es1 : hOK tT es1 := p_es1.2.1
  have r_v2 := p_es1.2.2.1
  show aW _ _ _ _ _ _ (15, [some (.ref 143)], [.int (zI v2)], es1)
  by_cases c3 : v2 = 0
  · refine x_ifT i_191_15 (by unfold i32 iLO iHI; omega) rfl (by simp only [zC, cR]; omega) ?_
    refine x0 (r := (38, [some (.ref 143)], [.int (zI 1)], es1)) i_191_37 (by rfl) ?_
    refine x_ret (v := some (.int (zI 1))) i_191_38 rfl (fun _ => rfl) rfl rfl (pFin_b (by omega)) ?_
    exact K1 es1 v2 p_es1 c3
  · refine x_ifF i_191_15 (by unfold i32 iLO iHI; omega) rfl (by simp only [zC, cR]; omega) ?_
    refine x0 (r := (19, [some (.ref 143)], [.ref 143], es1)) i_191_18 rfl ?_
    exact K2 es1 v2 p_es1 c3

theorem s_rs22 {O : pOut} {d kc ks : Nat} {Q : pRes → Prop} {es : PH} {v : Int} (hs_es : sh es) (hv : 0 ≤ v ∧ v ≤ 1) (hT_es : hOK tT es)
    (K1 : v ≠ 0 → aW O d 191 kc ks Q (31, [some (.ref 143)], [.int (zI 0), .int (zI 7), .ref 143], es))
    (K2 : ¬ (v ≠ 0) → Q (.inl (some (.int (zI 0))), es, kc, ks)) :
    aW O d 191 kc ks Q (22, [some (.ref 143)], [.int (zI v)], es) := by
  by_cases c1 : v ≠ 0
  · refine x_ifT i_191_22 (by unfold i32 iLO iHI; omega) rfl (by simp only [zC, cR]; omega) ?_
    refine x0 (r := (28, [some (.ref 143)], [.ref 143], es)) i_191_27 rfl ?_
    refine x0 (r := (30, [some (.ref 143)], [.int (zI 7), .ref 143], es)) i_191_28 (by rfl) ?_
    refine x0 (r := (31, [some (.ref 143)], [.int (zI 0), .int (zI 7), .ref 143], es)) i_191_30 (by rfl) ?_
    exact K1 c1
  · refine x_ifF i_191_22 (by unfold i32 iLO iHI; omega) rfl (by simp only [zC, cR]; omega) ?_
    refine x0 (r := (26, [some (.ref 143)], [.int (zI 0)], es)) i_191_25 (by rfl) ?_
    refine x_ret (v := some (.int (zI 0))) i_191_26 rfl (fun _ => rfl) rfl rfl (pFin_b (by omega)) ?_
    exact K2 c1

theorem s_rs34 {O : pOut} {d kc ks : Nat} {Q : pRes → Prop} {es : PH} (hs_es : sh es) (hT_es : hOK tT es)
    (K1 : aW O d 191 kc ks Q (9, [some (.ref 143)], [], es)) :
    aW O d 191 kc ks Q (34, [some (.ref 143)], [], es) := by
  refine x0 (r := (9, [some (.ref 143)], [], es)) i_191_34 rfl ?_
  exact K1

theorem s_rl0 {O : pOut} {d kc ks : Nat} {Q : pRes → Prop} {es : PH} (hs_es : sh es) (hT_es : hOK tT es)
    (K1 : aW O d 188 kc ks Q (1, [some (.ref 143)], [.ref 143], es)) :
    aW O d 188 kc ks Q (0, [some (.ref 143)], [], es) := by
  refine x0 (r := (1, [some (.ref 143)], [.ref 143], es)) i_188_0 rfl ?_
  exact K1

theorem s_rl4 {O : pOut} {d kc ks : Nat} {Q : pRes → Prop} {es : PH} {v : Int} (hs_es : sh es) (hv : 0 ≤ v ∧ v ≤ 1) (hT_es : hOK tT es)
    (K1 : v ≠ 0 → aW O d 188 kc ks Q (9, [some (.ref 143)], [], es))
    (K2 : ¬ (v ≠ 0) → Q (.inl (some (.int (zI 0))), es, kc, ks)) :
    aW O d 188 kc ks Q (4, [some (.ref 143)], [.int (zI v)], es) := by
  by_cases c1 : v ≠ 0
  · refine x_ifT i_188_4 (by unfold i32 iLO iHI; omega) rfl (by simp only [zC, cR]; omega) ?_
    exact K1 c1
  · refine x_ifF i_188_4 (by unfold i32 iLO iHI; omega) rfl (by simp only [zC, cR]; omega) ?_
    refine x0 (r := (8, [some (.ref 143)], [.int (zI 0)], es)) i_188_7 (by rfl) ?_
    refine x_ret (v := some (.int (zI 0))) i_188_8 rfl (fun _ => rfl) rfl rfl (pFin_b (by omega)) ?_
    exact K2 c1

theorem s_rl9 {O : pOut} {d kc ks : Nat} {Q : pRes → Prop} {es : PH} (hs_es : sh es) (hW : wordsOK O) (hT_es : hOK tT es)
    (K1 : ∀ es1 : PH, ∀ v2 : Int, psP  es es1 v2 → v2 = 0 → Q (.inl (some (.int (zI 1))), es1, kc, ks))
    (K2 : ∀ es1 : PH, ∀ v2 : Int, psP  es es1 v2 → ¬ (v2 = 0) → aW O (d + 4) 188 kc ks Q (19, [some (.ref 143)], [.ref 143], es1)) :
    aW O (d + 4) 188 kc ks Q (9, [some (.ref 143)], [], es) := by
  refine x0 (r := (10, [some (.ref 143)], [.ref 143], es)) i_188_9 rfl ?_
  refine x1 (r := (12, [some (.ref 143)], [.ref 48, .ref 143], es)) i_188_10 rfl (fun _ => rfl) rfl ?_
  refine x_call (vs := [.ref 143, .ref 48]) (rs := []) i_188_12 rfl (fun _ => rfl) rfl rfl rfl rfl rfl (pCall_v (p := 79) hs_es rfl rfl rfl rfl rfl (by decide) rfl rfl rfl rfl rfl) ?_
  show aW _ _ _ _ _ _ (0, [some (.ref 143), some (.ref 48)], [], es)
  refine ps_spec hs_es hT_es hW (by decide) (fun es1 v2 p_es1 => ?_)
  have hs_es1 : sh es1 := p_es1.1
  have hT_es1 : hOK tT es1 := p_es1.2.1
  have r_v2 := p_es1.2.2.1
  show aW _ _ _ _ _ _ (15, [some (.ref 143)], [.int (zI v2)], es1)
  by_cases c3 : v2 = 0
  · refine x_ifT i_188_15 (by unfold i32 iLO iHI; omega) rfl (by simp only [zC, cR]; omega) ?_
    refine x0 (r := (38, [some (.ref 143)], [.int (zI 1)], es1)) i_188_37 (by rfl) ?_
    refine x_ret (v := some (.int (zI 1))) i_188_38 rfl (fun _ => rfl) rfl rfl (pFin_b (by omega)) ?_
    exact K1 es1 v2 p_es1 c3
  · refine x_ifF i_188_15 (by unfold i32 iLO iHI; omega) rfl (by simp only [zC, cR]; omega) ?_
    refine x0 (r := (19, [some (.ref 143)], [.ref 143], es1)) i_188_18 rfl ?_
    exact K2 es1 v2 p_es1 c3

theorem s_rl22 {O : pOut} {d kc ks : Nat} {Q : pRes → Prop} {es : PH} {v : Int} (hs_es : sh es) (hv : 0 ≤ v ∧ v ≤ 1) (hT_es : hOK tT es)
    (K1 : v ≠ 0 → aW O d 188 kc ks Q (31, [some (.ref 143)], [.int (zI 0), .int (zI 11), .ref 143], es))
    (K2 : ¬ (v ≠ 0) → Q (.inl (some (.int (zI 0))), es, kc, ks)) :
    aW O d 188 kc ks Q (22, [some (.ref 143)], [.int (zI v)], es) := by
  by_cases c1 : v ≠ 0
  · refine x_ifT i_188_22 (by unfold i32 iLO iHI; omega) rfl (by simp only [zC, cR]; omega) ?_
    refine x0 (r := (28, [some (.ref 143)], [.ref 143], es)) i_188_27 rfl ?_
    refine x0 (r := (30, [some (.ref 143)], [.int (zI 11), .ref 143], es)) i_188_28 (by rfl) ?_
    refine x0 (r := (31, [some (.ref 143)], [.int (zI 0), .int (zI 11), .ref 143], es)) i_188_30 (by rfl) ?_
    exact K1 c1
  · refine x_ifF i_188_22 (by unfold i32 iLO iHI; omega) rfl (by simp only [zC, cR]; omega) ?_
    refine x0 (r := (26, [some (.ref 143)], [.int (zI 0)], es)) i_188_25 (by rfl) ?_
    refine x_ret (v := some (.int (zI 0))) i_188_26 rfl (fun _ => rfl) rfl rfl (pFin_b (by omega)) ?_
    exact K2 c1

theorem s_rl34 {O : pOut} {d kc ks : Nat} {Q : pRes → Prop} {es : PH} (hs_es : sh es) (hT_es : hOK tT es)
    (K1 : aW O d 188 kc ks Q (9, [some (.ref 143)], [], es)) :
    aW O d 188 kc ks Q (34, [some (.ref 143)], [], es) := by
  refine x0 (r := (9, [some (.ref 143)], [], es)) i_188_34 rfl ?_
  exact K1

theorem s_rc0 {O : pOut} {d kc ks : Nat} {Q : pRes → Prop} {es : PH} (hs_es : sh es) (hT_es : hOK tT es)
    (K1 : aW O d 187 kc ks Q (1, [some (.ref 143)], [.ref 143], es)) :
    aW O d 187 kc ks Q (0, [some (.ref 143)], [], es) := by
  refine x0 (r := (1, [some (.ref 143)], [.ref 143], es)) i_187_0 rfl ?_
  exact K1

theorem s_rc4 {O : pOut} {d kc ks : Nat} {Q : pRes → Prop} {es : PH} {v : Int} (hs_es : sh es) (hv : 0 ≤ v ∧ v ≤ 1) (hT_es : hOK tT es)
    (K1 : v ≠ 0 → aW O d 187 kc ks Q (9, [some (.ref 143)], [], es))
    (K2 : ¬ (v ≠ 0) → Q (.inl (some (.int (zI 0))), es, kc, ks)) :
    aW O d 187 kc ks Q (4, [some (.ref 143)], [.int (zI v)], es) := by
  by_cases c1 : v ≠ 0
  · refine x_ifT i_187_4 (by unfold i32 iLO iHI; omega) rfl (by simp only [zC, cR]; omega) ?_
    exact K1 c1
  · refine x_ifF i_187_4 (by unfold i32 iLO iHI; omega) rfl (by simp only [zC, cR]; omega) ?_
    refine x0 (r := (8, [some (.ref 143)], [.int (zI 0)], es)) i_187_7 (by rfl) ?_
    refine x_ret (v := some (.int (zI 0))) i_187_8 rfl (fun _ => rfl) rfl rfl (pFin_b (by omega)) ?_
    exact K2 c1

theorem s_rc9 {O : pOut} {d kc ks : Nat} {Q : pRes → Prop} {es : PH} (hs_es : sh es) (hW : wordsOK O) (hT_es : hOK tT es)
    (K1 : ∀ es1 : PH, ∀ v2 : Int, psP  es es1 v2 → v2 = 0 → Q (.inl (some (.int (zI 1))), es1, kc, ks))
    (K2 : ∀ es1 : PH, ∀ v2 : Int, psP  es es1 v2 → ¬ (v2 = 0) → aW O (d + 4) 187 kc ks Q (19, [some (.ref 143)], [.ref 143], es1)) :
    aW O (d + 4) 187 kc ks Q (9, [some (.ref 143)], [], es) := by
  refine x0 (r := (10, [some (.ref 143)], [.ref 143], es)) i_187_9 rfl ?_
  refine x1 (r := (12, [some (.ref 143)], [.ref 49, .ref 143], es)) i_187_10 rfl (fun _ => rfl) rfl ?_
  refine x_call (vs := [.ref 143, .ref 49]) (rs := []) i_187_12 rfl (fun _ => rfl) rfl rfl rfl rfl rfl (pCall_v (p := 79) hs_es rfl rfl rfl rfl rfl (by decide) rfl rfl rfl rfl rfl) ?_
  show aW _ _ _ _ _ _ (0, [some (.ref 143), some (.ref 49)], [], es)
  refine ps_spec hs_es hT_es hW (by decide) (fun es1 v2 p_es1 => ?_)
  have hs_es1 : sh es1 := p_es1.1
  have hT_es1 : hOK tT es1 := p_es1.2.1
  have r_v2 := p_es1.2.2.1
  show aW _ _ _ _ _ _ (15, [some (.ref 143)], [.int (zI v2)], es1)
  by_cases c3 : v2 = 0
  · refine x_ifT i_187_15 (by unfold i32 iLO iHI; omega) rfl (by simp only [zC, cR]; omega) ?_
    refine x0 (r := (38, [some (.ref 143)], [.int (zI 1)], es1)) i_187_37 (by rfl) ?_
    refine x_ret (v := some (.int (zI 1))) i_187_38 rfl (fun _ => rfl) rfl rfl (pFin_b (by omega)) ?_
    exact K1 es1 v2 p_es1 c3
  · refine x_ifF i_187_15 (by unfold i32 iLO iHI; omega) rfl (by simp only [zC, cR]; omega) ?_
    refine x0 (r := (19, [some (.ref 143)], [.ref 143], es1)) i_187_18 rfl ?_
    exact K2 es1 v2 p_es1 c3

theorem s_rc22 {O : pOut} {d kc ks : Nat} {Q : pRes → Prop} {es : PH} {v : Int} (hs_es : sh es) (hv : 0 ≤ v ∧ v ≤ 1) (hT_es : hOK tT es)
    (K1 : v ≠ 0 → aW O d 187 kc ks Q (31, [some (.ref 143)], [.int (zI 0), .int (zI 12), .ref 143], es))
    (K2 : ¬ (v ≠ 0) → Q (.inl (some (.int (zI 0))), es, kc, ks)) :
    aW O d 187 kc ks Q (22, [some (.ref 143)], [.int (zI v)], es) := by
  by_cases c1 : v ≠ 0
  · refine x_ifT i_187_22 (by unfold i32 iLO iHI; omega) rfl (by simp only [zC, cR]; omega) ?_
    refine x0 (r := (28, [some (.ref 143)], [.ref 143], es)) i_187_27 rfl ?_
    refine x0 (r := (30, [some (.ref 143)], [.int (zI 12), .ref 143], es)) i_187_28 (by rfl) ?_
    refine x0 (r := (31, [some (.ref 143)], [.int (zI 0), .int (zI 12), .ref 143], es)) i_187_30 (by rfl) ?_
    exact K1 c1
  · refine x_ifF i_187_22 (by unfold i32 iLO iHI; omega) rfl (by simp only [zC, cR]; omega) ?_
    refine x0 (r := (26, [some (.ref 143)], [.int (zI 0)], es)) i_187_25 (by rfl) ?_
    refine x_ret (v := some (.int (zI 0))) i_187_26 rfl (fun _ => rfl) rfl rfl (pFin_b (by omega)) ?_
    exact K2 c1

theorem s_rc34 {O : pOut} {d kc ks : Nat} {Q : pRes → Prop} {es : PH} (hs_es : sh es) (hT_es : hOK tT es)
    (K1 : aW O d 187 kc ks Q (9, [some (.ref 143)], [], es)) :
    aW O d 187 kc ks Q (34, [some (.ref 143)], [], es) := by
  refine x0 (r := (9, [some (.ref 143)], [], es)) i_187_34 rfl ?_
  exact K1

theorem s_ra0 {O : pOut} {d kc ks : Nat} {Q : pRes → Prop} {es : PH} (hs_es : sh es) (hW : wordsOK O) (hT_es : hOK tT es)
    (K1 : ∀ es1 : PH, ∀ v2 : Int, sgP 40 es es1 v2 → v2 = 0 → ∀ es4 : PH, ∀ v5 : Int, psP  es1 es4 v5 → v5 = 0 → ∀ es7 : PH, ∀ v8 : Int, psP  es4 es7 v8 → v8 ≠ 0 → aW O (d + 4) 189 kc ks Q (145, [some (.ref 143), some (.int (zI v8)), none], [.int (zI 0), .int (zI 4), .ref 143], es7))
    (K2 : ∀ es1 : PH, ∀ v2 : Int, sgP 40 es es1 v2 → v2 = 0 → ∀ es4 : PH, ∀ v5 : Int, psP  es1 es4 v5 → v5 = 0 → ∀ es7 : PH, ∀ v8 : Int, psP  es4 es7 v8 → ¬ (v8 ≠ 0) → ∀ es10 : PH, ∀ v11 : Int, psP  es7 es10 v11 → v11 = 0 → aW O (d + 4) 189 kc ks Q (151, [some (.ref 143), some (.int (zI v8)), none], [.ref 143], es10))
    (K3 : ∀ es1 : PH, ∀ v2 : Int, sgP 40 es es1 v2 → v2 = 0 → ∀ es4 : PH, ∀ v5 : Int, psP  es1 es4 v5 → v5 = 0 → ∀ es7 : PH, ∀ v8 : Int, psP  es4 es7 v8 → ¬ (v8 ≠ 0) → ∀ es10 : PH, ∀ v11 : Int, psP  es7 es10 v11 → ¬ (v11 = 0) → aW O (d + 4) 189 kc ks Q (145, [some (.ref 143), some (.int (zI v8)), none], [.int (zI 0), .int (zI 5), .ref 143], es10))
    (K4 : ∀ es1 : PH, ∀ v2 : Int, sgP 40 es es1 v2 → v2 = 0 → ∀ es4 : PH, ∀ v5 : Int, psP  es1 es4 v5 → ¬ (v5 = 0) → ∀ v13 : Int, v13 = (gI es4 79 9).toInt → v13 ≠ 6 → ∀ v15 : Int, v15 = (gI es4 79 9).toInt → ∀ es16 : PH, es16 = sI es4 79 9 (.int (zI (v15 + 1))) → aW O (d + 4) 189 kc ks Q (87, [some (.ref 143), none, none], [.ref 143], es16))
    (K5 : ∀ es1 : PH, ∀ v2 : Int, sgP 40 es es1 v2 → v2 = 0 → ∀ es4 : PH, ∀ v5 : Int, psP  es1 es4 v5 → ¬ (v5 = 0) → ∀ v13 : Int, v13 = (gI es4 79 9).toInt → ¬ (v13 ≠ 6) → Q (.inl (some (.int (zI 0))), es4, kc, ks))
    (K6 : ∀ es1 : PH, ∀ v2 : Int, sgP 40 es es1 v2 → ¬ (v2 = 0) → ∀ v17 : Int, v17 = (gI es1 79 9).toInt → v17 ≠ 6 → ∀ v19 : Int, v19 = (gI es1 79 9).toInt → ∀ es20 : PH, es20 = sI es1 79 9 (.int (zI (v19 + 1))) → aW O (d + 4) 189 kc ks Q (31, [some (.ref 143), none, none], [.ref 143], es20))
    (K7 : ∀ es1 : PH, ∀ v2 : Int, sgP 40 es es1 v2 → ¬ (v2 = 0) → ∀ v17 : Int, v17 = (gI es1 79 9).toInt → ¬ (v17 ≠ 6) → Q (.inl (some (.int (zI 0))), es1, kc, ks)) :
    aW O (d + 4) 189 kc ks Q (0, [some (.ref 143), none, none], [], es) := by
  refine x0 (r := (1, [some (.ref 143), none, none], [.ref 143], es)) i_189_0 rfl ?_
  refine x0 (r := (3, [some (.ref 143), none, none], [.int (zI 40), .ref 143], es)) i_189_1 (by rfl) ?_
  refine x_call (vs := [.ref 143, .int (zI 40)]) (rs := []) i_189_3 rfl (fun _ => rfl) rfl rfl rfl rfl rfl (pCall_v (p := 79) hs_es rfl rfl rfl rfl rfl (by decide) rfl rfl rfl rfl rfl) ?_
  show aW _ _ _ _ _ _ (0, [some (.ref 143), some (.int (zI 40))], [], es)
  refine sg_spec hs_es hT_es (by omega) (fun es1 v2 p_es1 => ?_)
  have hs_es1 : sh es1 := p_es1.1
  have hT_es1 : hOK tT es1 := p_es1.2.1
  have r_v2 := p_es1.2.2.1
  show aW _ _ _ _ _ _ (6, [some (.ref 143), none, none], [.int (zI v2)], es1)
  by_cases c3 : v2 = 0
  · refine x_ifT i_189_6 (by unfold i32 iLO iHI; omega) rfl (by simp only [zC, cR]; omega) ?_
    refine x0 (r := (57, [some (.ref 143), none, none], [.ref 143], es1)) i_189_56 rfl ?_
    refine x1 (r := (59, [some (.ref 143), none, none], [.ref 45, .ref 143], es1)) i_189_57 rfl (fun _ => rfl) rfl ?_
    refine x_call (vs := [.ref 143, .ref 45]) (rs := []) i_189_59 rfl (fun _ => rfl) rfl rfl rfl rfl rfl (pCall_v (p := 79) hs_es1 rfl rfl rfl rfl rfl (by decide) rfl rfl rfl rfl rfl) ?_
    show aW _ _ _ _ _ _ (0, [some (.ref 143), some (.ref 45)], [], es1)
    refine ps_spec hs_es1 hT_es1 hW (by decide) (fun es4 v5 p_es4 => ?_)
    have hs_es4 : sh es4 := p_es4.1
    have hT_es4 : hOK tT es4 := p_es4.2.1
    have r_v5 := p_es4.2.2.1
    show aW _ _ _ _ _ _ (62, [some (.ref 143), none, none], [.int (zI v5)], es4)
    by_cases c6 : v5 = 0
    · refine x_ifT i_189_62 (by unfold i32 iLO iHI; omega) rfl (by simp only [zC, cR]; omega) ?_
      refine x0 (r := (115, [some (.ref 143), none, none], [.ref 143], es4)) i_189_114 rfl ?_
      refine x1 (r := (117, [some (.ref 143), none, none], [.ref 46, .ref 143], es4)) i_189_115 rfl (fun _ => rfl) rfl ?_
      refine x_call (vs := [.ref 143, .ref 46]) (rs := []) i_189_117 rfl (fun _ => rfl) rfl rfl rfl rfl rfl (pCall_v (p := 79) hs_es4 rfl rfl rfl rfl rfl (by decide) rfl rfl rfl rfl rfl) ?_
      show aW _ _ _ _ _ _ (0, [some (.ref 143), some (.ref 46)], [], es4)
      refine ps_spec hs_es4 hT_es4 hW (by decide) (fun es7 v8 p_es7 => ?_)
      have hs_es7 : sh es7 := p_es7.1
      have hT_es7 : hOK tT es7 := p_es7.2.1
      have r_v8 := p_es7.2.2.1
      show aW _ _ _ _ _ _ (120, [some (.ref 143), none, none], [.int (zI v8)], es7)
      refine x0 (r := (121, [some (.ref 143), some (.int (zI v8)), none], [], es7)) i_189_120 rfl ?_
      refine x0 (r := (122, [some (.ref 143), some (.int (zI v8)), none], [.int (zI v8)], es7)) i_189_121 rfl ?_
      by_cases c9 : v8 ≠ 0
      · refine x_ifT i_189_122 (by unfold i32 iLO iHI; omega) rfl (by simp only [zC, cR]; omega) ?_
        refine x0 (r := (135, [some (.ref 143), some (.int (zI v8)), none], [.ref 143], es7)) i_189_134 rfl ?_
        refine x0 (r := (136, [some (.ref 143), some (.int (zI v8)), none], [.int (zI v8), .ref 143], es7)) i_189_135 rfl ?_
        refine x_ifF i_189_136 (by unfold i32 iLO iHI; omega) rfl (by simp only [zC, cR]; omega) ?_
        refine x0 (r := (140, [some (.ref 143), some (.int (zI v8)), none], [.int (zI 4), .ref 143], es7)) i_189_139 (by rfl) ?_
        refine x0 (r := (144, [some (.ref 143), some (.int (zI v8)), none], [.int (zI 4), .ref 143], es7)) i_189_140 rfl ?_
        refine x0 (r := (145, [some (.ref 143), some (.int (zI v8)), none], [.int (zI 0), .int (zI 4), .ref 143], es7)) i_189_144 (by rfl) ?_
        exact K1 es1 v2 p_es1 c3 es4 v5 p_es4 c6 es7 v8 p_es7 c9
      · refine x_ifF i_189_122 (by unfold i32 iLO iHI; omega) rfl (by simp only [zC, cR]; omega) ?_
        refine x0 (r := (126, [some (.ref 143), some (.int (zI v8)), none], [.ref 143], es7)) i_189_125 rfl ?_
        refine x1 (r := (128, [some (.ref 143), some (.int (zI v8)), none], [.ref 47, .ref 143], es7)) i_189_126 rfl (fun _ => rfl) rfl ?_
        refine x_call (vs := [.ref 143, .ref 47]) (rs := []) i_189_128 rfl (fun _ => rfl) rfl rfl rfl rfl rfl (pCall_v (p := 79) hs_es7 rfl rfl rfl rfl rfl (by decide) rfl rfl rfl rfl rfl) ?_
        show aW _ _ _ _ _ _ (0, [some (.ref 143), some (.ref 47)], [], es7)
        refine ps_spec hs_es7 hT_es7 hW (by decide) (fun es10 v11 p_es10 => ?_)
        have hs_es10 : sh es10 := p_es10.1
        have hT_es10 : hOK tT es10 := p_es10.2.1
        have r_v11 := p_es10.2.2.1
        show aW _ _ _ _ _ _ (131, [some (.ref 143), some (.int (zI v8)), none], [.int (zI v11)], es10)
        by_cases c12 : v11 = 0
        · refine x_ifT i_189_131 (by unfold i32 iLO iHI; omega) rfl (by simp only [zC, cR]; omega) ?_
          refine x0 (r := (151, [some (.ref 143), some (.int (zI v8)), none], [.ref 143], es10)) i_189_150 rfl ?_
          exact K2 es1 v2 p_es1 c3 es4 v5 p_es4 c6 es7 v8 p_es7 c9 es10 v11 p_es10 c12
        · refine x_ifF i_189_131 (by unfold i32 iLO iHI; omega) rfl (by simp only [zC, cR]; omega) ?_
          refine x0 (r := (135, [some (.ref 143), some (.int (zI v8)), none], [.ref 143], es10)) i_189_134 rfl ?_
          refine x0 (r := (136, [some (.ref 143), some (.int (zI v8)), none], [.int (zI v8), .ref 143], es10)) i_189_135 rfl ?_
          refine x_ifT i_189_136 (by unfold i32 iLO iHI; omega) rfl (by simp only [zC, cR]; omega) ?_
          refine x0 (r := (144, [some (.ref 143), some (.int (zI v8)), none], [.int (zI 5), .ref 143], es10)) i_189_143 (by rfl) ?_
          refine x0 (r := (145, [some (.ref 143), some (.int (zI v8)), none], [.int (zI 0), .int (zI 5), .ref 143], es10)) i_189_144 (by rfl) ?_
          exact K3 es1 v2 p_es1 c3 es4 v5 p_es4 c6 es7 v8 p_es7 c9 es10 v11 p_es10 c12
    · refine x_ifF i_189_62 (by unfold i32 iLO iHI; omega) rfl (by simp only [zC, cR]; omega) ?_
      refine x0 (r := (66, [some (.ref 143), none, none], [.ref 143], es4)) i_189_65 rfl ?_
      refine x_geti (p := 79) i_189_66 hs_es4 rfl rfl ?_
      obtain ⟨v13, e_v13⟩ : ∃ z : Int, z = (gI es4 79 9).toInt := ⟨_, rfl⟩
      rw [← e_v13]
      have r_v13 : iLO ≤ v13 ∧ v13 ≤ iHI := by rw [e_v13]; exact i32_rng _
      unfold iLO iHI at r_v13
      have b_v13 : (0 : Int) ≤ v13 ∧ v13 ≤ (6 : Int) := by rw [e_v13]; exact gI_bd hT_es4 (p := 79) (b := 9) rfl rfl
      refine x0 (r := (71, [some (.ref 143), none, none], [.int (zI 6), .int (zI v13)], es4)) i_189_69 (by rfl) ?_
      by_cases c14 : v13 ≠ 6
      · refine x_cmpT i_189_71 (by unfold i32 iLO iHI; omega) (by unfold i32 iLO iHI; omega) rfl (by simp only [zC, cR]; omega) ?_
        refine x0 (r := (77, [some (.ref 143), none, none], [.ref 143], es4)) i_189_76 rfl ?_
        refine x0 (r := (78, [some (.ref 143), none, none], [.ref 143, .ref 143], es4)) i_189_77 rfl ?_
        refine x_geti (p := 79) i_189_78 hs_es4 rfl rfl ?_
        obtain ⟨v15, e_v15⟩ : ∃ z : Int, z = (gI es4 79 9).toInt := ⟨_, rfl⟩
        rw [← e_v15]
        have r_v15 : iLO ≤ v15 ∧ v15 ≤ iHI := by rw [e_v15]; exact i32_rng _
        unfold iLO iHI at r_v15
        have b_v15 : (0 : Int) ≤ v15 ∧ v15 ≤ (6 : Int) := by rw [e_v15]; exact gI_bd hT_es4 (p := 79) (b := 9) rfl rfl
        refine x0 (r := (82, [some (.ref 143), none, none], [.int (zI 1), .int (zI v15), .ref 143], es4)) i_189_81 (by rfl) ?_
        refine x_iadd i_189_82 ?_
        refine x_puti (p := 79) (ty := .int) i_189_83 hs_es4 rfl rfl rfl (Or.inl rfl) ?_
        obtain ⟨es16, e_es16⟩ : ∃ z : PH, z = sI es4 79 9 (.int (zI (v15 + 1))) := ⟨_, rfl⟩
        have hs_es16 : sh es16 := by rw [e_es16]; exact sh_sI hs_es4 (p := 79) (b := 9) rfl rfl
        have hT_es16 : hOK tT es16 := by rw [e_es16]; exact hOK_sI hT_es4 (p := 79) (b := 9) rfl rfl (by rw [zI_toInt (by unfold i32 iLO iHI; omega)]; exact ⟨by show (0 : Int) ≤ (v15 + 1); omega, by show (v15 + 1) ≤ (6 : Int); omega⟩)
        rw [← e_es16]
        refine x0 (r := (87, [some (.ref 143), none, none], [.ref 143], es16)) i_189_86 rfl ?_
        exact K4 es1 v2 p_es1 c3 es4 v5 p_es4 c6 v13 e_v13 c14 v15 e_v15 es16 e_es16
      · refine x_cmpF i_189_71 (by unfold i32 iLO iHI; omega) (by unfold i32 iLO iHI; omega) rfl (by simp only [zC, cR]; omega) ?_
        refine x0 (r := (75, [some (.ref 143), none, none], [.int (zI 0)], es4)) i_189_74 (by rfl) ?_
        refine x_ret (v := some (.int (zI 0))) i_189_75 rfl (fun _ => rfl) rfl rfl (pFin_b (by omega)) ?_
        exact K5 es1 v2 p_es1 c3 es4 v5 p_es4 c6 v13 e_v13 c14
  · refine x_ifF i_189_6 (by unfold i32 iLO iHI; omega) rfl (by simp only [zC, cR]; omega) ?_
    refine x0 (r := (10, [some (.ref 143), none, none], [.ref 143], es1)) i_189_9 rfl ?_
    refine x_geti (p := 79) i_189_10 hs_es1 rfl rfl ?_
    obtain ⟨v17, e_v17⟩ : ∃ z : Int, z = (gI es1 79 9).toInt := ⟨_, rfl⟩
    rw [← e_v17]
    have r_v17 : iLO ≤ v17 ∧ v17 ≤ iHI := by rw [e_v17]; exact i32_rng _
    unfold iLO iHI at r_v17
    have b_v17 : (0 : Int) ≤ v17 ∧ v17 ≤ (6 : Int) := by rw [e_v17]; exact gI_bd hT_es1 (p := 79) (b := 9) rfl rfl
    refine x0 (r := (15, [some (.ref 143), none, none], [.int (zI 6), .int (zI v17)], es1)) i_189_13 (by rfl) ?_
    by_cases c18 : v17 ≠ 6
    · refine x_cmpT i_189_15 (by unfold i32 iLO iHI; omega) (by unfold i32 iLO iHI; omega) rfl (by simp only [zC, cR]; omega) ?_
      refine x0 (r := (21, [some (.ref 143), none, none], [.ref 143], es1)) i_189_20 rfl ?_
      refine x0 (r := (22, [some (.ref 143), none, none], [.ref 143, .ref 143], es1)) i_189_21 rfl ?_
      refine x_geti (p := 79) i_189_22 hs_es1 rfl rfl ?_
      obtain ⟨v19, e_v19⟩ : ∃ z : Int, z = (gI es1 79 9).toInt := ⟨_, rfl⟩
      rw [← e_v19]
      have r_v19 : iLO ≤ v19 ∧ v19 ≤ iHI := by rw [e_v19]; exact i32_rng _
      unfold iLO iHI at r_v19
      have b_v19 : (0 : Int) ≤ v19 ∧ v19 ≤ (6 : Int) := by rw [e_v19]; exact gI_bd hT_es1 (p := 79) (b := 9) rfl rfl
      refine x0 (r := (26, [some (.ref 143), none, none], [.int (zI 1), .int (zI v19), .ref 143], es1)) i_189_25 (by rfl) ?_
      refine x_iadd i_189_26 ?_
      refine x_puti (p := 79) (ty := .int) i_189_27 hs_es1 rfl rfl rfl (Or.inl rfl) ?_
      obtain ⟨es20, e_es20⟩ : ∃ z : PH, z = sI es1 79 9 (.int (zI (v19 + 1))) := ⟨_, rfl⟩
      have hs_es20 : sh es20 := by rw [e_es20]; exact sh_sI hs_es1 (p := 79) (b := 9) rfl rfl
      have hT_es20 : hOK tT es20 := by rw [e_es20]; exact hOK_sI hT_es1 (p := 79) (b := 9) rfl rfl (by rw [zI_toInt (by unfold i32 iLO iHI; omega)]; exact ⟨by show (0 : Int) ≤ (v19 + 1); omega, by show (v19 + 1) ≤ (6 : Int); omega⟩)
      rw [← e_es20]
      refine x0 (r := (31, [some (.ref 143), none, none], [.ref 143], es20)) i_189_30 rfl ?_
      exact K6 es1 v2 p_es1 c3 v17 e_v17 c18 v19 e_v19 es20 e_es20
    · refine x_cmpF i_189_15 (by unfold i32 iLO iHI; omega) (by unfold i32 iLO iHI; omega) rfl (by simp only [zC, cR]; omega) ?_
      refine x0 (r := (19, [some (.ref 143), none, none], [.int (zI 0)], es1)) i_189_18 (by rfl) ?_
      refine x_ret (v := some (.int (zI 0))) i_189_19 rfl (fun _ => rfl) rfl rfl (pFin_b (by omega)) ?_
      exact K7 es1 v2 p_es1 c3 v17 e_v17 c18

theorem s_ra34 {O : pOut} {d kc ks : Nat} {Q : pRes → Prop} {es : PH} {v : Int} (hs_es : sh es) (hv : 0 ≤ v ∧ v ≤ 1) (hd : 1 ≤ (gI es 79 9).toInt) (hT_es : hOK tT es)
    (K1 : v ≠ 0 → ∀ v2 : Int, v2 = (gI es 79 9).toInt → ∀ es3 : PH, es3 = sI es 79 9 (.int (zI (v2 - 1))) → ∀ es4 : PH, ∀ v5 : Int, sgP 41 es3 es4 v5 → Q (.inl (some (.int (zI v5))), es4, kc, ks))
    (K2 : ¬ (v ≠ 0) → Q (.inl (some (.int (zI 0))), es, kc, ks)) :
    aW O (d + 3) 189 kc ks Q (34, [some (.ref 143), none, none], [.int (zI v)], es) := by
  by_cases c1 : v ≠ 0
  · refine x_ifT i_189_34 (by unfold i32 iLO iHI; omega) rfl (by simp only [zC, cR]; omega) ?_
    refine x0 (r := (40, [some (.ref 143), none, none], [.ref 143], es)) i_189_39 rfl ?_
    refine x0 (r := (41, [some (.ref 143), none, none], [.ref 143, .ref 143], es)) i_189_40 rfl ?_
    refine x_geti (p := 79) i_189_41 hs_es rfl rfl ?_
    obtain ⟨v2, e_v2⟩ : ∃ z : Int, z = (gI es 79 9).toInt := ⟨_, rfl⟩
    rw [← e_v2]
    have r_v2 : iLO ≤ v2 ∧ v2 ≤ iHI := by rw [e_v2]; exact i32_rng _
    unfold iLO iHI at r_v2
    have b_v2 : (0 : Int) ≤ v2 ∧ v2 ≤ (6 : Int) := by rw [e_v2]; exact gI_bd hT_es (p := 79) (b := 9) rfl rfl
    refine x0 (r := (45, [some (.ref 143), none, none], [.int (zI 1), .int (zI v2), .ref 143], es)) i_189_44 (by rfl) ?_
    refine x_isub i_189_45 ?_
    refine x_puti (p := 79) (ty := .int) i_189_46 hs_es rfl rfl rfl (Or.inl rfl) ?_
    obtain ⟨es3, e_es3⟩ : ∃ z : PH, z = sI es 79 9 (.int (zI (v2 - 1))) := ⟨_, rfl⟩
    have hs_es3 : sh es3 := by rw [e_es3]; exact sh_sI hs_es (p := 79) (b := 9) rfl rfl
    have hT_es3 : hOK tT es3 := by rw [e_es3]; exact hOK_sI hT_es (p := 79) (b := 9) rfl rfl (by rw [zI_toInt (by unfold i32 iLO iHI; omega)]; exact ⟨by show (0 : Int) ≤ (v2 - 1); omega, by show (v2 - 1) ≤ (6 : Int); omega⟩)
    rw [← e_es3]
    refine x0 (r := (50, [some (.ref 143), none, none], [.ref 143], es3)) i_189_49 rfl ?_
    refine x0 (r := (52, [some (.ref 143), none, none], [.int (zI 41), .ref 143], es3)) i_189_50 (by rfl) ?_
    refine x_call (vs := [.ref 143, .int (zI 41)]) (rs := []) i_189_52 rfl (fun _ => rfl) rfl rfl rfl rfl rfl (pCall_v (p := 79) hs_es3 rfl rfl rfl rfl rfl (by decide) rfl rfl rfl rfl rfl) ?_
    show aW _ _ _ _ _ _ (0, [some (.ref 143), some (.int (zI 41))], [], es3)
    refine sg_spec hs_es3 hT_es3 (by omega) (fun es4 v5 p_es4 => ?_)
    have hs_es4 : sh es4 := p_es4.1
    have hT_es4 : hOK tT es4 := p_es4.2.1
    have r_v5 := p_es4.2.2.1
    show aW _ _ _ _ _ _ (55, [some (.ref 143), none, none], [.int (zI v5)], es4)
    refine x_ret (v := some (.int (zI v5))) i_189_55 rfl (fun _ => rfl) rfl rfl (pFin_b (by omega)) ?_
    exact K1 c1 v2 e_v2 es3 e_es3 es4 v5 p_es4
  · refine x_ifF i_189_34 (by unfold i32 iLO iHI; omega) rfl (by simp only [zC, cR]; omega) ?_
    refine x0 (r := (38, [some (.ref 143), none, none], [.int (zI 0)], es)) i_189_37 (by rfl) ?_
    refine x_ret (v := some (.int (zI 0))) i_189_38 rfl (fun _ => rfl) rfl rfl (pFin_b (by omega)) ?_
    exact K2 c1

theorem s_ra90 {O : pOut} {d kc ks : Nat} {Q : pRes → Prop} {es : PH} {v : Int} (hs_es : sh es) (hv : 0 ≤ v ∧ v ≤ 1) (hd : 1 ≤ (gI es 79 9).toInt) (hT_es : hOK tT es)
    (K1 : v ≠ 0 → ∀ v2 : Int, v2 = (gI es 79 9).toInt → ∀ es3 : PH, es3 = sI es 79 9 (.int (zI (v2 - 1))) → aW O d 189 kc ks Q (109, [some (.ref 143), none, none], [.int (zI 0), .int (zI 10), .ref 143], es3))
    (K2 : ¬ (v ≠ 0) → Q (.inl (some (.int (zI 0))), es, kc, ks)) :
    aW O d 189 kc ks Q (90, [some (.ref 143), none, none], [.int (zI v)], es) := by
  by_cases c1 : v ≠ 0
  · refine x_ifT i_189_90 (by unfold i32 iLO iHI; omega) rfl (by simp only [zC, cR]; omega) ?_
    refine x0 (r := (96, [some (.ref 143), none, none], [.ref 143], es)) i_189_95 rfl ?_
    refine x0 (r := (97, [some (.ref 143), none, none], [.ref 143, .ref 143], es)) i_189_96 rfl ?_
    refine x_geti (p := 79) i_189_97 hs_es rfl rfl ?_
    obtain ⟨v2, e_v2⟩ : ∃ z : Int, z = (gI es 79 9).toInt := ⟨_, rfl⟩
    rw [← e_v2]
    have r_v2 : iLO ≤ v2 ∧ v2 ≤ iHI := by rw [e_v2]; exact i32_rng _
    unfold iLO iHI at r_v2
    have b_v2 : (0 : Int) ≤ v2 ∧ v2 ≤ (6 : Int) := by rw [e_v2]; exact gI_bd hT_es (p := 79) (b := 9) rfl rfl
    refine x0 (r := (101, [some (.ref 143), none, none], [.int (zI 1), .int (zI v2), .ref 143], es)) i_189_100 (by rfl) ?_
    refine x_isub i_189_101 ?_
    refine x_puti (p := 79) (ty := .int) i_189_102 hs_es rfl rfl rfl (Or.inl rfl) ?_
    obtain ⟨es3, e_es3⟩ : ∃ z : PH, z = sI es 79 9 (.int (zI (v2 - 1))) := ⟨_, rfl⟩
    have hs_es3 : sh es3 := by rw [e_es3]; exact sh_sI hs_es (p := 79) (b := 9) rfl rfl
    have hT_es3 : hOK tT es3 := by rw [e_es3]; exact hOK_sI hT_es (p := 79) (b := 9) rfl rfl (by rw [zI_toInt (by unfold i32 iLO iHI; omega)]; exact ⟨by show (0 : Int) ≤ (v2 - 1); omega, by show (v2 - 1) ≤ (6 : Int); omega⟩)
    rw [← e_es3]
    refine x0 (r := (106, [some (.ref 143), none, none], [.ref 143], es3)) i_189_105 rfl ?_
    refine x0 (r := (108, [some (.ref 143), none, none], [.int (zI 10), .ref 143], es3)) i_189_106 (by rfl) ?_
    refine x0 (r := (109, [some (.ref 143), none, none], [.int (zI 0), .int (zI 10), .ref 143], es3)) i_189_108 (by rfl) ?_
    exact K1 c1 v2 e_v2 es3 e_es3
  · refine x_ifF i_189_90 (by unfold i32 iLO iHI; omega) rfl (by simp only [zC, cR]; omega) ?_
    refine x0 (r := (94, [some (.ref 143), none, none], [.int (zI 0)], es)) i_189_93 (by rfl) ?_
    refine x_ret (v := some (.int (zI 0))) i_189_94 rfl (fun _ => rfl) rfl rfl (pFin_b (by omega)) ?_
    exact K2 c1

theorem s_ra112 {O : pOut} {d kc ks : Nat} {Q : pRes → Prop} {es : PH} {x1 x2 : Option Value} (hs_es : sh es) (hT_es : hOK tT es)
    (K1 : Q (.inl (some (.int (zI 1))), es, kc, ks)) :
    aW O d 189 kc ks Q (112, [some (.ref 143), x1, x2], [], es) := by
  refine x0 (r := (113, [some (.ref 143), x1, x2], [.int (zI 1)], es)) i_189_112 (by rfl) ?_
  refine x_ret (v := some (.int (zI 1))) i_189_113 rfl (fun _ => rfl) rfl rfl (pFin_b (by omega)) ?_
  exact K1

theorem s_ra148 {O : pOut} {d kc ks : Nat} {Q : pRes → Prop} {es : PH} {x1 x2 : Option Value} (hs_es : sh es) (hT_es : hOK tT es)
    (K1 : Q (.inl (some (.int (zI 1))), es, kc, ks)) :
    aW O d 189 kc ks Q (148, [some (.ref 143), x1, x2], [], es) := by
  refine x0 (r := (149, [some (.ref 143), x1, x2], [.int (zI 1)], es)) i_189_148 (by rfl) ?_
  refine x_ret (v := some (.int (zI 1))) i_189_149 rfl (fun _ => rfl) rfl rfl (pFin_b (by omega)) ?_
  exact K1

theorem s_ra154 {O : pOut} {d kc ks : Nat} {Q : pRes → Prop} {es : PH} {t v : Int} (hs_es : sh es) (hv : 0 ≤ v ∧ v ≤ 1) (hT_es : hOK tT es)
    (K1 : v ≠ 0 → ∀ es2 : PH, ∀ v3 : Int, sgP 60 es es2 v3 → v3 ≠ 0 → aW O (d + 3) 189 kc ks Q (180, [some (.ref 143), some (.int (zI t)), some (.int (zI v3))], [.ref 143], es2))
    (K2 : v ≠ 0 → ∀ es2 : PH, ∀ v3 : Int, sgP 60 es es2 v3 → ¬ (v3 ≠ 0) → ∀ es5 : PH, ∀ v6 : Int, sgP 62 es2 es5 v6 → v6 = 0 → Q (.inl (some (.int (zI 0))), es5, kc, ks))
    (K3 : v ≠ 0 → ∀ es2 : PH, ∀ v3 : Int, sgP 60 es es2 v3 → ¬ (v3 ≠ 0) → ∀ es5 : PH, ∀ v6 : Int, sgP 62 es2 es5 v6 → ¬ (v6 = 0) → aW O (d + 3) 189 kc ks Q (180, [some (.ref 143), some (.int (zI t)), some (.int (zI v3))], [.ref 143], es5))
    (K4 : ¬ (v ≠ 0) → Q (.inl (some (.int (zI 0))), es, kc, ks)) :
    aW O (d + 3) 189 kc ks Q (154, [some (.ref 143), some (.int (zI t)), none], [.int (zI v)], es) := by
  by_cases c1 : v ≠ 0
  · refine x_ifT i_189_154 (by unfold i32 iLO iHI; omega) rfl (by simp only [zC, cR]; omega) ?_
    refine x0 (r := (160, [some (.ref 143), some (.int (zI t)), none], [.ref 143], es)) i_189_159 rfl ?_
    refine x0 (r := (162, [some (.ref 143), some (.int (zI t)), none], [.int (zI 60), .ref 143], es)) i_189_160 (by rfl) ?_
    refine x_call (vs := [.ref 143, .int (zI 60)]) (rs := []) i_189_162 rfl (fun _ => rfl) rfl rfl rfl rfl rfl (pCall_v (p := 79) hs_es rfl rfl rfl rfl rfl (by decide) rfl rfl rfl rfl rfl) ?_
    show aW _ _ _ _ _ _ (0, [some (.ref 143), some (.int (zI 60))], [], es)
    refine sg_spec hs_es hT_es (by omega) (fun es2 v3 p_es2 => ?_)
    have hs_es2 : sh es2 := p_es2.1
    have hT_es2 : hOK tT es2 := p_es2.2.1
    have r_v3 := p_es2.2.2.1
    show aW _ _ _ _ _ _ (165, [some (.ref 143), some (.int (zI t)), none], [.int (zI v3)], es2)
    refine x0 (r := (166, [some (.ref 143), some (.int (zI t)), some (.int (zI v3))], [], es2)) i_189_165 rfl ?_
    refine x0 (r := (167, [some (.ref 143), some (.int (zI t)), some (.int (zI v3))], [.int (zI v3)], es2)) i_189_166 rfl ?_
    by_cases c4 : v3 ≠ 0
    · refine x_ifT i_189_167 (by unfold i32 iLO iHI; omega) rfl (by simp only [zC, cR]; omega) ?_
      refine x0 (r := (180, [some (.ref 143), some (.int (zI t)), some (.int (zI v3))], [.ref 143], es2)) i_189_179 rfl ?_
      exact K1 c1 es2 v3 p_es2 c4
    · refine x_ifF i_189_167 (by unfold i32 iLO iHI; omega) rfl (by simp only [zC, cR]; omega) ?_
      refine x0 (r := (171, [some (.ref 143), some (.int (zI t)), some (.int (zI v3))], [.ref 143], es2)) i_189_170 rfl ?_
      refine x0 (r := (173, [some (.ref 143), some (.int (zI t)), some (.int (zI v3))], [.int (zI 62), .ref 143], es2)) i_189_171 (by rfl) ?_
      refine x_call (vs := [.ref 143, .int (zI 62)]) (rs := []) i_189_173 rfl (fun _ => rfl) rfl rfl rfl rfl rfl (pCall_v (p := 79) hs_es2 rfl rfl rfl rfl rfl (by decide) rfl rfl rfl rfl rfl) ?_
      show aW _ _ _ _ _ _ (0, [some (.ref 143), some (.int (zI 62))], [], es2)
      refine sg_spec hs_es2 hT_es2 (by omega) (fun es5 v6 p_es5 => ?_)
      have hs_es5 : sh es5 := p_es5.1
      have hT_es5 : hOK tT es5 := p_es5.2.1
      have r_v6 := p_es5.2.2.1
      show aW _ _ _ _ _ _ (176, [some (.ref 143), some (.int (zI t)), some (.int (zI v3))], [.int (zI v6)], es5)
      by_cases c7 : v6 = 0
      · refine x_ifT i_189_176 (by unfold i32 iLO iHI; omega) rfl (by simp only [zC, cR]; omega) ?_
        refine x0 (r := (187, [some (.ref 143), some (.int (zI t)), some (.int (zI v3))], [.int (zI 0)], es5)) i_189_186 (by rfl) ?_
        refine x_ret (v := some (.int (zI 0))) i_189_187 rfl (fun _ => rfl) rfl rfl (pFin_b (by omega)) ?_
        exact K2 c1 es2 v3 p_es2 c4 es5 v6 p_es5 c7
      · refine x_ifF i_189_176 (by unfold i32 iLO iHI; omega) rfl (by simp only [zC, cR]; omega) ?_
        refine x0 (r := (180, [some (.ref 143), some (.int (zI t)), some (.int (zI v3))], [.ref 143], es5)) i_189_179 rfl ?_
        exact K3 c1 es2 v3 p_es2 c4 es5 v6 p_es5 c7
  · refine x_ifF i_189_154 (by unfold i32 iLO iHI; omega) rfl (by simp only [zC, cR]; omega) ?_
    refine x0 (r := (158, [some (.ref 143), some (.int (zI t)), none], [.int (zI 0)], es)) i_189_157 (by rfl) ?_
    refine x_ret (v := some (.int (zI 0))) i_189_158 rfl (fun _ => rfl) rfl rfl (pFin_b (by omega)) ?_
    exact K4 c1

theorem s_ra183 {O : pOut} {d kc ks : Nat} {Q : pRes → Prop} {es : PH} {t l v : Int} (hs_es : sh es) (hv : 0 ≤ v ∧ v ≤ 1) (hl : 0 ≤ l ∧ l ≤ 1) (hT_es : hOK tT es)
    (K1 : v ≠ 0 → l = 0 → aW O d 189 kc ks Q (201, [some (.ref 143), some (.int (zI t)), some (.int (zI l))], [.int (zI 0), .int (zI 9), .ref 143], es))
    (K2 : v ≠ 0 → ¬ (l = 0) → aW O d 189 kc ks Q (201, [some (.ref 143), some (.int (zI t)), some (.int (zI l))], [.int (zI 0), .int (zI 8), .ref 143], es))
    (K3 : ¬ (v ≠ 0) → Q (.inl (some (.int (zI 0))), es, kc, ks)) :
    aW O d 189 kc ks Q (183, [some (.ref 143), some (.int (zI t)), some (.int (zI l))], [.int (zI v)], es) := by
  by_cases c1 : v ≠ 0
  · refine x_ifT i_189_183 (by unfold i32 iLO iHI; omega) rfl (by simp only [zC, cR]; omega) ?_
    refine x0 (r := (189, [some (.ref 143), some (.int (zI t)), some (.int (zI l))], [.ref 143], es)) i_189_188 rfl ?_
    refine x0 (r := (190, [some (.ref 143), some (.int (zI t)), some (.int (zI l))], [.int (zI l), .ref 143], es)) i_189_189 rfl ?_
    by_cases c2 : l = 0
    · refine x_ifT i_189_190 (by unfold i32 iLO iHI; omega) rfl (by simp only [zC, cR]; omega) ?_
      refine x0 (r := (200, [some (.ref 143), some (.int (zI t)), some (.int (zI l))], [.int (zI 9), .ref 143], es)) i_189_198 (by rfl) ?_
      refine x0 (r := (201, [some (.ref 143), some (.int (zI t)), some (.int (zI l))], [.int (zI 0), .int (zI 9), .ref 143], es)) i_189_200 (by rfl) ?_
      exact K1 c1 c2
    · refine x_ifF i_189_190 (by unfold i32 iLO iHI; omega) rfl (by simp only [zC, cR]; omega) ?_
      refine x0 (r := (195, [some (.ref 143), some (.int (zI t)), some (.int (zI l))], [.int (zI 8), .ref 143], es)) i_189_193 (by rfl) ?_
      refine x0 (r := (200, [some (.ref 143), some (.int (zI t)), some (.int (zI l))], [.int (zI 8), .ref 143], es)) i_189_195 rfl ?_
      refine x0 (r := (201, [some (.ref 143), some (.int (zI t)), some (.int (zI l))], [.int (zI 0), .int (zI 8), .ref 143], es)) i_189_200 (by rfl) ?_
      exact K2 c1 c2
  · refine x_ifF i_189_183 (by unfold i32 iLO iHI; omega) rfl (by simp only [zC, cR]; omega) ?_
    refine x0 (r := (187, [some (.ref 143), some (.int (zI t)), some (.int (zI l))], [.int (zI 0)], es)) i_189_186 (by rfl) ?_
    refine x_ret (v := some (.int (zI 0))) i_189_187 rfl (fun _ => rfl) rfl rfl (pFin_b (by omega)) ?_
    exact K3 c1

theorem s_ra204 {O : pOut} {d kc ks : Nat} {Q : pRes → Prop} {es : PH} {x1 x2 : Option Value} (hs_es : sh es) (hT_es : hOK tT es)
    (K1 : Q (.inl (some (.int (zI 1))), es, kc, ks)) :
    aW O d 189 kc ks Q (204, [some (.ref 143), x1, x2], [], es) := by
  refine x0 (r := (205, [some (.ref 143), x1, x2], [.int (zI 1)], es)) i_189_204 (by rfl) ?_
  refine x_ret (v := some (.int (zI 1))) i_189_205 rfl (fun _ => rfl) rfl rfl (pFin_b (by omega)) ?_
  exact K1
section
variable {O : pOut} {d kc ks : Nat} {Q : pRes → Prop} {es : PH}
theorem rp_spec (hT : hOK tT es) (hW : wordsOK O) (h0 : sT es + 1 ≤ pT es) (K : ∀ es' v, prP es es' v → Q (.inl (some (.int (zI v))), es', kc, ks)) : aW O (d + 4) 192 kc ks Q (0, [some (.ref 143), none], [], es) := by
  have hpb := pT_bd hT
  have tail : ∀ (es2 es3 : PH) (n : Int), -1 ≤ n ∧ n ≤ 999 → hOK tT es3 → (0 ≤ n → okP es es3) → (n < 0 → noP es es3) → aW O (d + 4) 192 kc ks Q (47, [some (.ref 143), some (.int (zI n))], [], es3) := by
    intro es2 es3 n hn hT3 h1 h2
    exact s_rp47 (d := d + 4) (sh_of hT3) hn hT3 (fun c1 => K es3 0 (Or.inr ⟨rfl, h2 c1⟩)) (fun c1 => K es3 1 (Or.inl ⟨rfl, h1 (by omega)⟩))
  have em_no : ∀ a b op n, hOK tT a → mvB es a → sT a ≤ 399 → emP op n a b → noP es b := by
    intro a b op n hTa hm h399 he
    refine ⟨he.1, he.2.1, fr_trans (mvB_pr hm) (by rw [← mvB_sT hT hm]; exact em_pr hTa h399 he), ?_⟩
    have := hm.2
    have := (em_pT hTa he).1
    omega
  refine s_rp0 (d := d) (sh_of hT) hW hT (fun es1 p1 v2 e2 v3 e3 h3 es5 v6 p5 => ?_) (fun es1 p1 v2 e2 v3 e3 h3 es7 v8 p8 => ?_)
  · obtain ⟨q1, q2, q3, q4, q5⟩ := p1
    obtain ⟨r1, r2, r3, r4, r5⟩ := p5
    have hm : mvB es es5 := mvB_trans q3 r4
    have hs5 := mvB_sT hT hm
    refine c_em (d := d + 3) i_192_44 r2 ⟨by omega, by omega⟩ ⟨by omega, by omega⟩ (by omega) (fun es6 h6 => ?_)
    refine tail es5 es6 v6 r3 h6.2.1 (fun hv => ok_one hT hm r2 (by have := r5 hv; have := q3.2; omega) (by omega) h6 ⟨by omega, by omega⟩) (fun _ => em_no es5 es6 _ _ r2 hm (by omega) h6)
  · obtain ⟨q1, q2, q3, q4, q5⟩ := p1
    obtain ⟨r1, r2, r3, r4⟩ := p8
    have hm : mvB es es7 := mvB_trans q3 r4
    have hs7 := mvB_sT hT hm
    have hlt : bT es1 + 1 ≤ pT es1 := by unfold bT pT; omega
    refine c_em (d := d + 3) i_192_25 r2 ⟨by omega, by omega⟩ ⟨by omega, by omega⟩ (by omega) (fun es6 h6 => ?_)
    refine x0 (r := (47, [some (.ref 143), some (.int (zI v8))], [], es6)) i_192_28 rfl ?_
    refine tail es7 es6 v8 ⟨by omega, by omega⟩ h6.2.1 (fun hv => ok_one hT hm r2 (by have := r4.2; omega) (by omega) h6 ⟨by omega, by omega⟩) (fun _ => em_no es7 es6 _ _ r2 hm (by omega) h6)
theorem pr_v {a b : PH} {v : Int} (h : prP a b v) : (0 ≤ v ∧ v ≤ 1) ∧ hOK tT b ∧ (v ≠ 0 → okP a b) ∧ (v = 0 → noP a b) := by
  rcases h with ⟨rfl, h⟩ | ⟨rfl, h⟩
  · exact ⟨⟨by omega, by omega⟩, h.2.1, fun _ => h, fun h0 => by omega⟩
  · exact ⟨⟨by omega, by omega⟩, h.2.1, fun h0 => absurd rfl h0, fun _ => h⟩
theorem c_rp {j pc k : Nat} {L : PL} {ret : Option FieldType} (hi : iRow j pc = some (.invokevirtual 172, k, 192, 1, ret)) (hT : hOK tT es) (hW : wordsOK O) (h0 : sT es + 1 ≤ pT es) (K : ∀ es' v, prP es es' v → aW O (d + 5) j kc ks Q (pc + 3, L, [.int (zI v)], es')) : aW O (d + 5) j kc ks Q (pc, L, [.ref 143], es) := by
  refine x_call (vs := [.ref 143]) (rs := []) hi rfl (fun _ => rfl) rfl rfl rfl rfl rfl (pCall_v (p := 79) (sh_of hT) rfl rfl rfl rfl rfl (by decide) rfl rfl rfl rfl rfl) ?_
  show aW _ _ _ _ _ _ (0, [some (.ref 143), none], [], es)
  exact rp_spec (d := d) hT hW h0 (fun es' v h => K es' v h)
theorem rs_spec (hT : hOK tT es) (hW : wordsOK O) (h0 : sT es + 1 ≤ pT es) (K : ∀ es' v, prP es es' v → Q (.inl (some (.int (zI v))), es', kc, ks)) : aW O (d + 5) 191 kc ks Q (0, [some (.ref 143)], [], es) := by
  have hsb := sT_bd hT
  have loop : ∀ (N : Nat) (es1 : PH), (400 - pT es1).toNat < N → okP es es1 → aW O (d + 5) 191 kc ks Q (9, [some (.ref 143)], [], es1) := by
    intro N
    induction N with
    | zero => intro es1 h; omega
    | succ N ih =>
      intro es1 hN hok
      have hT1 := hok.2.1
      refine s_rs9 (d := d + 2) (sh_of hT1) hW hT1 (fun es2 v2 p2 h2 => ?_) (fun es2 v2 p2 h2 => ?_)
      all_goals obtain ⟨q1, q2, q3, q4, q5⟩ := p2
      · exact K es2 1 (Or.inl ⟨rfl, ok_mv hT hok q2 q4⟩)
      · have hp2 := q5 h2
        have hs2 := mvB_sT hT1 q4
        have hk5 := hok.2.2.2.2.2.2.1
        refine c_rp (d := d) i_191_19 q2 hW (by omega) (fun es3 v3 p3 => ?_)
        obtain ⟨r1, r2, r3, r4⟩ := pr_v p3
        refine s_rs22 (d := d + 5) (sh_of r2) r1 r2 (fun hv => ?_) (fun hv => K es3 0 (Or.inr ⟨rfl, no_seq hT hok q4 (r4 (by omega))⟩))
        have hok3 := r3 hv
        have hk7 := hok3.2.2.2.2.2.2.1
        have hpb := pT_bd r2
        have h399 : sT es3 ≤ 399 := by omega
        refine c_em (d := d + 4) i_191_31 r2 ⟨by omega, by omega⟩ ⟨by omega, by omega⟩ h399 (fun es4 h4 => ?_)
        refine s_rs34 (d := d + 5) (sh_of h4.2.1) h4.2.1 ?_
        have hp4 := (em_pT r2 h4).1
        have hp3 := hok3.2.2.2.1
        have hpb4 := pT_bd h4.2.1
        exact ih es4 (by omega) (ok_bin hT hok q4 q2 hp2 hok3 h4 h399 ⟨by omega, by omega⟩)
  refine s_rs0 (d := d + 5) (sh_of hT) hT ?_
  refine c_rp (d := d) i_191_1 hT hW h0 (fun es1 v p1 => ?_)
  obtain ⟨r1, r2, r3, r4⟩ := pr_v p1
  exact s_rs4 (d := d + 5) (sh_of r2) r1 r2 (fun hv => loop _ es1 (Nat.lt_succ_self _) (r3 hv)) (fun hv => K es1 0 (Or.inr ⟨rfl, r4 (by omega)⟩))
theorem c_rs {j pc k : Nat} {L : PL} {ret : Option FieldType} (hi : iRow j pc = some (.invokevirtual 198, k, 191, 1, ret)) (hT : hOK tT es) (hW : wordsOK O) (h0 : sT es + 1 ≤ pT es) (K : ∀ es' v, prP es es' v → aW O (d + 6) j kc ks Q (pc + 3, L, [.int (zI v)], es')) : aW O (d + 6) j kc ks Q (pc, L, [.ref 143], es) := by
  refine x_call (vs := [.ref 143]) (rs := []) hi rfl (fun _ => rfl) rfl rfl rfl rfl rfl (pCall_v (p := 79) (sh_of hT) rfl rfl rfl rfl rfl (by decide) rfl rfl rfl rfl rfl) ?_
  show aW _ _ _ _ _ _ (0, [some (.ref 143)], [], es)
  exact rs_spec (d := d) hT hW h0 (fun es' v h => K es' v h)
theorem rl_spec (hsub : ∀ (kc ks : Nat) (Q : pRes → Prop) (es1 : PH), hOK tT es1 → sT es1 + 1 ≤ pT es1 → dT es1 = dT es → (∀ es' v, prP es1 es' v → Q (.inl (some (.int (zI v))), es', kc, ks)) → aW O (d + 4) 189 kc ks Q (0, [some (.ref 143), none, none], [], es1)) (hT : hOK tT es) (hW : wordsOK O) (h0 : sT es + 1 ≤ pT es) (K : ∀ es' v, prP es es' v → Q (.inl (some (.int (zI v))), es', kc, ks)) : aW O (d + 5) 188 kc ks Q (0, [some (.ref 143)], [], es) := by
  have hsb := sT_bd hT
  have call : ∀ (pc k : Nat) (es1 : PH) (L : PL), iRow 188 pc = some (.invokevirtual 191, k, 189, 1, some .boolean) → hOK tT es1 → sT es1 + 1 ≤ pT es1 → dT es1 = dT es → (∀ es' v, prP es1 es' v → aW O (d + 5) 188 kc ks Q (pc + 3, L, [.int (zI v)], es')) → aW O (d + 5) 188 kc ks Q (pc, L, [.ref 143], es1) := by
    intro pc k es1 L hi hT1 h1 hd1 K1
    refine x_call (vs := [.ref 143]) (rs := []) hi rfl (fun _ => rfl) rfl rfl rfl rfl rfl (pCall_v (p := 79) (sh_of hT1) rfl rfl rfl rfl rfl (by decide) rfl rfl rfl rfl rfl) ?_
    show aW _ _ _ _ _ _ (0, [some (.ref 143), none, none], [], es1)
    exact hsub _ _ _ es1 hT1 h1 hd1 (fun es' v h => K1 es' v h)
  have loop : ∀ (N : Nat) (es1 : PH), (400 - pT es1).toNat < N → okP es es1 → aW O (d + 5) 188 kc ks Q (9, [some (.ref 143)], [], es1) := by
    intro N
    induction N with
    | zero => intro es1 h; omega
    | succ N ih =>
      intro es1 hN hok
      have hT1 := hok.2.1
      have hde := hok.2.2.2.2.1
      refine s_rl9 (d := d + 1) (sh_of hT1) hW hT1 (fun es2 v2 p2 h2 => ?_) (fun es2 v2 p2 h2 => ?_)
      all_goals obtain ⟨q1, q2, q3, q4, q5⟩ := p2
      · exact K es2 1 (Or.inl ⟨rfl, ok_mv hT hok q2 q4⟩)
      · have hp2 := q5 h2
        have hs2 := mvB_sT hT1 q4
        have hd2 := mvB_dT hT1 q4
        have hk5 := hok.2.2.2.2.2.2.1
        refine call 19 _ es2 _ i_188_19 q2 (by omega) (by omega) (fun es3 v3 p3 => ?_)
        obtain ⟨r1, r2, r3, r4⟩ := pr_v p3
        refine s_rl22 (d := d + 5) (sh_of r2) r1 r2 (fun hv => ?_) (fun hv => K es3 0 (Or.inr ⟨rfl, no_seq hT hok q4 (r4 (by omega))⟩))
        have hok3 := r3 hv
        have hk7 := hok3.2.2.2.2.2.2.1
        have hpb := pT_bd r2
        have h399 : sT es3 ≤ 399 := by omega
        refine c_em (d := d + 4) i_188_31 r2 ⟨by omega, by omega⟩ ⟨by omega, by omega⟩ h399 (fun es4 h4 => ?_)
        refine s_rl34 (d := d + 5) (sh_of h4.2.1) h4.2.1 ?_
        have hp4 := (em_pT r2 h4).1
        have hp3 := hok3.2.2.2.1
        have hpb4 := pT_bd h4.2.1
        exact ih es4 (by omega) (ok_bin hT hok q4 q2 hp2 hok3 h4 h399 ⟨by omega, by omega⟩)
  refine s_rl0 (d := d + 5) (sh_of hT) hT ?_
  refine call 1 _ es _ i_188_1 hT h0 rfl (fun es1 v p1 => ?_)
  obtain ⟨r1, r2, r3, r4⟩ := pr_v p1
  exact s_rl4 (d := d + 5) (sh_of r2) r1 r2 (fun hv => loop _ es1 (Nat.lt_succ_self _) (r3 hv)) (fun hv => K es1 0 (Or.inr ⟨rfl, r4 (by omega)⟩))
theorem rc_spec (hsub : ∀ (kc ks : Nat) (Q : pRes → Prop) (es1 : PH), hOK tT es1 → sT es1 + 1 ≤ pT es1 → dT es1 = dT es → (∀ es' v, prP es1 es' v → Q (.inl (some (.int (zI v))), es', kc, ks)) → aW O (d + 4) 188 kc ks Q (0, [some (.ref 143)], [], es1)) (hT : hOK tT es) (hW : wordsOK O) (h0 : sT es + 1 ≤ pT es) (K : ∀ es' v, prP es es' v → Q (.inl (some (.int (zI v))), es', kc, ks)) : aW O (d + 5) 187 kc ks Q (0, [some (.ref 143)], [], es) := by
  have hsb := sT_bd hT
  have call : ∀ (pc k : Nat) (es1 : PH) (L : PL), iRow 187 pc = some (.invokevirtual 203, k, 188, 1, some .boolean) → hOK tT es1 → sT es1 + 1 ≤ pT es1 → dT es1 = dT es → (∀ es' v, prP es1 es' v → aW O (d + 5) 187 kc ks Q (pc + 3, L, [.int (zI v)], es')) → aW O (d + 5) 187 kc ks Q (pc, L, [.ref 143], es1) := by
    intro pc k es1 L hi hT1 h1 hd1 K1
    refine x_call (vs := [.ref 143]) (rs := []) hi rfl (fun _ => rfl) rfl rfl rfl rfl rfl (pCall_v (p := 79) (sh_of hT1) rfl rfl rfl rfl rfl (by decide) rfl rfl rfl rfl rfl) ?_
    show aW _ _ _ _ _ _ (0, [some (.ref 143)], [], es1)
    exact hsub _ _ _ es1 hT1 h1 hd1 (fun es' v h => K1 es' v h)
  have loop : ∀ (N : Nat) (es1 : PH), (400 - pT es1).toNat < N → okP es es1 → aW O (d + 5) 187 kc ks Q (9, [some (.ref 143)], [], es1) := by
    intro N
    induction N with
    | zero => intro es1 h; omega
    | succ N ih =>
      intro es1 hN hok
      have hT1 := hok.2.1
      have hde := hok.2.2.2.2.1
      refine s_rc9 (d := d + 1) (sh_of hT1) hW hT1 (fun es2 v2 p2 h2 => ?_) (fun es2 v2 p2 h2 => ?_)
      all_goals obtain ⟨q1, q2, q3, q4, q5⟩ := p2
      · exact K es2 1 (Or.inl ⟨rfl, ok_mv hT hok q2 q4⟩)
      · have hp2 := q5 h2
        have hs2 := mvB_sT hT1 q4
        have hd2 := mvB_dT hT1 q4
        have hk5 := hok.2.2.2.2.2.2.1
        refine call 19 _ es2 _ i_187_19 q2 (by omega) (by omega) (fun es3 v3 p3 => ?_)
        obtain ⟨r1, r2, r3, r4⟩ := pr_v p3
        refine s_rc22 (d := d + 5) (sh_of r2) r1 r2 (fun hv => ?_) (fun hv => K es3 0 (Or.inr ⟨rfl, no_seq hT hok q4 (r4 (by omega))⟩))
        have hok3 := r3 hv
        have hk7 := hok3.2.2.2.2.2.2.1
        have hpb := pT_bd r2
        have h399 : sT es3 ≤ 399 := by omega
        refine c_em (d := d + 4) i_187_31 r2 ⟨by omega, by omega⟩ ⟨by omega, by omega⟩ h399 (fun es4 h4 => ?_)
        refine s_rc34 (d := d + 5) (sh_of h4.2.1) h4.2.1 ?_
        have hp4 := (em_pT r2 h4).1
        have hp3 := hok3.2.2.2.1
        have hpb4 := pT_bd h4.2.1
        exact ih es4 (by omega) (ok_bin hT hok q4 q2 hp2 hok3 h4 h399 ⟨by omega, by omega⟩)
  refine s_rc0 (d := d + 5) (sh_of hT) hT ?_
  refine call 1 _ es _ i_187_1 hT h0 rfl (fun es1 v p1 => ?_)
  obtain ⟨r1, r2, r3, r4⟩ := pr_v p1
  exact s_rc4 (d := d + 5) (sh_of r2) r1 r2 (fun hv => loop _ es1 (Nat.lt_succ_self _) (r3 hv)) (fun hv => K es1 0 (Or.inr ⟨rfl, r4 (by omega)⟩))

end
theorem put9 {es es' : PH} {x : Int} (hT : hOK tT es) (hx : 0 ≤ x ∧ x ≤ 6) (he : es' = sI es 79 9 (.int (zI x))) : hOK tT es' ∧ dT es' = x ∧ pT es' = pT es ∧ sT es' = sT es ∧ gA es' 80 = gA es 80 ∧ ∀ s, fr (frPr s) es es' := by
  have hz : (zI x).toInt = x := zI_toInt (by unfold i32 iLO iHI; omega)
  refine ⟨by rw [he]; exact hOK_sI hT (p := 79) (b := 9) rfl rfl (by rw [hz]; exact hx), ?_, ?_, ?_, by rw [he, gA_sI], fun s => by rw [he]; exact fr_sI (mIn_yes (by simp only [frPr, mHq, true_and, and_true, false_and, and_false, or_false, false_or, not_false_eq_true, Nat.reduceEqDiff] <;> omega))⟩
  · unfold dT; rw [he, gI_sI (sh_of hT) (p := 79) rfl (by decide), hz]
  · unfold pT; rw [he, gI_sI_ne (Or.inr (by decide))]
  · unfold sT; rw [he, gI_sI_ne (Or.inr (by decide))]
theorem ok_no {a b : PH} (h : okP a b) : noP a b := ⟨h.1, h.2.1, h.2.2.1, h.2.2.2.1⟩
theorem no_deep {a a2 b : PH} {x : Int} (hT : hOK tT a) (hx : 0 ≤ x ∧ x ≤ 6) (he : a2 = sI a 79 9 (.int (zI x))) (h : noP a2 b) : noP a b := by
  obtain ⟨p1, p2, p3, p4, p5, p6⟩ := put9 hT hx he
  refine ⟨h.1, h.2.1, fr_trans (p6 _) (by rw [← p4]; exact h.2.2.1), ?_⟩
  have := h.2.2.2
  omega
theorem ok_deep {a a2 b c : PH} (hT : hOK tT a) (hx : 0 ≤ dT a + 1 ∧ dT a + 1 ≤ 6) (he : a2 = sI a 79 9 (.int (zI (dT a + 1)))) (h : okP a2 b) (hc : c = sI b 79 9 (.int (zI (dT b - 1)))) : okP a c := by
  obtain ⟨p1, p2, p3, p4, p5, p6⟩ := put9 hT hx he
  obtain ⟨b1, b2, b3, b4, b5, b6, b7, b8⟩ := h
  have hd := dT_bd hT
  obtain ⟨q1, q2, q3, q4, q5, q6⟩ := put9 b2 (by omega) hc
  refine ⟨sh_of q1, q1, fr_trans (p6 _) (fr_trans (by rw [← p4]; exact b3) (q6 _)), by omega, by omega, by omega, by omega, fun H hH => ?_⟩
  rw [opD_80 q5, q4, ← p4]
  exact b8 H hH
theorem ok_un {a b c e : PH} {n : Int} (hTa : hOK tT a) (h1 : mvB a b) (hTb : hOK tT b) (hp : pT a + 1 ≤ pT b) (h2 : okP b c) (h3 : emP 10 n c e) (h399 : sT c ≤ 399) : okP a e := by
  have hsb := mvB_sT hTa h1
  have hdb := mvB_dT hTa h1
  have hs := sT_bd hTa
  obtain ⟨c1, c2, c3, c4, c5, c6, c7, c8⟩ := h2
  obtain ⟨hpe, hde⟩ := em_pT c2 h3
  have hse := h3.2.2.2.1
  have fce := em_pr c2 h399 h3
  refine ⟨h3.1, h3.2.1, fr_trans (mvB_pr h1) (fr_trans (by rw [← hsb]; exact c3) (frPr_le (by omega) fce)), by omega, by omega, by omega, by omega, fun H hH => ?_⟩
  have n1 : (sT e - sT a).toNat = (sT c - sT b).toNat + 1 := by omega
  have n3 : (sT b).toNat + (sT c - sT b).toNat = (sT c).toNat := by omega
  have r2 : rpn (opD e) (sT c - sT b).toNat (sT b).toNat H = some (H + 1) := by
    rw [← c8 H hH]
    refine rpn_congr (sT c - sT b).toNat (sT b).toNat H (fun i h5 h6 => ?_)
    exact opD_fr c2 fce i (by omega)
  rw [n1, ← hsb, rpn_app, r2]
  simp only
  rw [n3, rpn, h3.2.2.2.2]
  have : stp 10 (H + 1) = some (H + 1) := by
    unfold stp
    rw [if_neg (by omega), if_pos rfl, if_pos (by omega)]
  rw [this]
  rfl
section
variable {O : pOut} {d kc ks : Nat} {Q : pRes → Prop} {es : PH}
theorem ra_step (hW : wordsOK O) (hT : hOK tT es) (h0 : sT es + 1 ≤ pT es)
    (hC : ∀ (kc ks : Nat) (Q : pRes → Prop) (es1 : PH), hOK tT es1 → sT es1 + 1 ≤ pT es1 → dT es1 = dT es + 1 → (∀ es' v, prP es1 es' v → Q (.inl (some (.int (zI v))), es', kc, ks)) → aW O (d + 5) 187 kc ks Q (0, [some (.ref 143)], [], es1))
    (hA : ∀ (kc ks : Nat) (Q : pRes → Prop) (es1 : PH), hOK tT es1 → sT es1 + 1 ≤ pT es1 → dT es1 = dT es + 1 → (∀ es' v, prP es1 es' v → Q (.inl (some (.int (zI v))), es', kc, ks)) → aW O (d + 5) 189 kc ks Q (0, [some (.ref 143), none, none], [], es1))
    (K : ∀ es' v, prP es es' v → Q (.inl (some (.int (zI v))), es', kc, ks)) : aW O (d + 6) 189 kc ks Q (0, [some (.ref 143), none, none], [], es) := by
  have hdb := dT_bd hT
  have hsb := sT_bd hT
  have no : ∀ b, noP es b → Q (.inl (some (.int (zI 0))), b, kc, ks) := fun b h => K b 0 (Or.inr ⟨rfl, h⟩)
  have ok : ∀ b, okP es b → Q (.inl (some (.int (zI 1))), b, kc, ks) := fun b h => K b 1 (Or.inl ⟨rfl, h⟩)
  have tk : ∀ (es7 : PH) (op v8 : Int), hOK tT es7 → mvB es es7 → pT es + 1 ≤ pT es7 → op = 4 ∨ op = 5 → aW O (d + 6) 189 kc ks Q (145, [some (.ref 143), some (.int (zI v8)), none], [.int (zI 0), .int (zI op), .ref 143], es7) := by
    intro es7 op v8 hT7 hm hp hop
    have hs7 := mvB_sT hT hm
    have hpb := pT_bd hT7
    refine c_em (d := d + 5) i_189_145 hT7 ⟨by omega, by omega⟩ ⟨by omega, by omega⟩ (by omega) (fun es8 h8 => ?_)
    exact s_ra148 (d := d + 6) (sh_of h8.2.1) h8.2.1 (ok es8 (ok_one hT hm hT7 hp (by omega) h8 ⟨by omega, by omega⟩))
  refine s_ra0 (d := d + 2) (sh_of hT) hW hT (fun es1 v2 p2 h2 es4 v5 p5 h5 es7 v8 p8 h8 => ?_) (fun es1 v2 p2 h2 es4 v5 p5 h5 es7 v8 p8 h8 es10 v11 p11 h11 => ?_) (fun es1 v2 p2 h2 es4 v5 p5 h5 es7 v8 p8 h8 es10 v11 p11 h11 => ?_) (fun es1 v2 p2 h2 es4 v5 p5 h5 v13 e13 h13 v15 e15 es16 e16 => ?_) (fun es1 v2 p2 h2 es4 v5 p5 h5 v13 e13 h13 => ?_) (fun es1 v2 p2 h2 v17 e17 h17 v19 e19 es20 e20 => ?_) (fun es1 v2 p2 h2 v17 e17 h17 => ?_)
  · have m4 := mvB_trans p2.2.2.2.1 p5.2.2.2.1
    exact tk es7 4 v8 p8.2.1 (mvB_trans m4 p8.2.2.2.1) (by have := m4.2; have := p8.2.2.2.2 h8; omega) (Or.inl rfl)
  · -- two sums and what stands between
    have m10 := mvB_trans (mvB_trans p2.2.2.2.1 p5.2.2.2.1) (mvB_trans p8.2.2.2.1 p11.2.2.2.1)
    have hT10 := p11.2.1
    have hs10 := mvB_sT hT m10
    have hp10 := m10.2
    refine c_rs (d := d) i_189_151 hT10 hW (by omega) (fun es12 v12 p12 => ?_)
    obtain ⟨r1, r2, r3, r4⟩ := pr_v p12
    have second : ∀ (es13 : PH) (l : Int), v12 ≠ 0 → hOK tT es13 → mvB es12 es13 → pT es12 + 1 ≤ pT es13 → 0 ≤ l ∧ l ≤ 1 → aW O (d + 6) 189 kc ks Q (180, [some (.ref 143), some (.int (zI v8)), some (.int (zI l))], [.ref 143], es13) := by
      intro es13 l hv hT13 m13 hp13 hl
      have hok := ok_lead hT m10 hT10 (r3 hv)
      have hk7 := hok.2.2.2.2.2.2.1
      have hs13 := mvB_sT r2 m13
      refine c_rs (d := d) i_189_180 hT13 hW (by omega) (fun es14 v14 p14 => ?_)
      obtain ⟨u1, u2, u3, u4⟩ := pr_v p14
      have last : ∀ op : Int, v14 ≠ 0 → op = 8 ∨ op = 9 → aW O (d + 6) 189 kc ks Q (201, [some (.ref 143), some (.int (zI v8)), some (.int (zI l))], [.int (zI 0), .int (zI op), .ref 143], es14) := by
        intro op hv14 hop
        have hok14 := u3 hv14
        have hk14 := hok14.2.2.2.2.2.2.1
        have hpb := pT_bd u2
        refine c_em (d := d + 5) i_189_201 u2 ⟨by omega, by omega⟩ ⟨by omega, by omega⟩ (by omega) (fun es15 h15 => ?_)
        exact s_ra204 (d := d + 6) (sh_of h15.2.1) h15.2.1 (ok es15 (ok_bin hT hok m13 hT13 hp13 hok14 h15 (by omega) ⟨by omega, by omega⟩))
      exact s_ra183 (d := d + 6) (sh_of u2) u1 hl u2 (fun hv14 _ => last 9 hv14 (Or.inr rfl)) (fun hv14 _ => last 8 hv14 (Or.inl rfl)) (fun hv14 => no es14 (no_seq hT hok m13 (u4 (by omega))))
    refine s_ra154 (d := d + 3) (sh_of r2) r1 r2 (fun hv es13 v13 p13 h13 => second es13 v13 hv p13.2.1 p13.2.2.2.1 (p13.2.2.2.2 h13) p13.2.2.1) (fun hv es13 v13 p13 h13 es14 v14 p14 h14 => no es14 (ok_no (ok_mv hT (ok_lead hT m10 hT10 (r3 hv)) p14.2.1 (mvB_trans p13.2.2.2.1 p14.2.2.2.1)))) (fun hv es13 v13 p13 h13 es14 v14 p14 h14 => second es14 v13 hv p14.2.1 (mvB_trans p13.2.2.2.1 p14.2.2.2.1) (by have := p13.2.2.2.1.2; have := p14.2.2.2.2 h14; omega) p13.2.2.1) (fun hv => no es12 (no_lead hT m10 (r4 (by omega))))
  · have m7 := mvB_trans (mvB_trans p2.2.2.2.1 p5.2.2.2.1) p8.2.2.2.1
    exact tk es10 5 v8 p11.2.1 (mvB_trans m7 p11.2.2.2.1) (by have := m7.2; have := p11.2.2.2.2 h11; omega) (Or.inr rfl)
  · -- not
    have m4 := mvB_trans p2.2.2.2.1 p5.2.2.2.1
    have hT4 := p5.2.1
    have hd4 := mvB_dT hT m4
    have hs4 := mvB_sT hT m4
    have hp4 : pT es + 1 ≤ pT es4 := by have := p2.2.2.2.1.2; have := p5.2.2.2.2 h5; omega
    have hv13 : v13 = dT es4 := e13
    have hv15 : v15 = dT es4 := e15
    rw [hv15] at e16
    have hdb4 := dT_bd hT4
    obtain ⟨w1, w2, w3, w4, w5, w6⟩ := put9 hT4 (by omega) e16
    refine x_call (vs := [.ref 143]) (rs := []) i_189_87 rfl (fun _ => rfl) rfl rfl rfl rfl rfl (pCall_v (p := 79) (sh_of w1) rfl rfl rfl rfl rfl (by decide) rfl rfl rfl rfl rfl) ?_
    show aW _ _ _ _ _ _ (0, [some (.ref 143), none, none], [], es16)
    refine hA _ _ _ es16 w1 (by omega) (by omega) (fun es17 v17 p17 => ?_)
    show aW _ _ _ _ _ _ (90, [some (.ref 143), none, none], [.int (zI v17)], es17)
    obtain ⟨r1, r2, r3, r4⟩ := pr_v p17
    have noc : v17 = 0 → Q (.inl (some (.int (zI 0))), es17, kc, ks) := fun hv => no es17 (no_lead hT m4 (no_deep hT4 (by omega) e16 (r4 hv)))
    by_cases hv17 : v17 = 0
    · have hdn := dT_bd r2
      -- a value 0 ends at once
      refine x_ifF i_189_90 (by unfold i32 iLO iHI; omega) rfl (by simp only [zC, cR]; omega) ?_
      refine x0 (r := (94, [some (.ref 143), none, none], [.int (zI 0)], es17)) i_189_93 (by rfl) ?_
      exact x_ret (v := some (.int (zI 0))) i_189_94 rfl (fun _ => rfl) rfl rfl rfl (noc hv17)
    · have hok17 := r3 hv17
      have hd17 := hok17.2.2.2.2.1
      refine s_ra90 (d := d + 6) (sh_of r2) r1 (by show 1 ≤ dT es17; omega) r2 (fun hv v18 e18 es19 e19 => ?_) (fun hv => absurd (by omega) hv17)
      have hv18 : v18 = dT es17 := e18
      rw [hv18] at e19
      have hok19 := ok_deep hT4 (by omega) e16 hok17 e19
      have hk19 := hok19.2.2.2.2.2.2.1
      have hpb := pT_bd hok19.2.1
      refine c_em (d := d + 5) i_189_109 hok19.2.1 ⟨by omega, by omega⟩ ⟨by omega, by omega⟩ (by omega) (fun es21 h21 => ?_)
      exact s_ra112 (d := d + 6) (sh_of h21.2.1) h21.2.1 (ok es21 (ok_un hT m4 hT4 hp4 hok19 h21 (by omega)))
  · exact no es4 (no_mv p5.2.1 (mvB_trans p2.2.2.2.1 p5.2.2.2.1))
  · -- what stands in brackets
    have m1 := p2.2.2.2.1
    have hT1 := p2.2.1
    have hd1 := mvB_dT hT m1
    have hs1 := mvB_sT hT m1
    have hp1 : pT es + 1 ≤ pT es1 := p2.2.2.2.2 h2
    have hv17 : v17 = dT es1 := e17
    have hv19 : v19 = dT es1 := e19
    rw [hv19] at e20
    have hdb1 := dT_bd hT1
    obtain ⟨w1, w2, w3, w4, w5, w6⟩ := put9 hT1 (by omega) e20
    refine x_call (vs := [.ref 143]) (rs := []) i_189_31 rfl (fun _ => rfl) rfl rfl rfl rfl rfl (pCall_v (p := 79) (sh_of w1) rfl rfl rfl rfl rfl (by decide) rfl rfl rfl rfl rfl) ?_
    show aW _ _ _ _ _ _ (0, [some (.ref 143)], [], es20)
    refine hC _ _ _ es20 w1 (by omega) (by omega) (fun es21 v21 p21 => ?_)
    show aW _ _ _ _ _ _ (34, [some (.ref 143), none, none], [.int (zI v21)], es21)
    obtain ⟨r1, r2, r3, r4⟩ := pr_v p21
    by_cases hv21 : v21 = 0
    · refine x_ifF i_189_34 (by unfold i32 iLO iHI; omega) rfl (by simp only [zC, cR]; omega) ?_
      refine x0 (r := (38, [some (.ref 143), none, none], [.int (zI 0)], es21)) i_189_37 (by rfl) ?_
      exact x_ret (v := some (.int (zI 0))) i_189_38 rfl (fun _ => rfl) rfl rfl rfl (no es21 (no_lead hT m1 (no_deep hT1 (by omega) e20 (r4 hv21))))
    · have hok21 := r3 hv21
      have hd21 := hok21.2.2.2.2.1
      refine s_ra34 (d := d + 3) (sh_of r2) r1 (by show 1 ≤ dT es21; omega) r2 (fun hv v18 e18 es22 e22 es23 v23 p23 => ?_) (fun hv => absurd (by omega) hv21)
      have hv18 : v18 = dT es21 := e18
      rw [hv18] at e22
      have hok22 := ok_lead hT m1 hT1 (ok_deep hT1 (by omega) e20 hok21 e22)
      have hok23 := ok_mv hT hok22 p23.2.1 p23.2.2.2.1
      by_cases hv23 : v23 = 0
      · exact K es23 v23 (Or.inr ⟨hv23, ok_no hok23⟩)
      · exact K es23 v23 (Or.inl ⟨by have := p23.2.2.1; omega, hok23⟩)
  · exact no es1 (no_mv p2.2.1 p2.2.2.2.1)
end
theorem rd_ind {O : pOut} (hW : wordsOK O) : ∀ r : Nat,
    (∀ (d kc ks : Nat) (Q : pRes → Prop) (es : PH), hOK tT es → sT es + 1 ≤ pT es → 6 ≤ dT es + r → (∀ es' v, prP es es' v → Q (.inl (some (.int (zI v))), es', kc, ks)) → aW O (d + (6 + 3 * r)) 189 kc ks Q (0, [some (.ref 143), none, none], [], es)) ∧
    (∀ (d kc ks : Nat) (Q : pRes → Prop) (es : PH), hOK tT es → sT es + 1 ≤ pT es → 6 ≤ dT es + r → (∀ es' v, prP es es' v → Q (.inl (some (.int (zI v))), es', kc, ks)) → aW O (d + (8 + 3 * r)) 187 kc ks Q (0, [some (.ref 143)], [], es)) := by
  have cond : ∀ r : Nat, (∀ (d kc ks : Nat) (Q : pRes → Prop) (es : PH), hOK tT es → sT es + 1 ≤ pT es → 6 ≤ dT es + r → (∀ es' v, prP es es' v → Q (.inl (some (.int (zI v))), es', kc, ks)) → aW O (d + (6 + 3 * r)) 189 kc ks Q (0, [some (.ref 143), none, none], [], es)) →
      (∀ (d kc ks : Nat) (Q : pRes → Prop) (es : PH), hOK tT es → sT es + 1 ≤ pT es → 6 ≤ dT es + r → (∀ es' v, prP es es' v → Q (.inl (some (.int (zI v))), es', kc, ks)) → aW O (d + (8 + 3 * r)) 187 kc ks Q (0, [some (.ref 143)], [], es)) := by
    intro r hA d kc ks Q es hT h0 h6 K
    have e1 : d + (8 + 3 * r) = (d + (3 + 3 * r)) + 5 := by omega
    rw [e1]
    refine rc_spec (d := d + (3 + 3 * r)) (fun kc ks Q es1 hT1 h1 hd1 K1 => ?_) hT hW h0 K
    have e2 : d + (3 + 3 * r) + 4 = (d + (2 + 3 * r)) + 5 := by omega
    rw [e2]
    refine rl_spec (d := d + (2 + 3 * r)) (fun kc ks Q es2 hT2 h2 hd2 K2 => ?_) hT1 hW h1 K1
    have e3 : d + (2 + 3 * r) + 4 = d + (6 + 3 * r) := by omega
    rw [e3]
    exact hA d kc ks Q es2 hT2 h2 (by omega) K2
  intro r
  induction r with
  | zero =>
    have hA : (∀ (d kc ks : Nat) (Q : pRes → Prop) (es : PH), hOK tT es → sT es + 1 ≤ pT es → 6 ≤ dT es + (0 : Nat) → (∀ es' v, prP es es' v → Q (.inl (some (.int (zI v))), es', kc, ks)) → aW O (d + (6 + 3 * 0)) 189 kc ks Q (0, [some (.ref 143), none, none], [], es)) := by
      intro d kc ks Q es hT h0 h6 K
      exact ra_step (d := d) hW hT h0 (fun kc ks Q es1 hT1 h1 hd1 K1 => by have := (dT_bd hT1).2; omega) (fun kc ks Q es1 hT1 h1 hd1 K1 => by have := (dT_bd hT1).2; omega) K
    exact ⟨hA, cond 0 hA⟩
  | succ r ih =>
    have hA : (∀ (d kc ks : Nat) (Q : pRes → Prop) (es : PH), hOK tT es → sT es + 1 ≤ pT es → 6 ≤ dT es + ((r + 1 : Nat) : Int) → (∀ es' v, prP es es' v → Q (.inl (some (.int (zI v))), es', kc, ks)) → aW O (d + (6 + 3 * (r + 1))) 189 kc ks Q (0, [some (.ref 143), none, none], [], es)) := by
      intro d kc ks Q es hT h0 h6 K
      have e1 : d + (6 + 3 * (r + 1)) = (d + (3 + 3 * r)) + 6 := by omega
      rw [e1]
      refine ra_step (d := d + (3 + 3 * r)) hW hT h0 (fun kc ks Q es1 hT1 h1 hd1 K1 => ?_) (fun kc ks Q es1 hT1 h1 hd1 K1 => ?_) K
      · have e2 : d + (3 + 3 * r) + 5 = d + (8 + 3 * r) := by omega
        rw [e2]
        exact ih.2 d kc ks Q es1 hT1 h1 (by omega) K1
      · have e2 : d + (3 + 3 * r) + 5 = (d + 2) + (6 + 3 * r) := by omega
        rw [e2]
        exact ih.1 (d + 2) kc ks Q es1 hT1 h1 (by omega) K1
    exact ⟨hA, cond (r + 1) hA⟩
/-- readCond, at any depth -/
theorem rc_all {O : pOut} {d kc ks : Nat} {Q : pRes → Prop} {es : PH} (hW : wordsOK O) (hT : hOK tT es) (h0 : sT es + 1 ≤ pT es) (K : ∀ es' v, prP es es' v → Q (.inl (some (.int (zI v))), es', kc, ks)) : aW O (d + 26) 187 kc ks Q (0, [some (.ref 143)], [], es) :=
  (rd_ind hW 6).2 d kc ks Q es hT h0 (by have := (dT_bd hT).1; omega) K
