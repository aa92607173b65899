/-! MEASURE, by the document's tokens; printed by wip/rel/meas.py -/
theorem s_ms0 {O : pOut} {d kc ks : Nat} {Q : pRes → Prop} {es : PH} {R : Nat → Int32} {n0 cn : Nat} (hs_es : sh es) (ht : -3000 ≤ (gI es 3 8).toInt ∧ (gI es 3 8).toInt ≤ 999) (hT_es : hOK tT es) (hr_es : tkH R n0 cn es)
    (K1 : aW O d 95 kc ks Q (2, [some (.ref 67), some (.int (zI 0))], [], es)) :
    aW O d 95 kc ks Q (0, [some (.ref 67), none], [], es) := by
  refine x0 (r := (1, [some (.ref 67), none], [.int (zI 0)], es)) i_95_0 (by rfl) ?_
  refine x0 (r := (2, [some (.ref 67), some (.int (zI 0))], [], es)) i_95_1 rfl ?_
  exact K1
theorem s_ms2 {O : pOut} {d kc ks : Nat} {Q : pRes → Prop} {es : PH} {R : Nat → Int32} {n0 cn : Nat} {k : Int} (hs_es : sh es) (hk : 0 ≤ k ∧ k ≤ 400) (ht : -3000 ≤ (gI es 3 8).toInt ∧ (gI es 3 8).toInt ≤ 999) (hT_es : hOK tT es) (hr_es : tkH R n0 cn es)
    (K1 : 400 ≤ k → ∀ es2 : PH, ∀ v3 : Int, flHP R n0 cn  es es2 v3 → Q (.inl (some (.int (zI v3))), es2, kc, ks))
    (K2 : ¬ (400 ≤ k) → ∀ v4 : Int, v4 = (gI es 3 8).toInt → 0 ≤ v4 → ∀ es6 : PH, emHP R n0 cn v4 es es6 → ∀ es7 : PH, paHP R n0 cn  es6 es7 → k ≤ 0 → ∀ v9 : Int, v9 = (gI es7 3 8).toInt → v9 = (-1043) → ∀ es11 : PH, paHP R n0 cn  es7 es11 → aW O (d + 2) 95 kc ks Q (2, [some (.ref 67), some (.int (zI (k + 1)))], [], es11))
    (K3 : ¬ (400 ≤ k) → ∀ v4 : Int, v4 = (gI es 3 8).toInt → 0 ≤ v4 → ∀ es6 : PH, emHP R n0 cn v4 es es6 → ∀ es7 : PH, paHP R n0 cn  es6 es7 → k ≤ 0 → ∀ v9 : Int, v9 = (gI es7 3 8).toInt → ¬ (v9 = (-1043)) → Q (.inl (some (.int (zI 1))), es7, kc, ks))
    (K4 : ¬ (400 ≤ k) → ∀ v4 : Int, v4 = (gI es 3 8).toInt → 0 ≤ v4 → ∀ es6 : PH, emHP R n0 cn v4 es es6 → ∀ es7 : PH, paHP R n0 cn  es6 es7 → ¬ (k ≤ 0) → ∀ es12 : PH, emHP R n0 cn (-1043) es7 es12 → ∀ v13 : Int, v13 = (gI es12 3 8).toInt → v13 = (-1043) → ∀ es15 : PH, paHP R n0 cn  es12 es15 → aW O (d + 2) 95 kc ks Q (2, [some (.ref 67), some (.int (zI (k + 1)))], [], es15))
    (K5 : ¬ (400 ≤ k) → ∀ v4 : Int, v4 = (gI es 3 8).toInt → 0 ≤ v4 → ∀ es6 : PH, emHP R n0 cn v4 es es6 → ∀ es7 : PH, paHP R n0 cn  es6 es7 → ¬ (k ≤ 0) → ∀ es12 : PH, emHP R n0 cn (-1043) es7 es12 → ∀ v13 : Int, v13 = (gI es12 3 8).toInt → ¬ (v13 = (-1043)) → Q (.inl (some (.int (zI 1))), es12, kc, ks))
    (K6 : ¬ (400 ≤ k) → ∀ v4 : Int, v4 = (gI es 3 8).toInt → ¬ (0 ≤ v4) → v4 < (-4) → ∀ es17 : PH, ∀ v18 : Int, flHP R n0 cn  es es17 v18 → Q (.inl (some (.int (zI v18))), es17, kc, ks))
    (K7 : ¬ (400 ≤ k) → ∀ v4 : Int, v4 = (gI es 3 8).toInt → ¬ (0 ≤ v4) → ¬ (v4 < (-4)) → ∀ es19 : PH, emHP R n0 cn v4 es es19 → ∀ es20 : PH, paHP R n0 cn  es19 es20 → k ≤ 0 → ∀ v22 : Int, v22 = (gI es20 3 8).toInt → v22 = (-1043) → ∀ es24 : PH, paHP R n0 cn  es20 es24 → aW O (d + 2) 95 kc ks Q (2, [some (.ref 67), some (.int (zI (k + 1)))], [], es24))
    (K8 : ¬ (400 ≤ k) → ∀ v4 : Int, v4 = (gI es 3 8).toInt → ¬ (0 ≤ v4) → ¬ (v4 < (-4)) → ∀ es19 : PH, emHP R n0 cn v4 es es19 → ∀ es20 : PH, paHP R n0 cn  es19 es20 → k ≤ 0 → ∀ v22 : Int, v22 = (gI es20 3 8).toInt → ¬ (v22 = (-1043)) → Q (.inl (some (.int (zI 1))), es20, kc, ks))
    (K9 : ¬ (400 ≤ k) → ∀ v4 : Int, v4 = (gI es 3 8).toInt → ¬ (0 ≤ v4) → ¬ (v4 < (-4)) → ∀ es19 : PH, emHP R n0 cn v4 es es19 → ∀ es20 : PH, paHP R n0 cn  es19 es20 → ¬ (k ≤ 0) → ∀ es25 : PH, emHP R n0 cn (-1043) es20 es25 → ∀ v26 : Int, v26 = (gI es25 3 8).toInt → v26 = (-1043) → ∀ es28 : PH, paHP R n0 cn  es25 es28 → aW O (d + 2) 95 kc ks Q (2, [some (.ref 67), some (.int (zI (k + 1)))], [], es28))
    (K10 : ¬ (400 ≤ k) → ∀ v4 : Int, v4 = (gI es 3 8).toInt → ¬ (0 ≤ v4) → ¬ (v4 < (-4)) → ∀ es19 : PH, emHP R n0 cn v4 es es19 → ∀ es20 : PH, paHP R n0 cn  es19 es20 → ¬ (k ≤ 0) → ∀ es25 : PH, emHP R n0 cn (-1043) es20 es25 → ∀ v26 : Int, v26 = (gI es25 3 8).toInt → ¬ (v26 = (-1043)) → Q (.inl (some (.int (zI 1))), es25, kc, ks)) :
    aW O (d + 2) 95 kc ks Q (2, [some (.ref 67), some (.int (zI k))], [], es) := by
  refine x0 (r := (3, [some (.ref 67), some (.int (zI k))], [.int (zI k)], es)) i_95_2 rfl ?_
  refine x0 (r := (6, [some (.ref 67), some (.int (zI k))], [.int (zI 400), .int (zI k)], es)) i_95_3 (by rfl) ?_
  by_cases c1 : 400 ≤ k
  · refine x_cmpT i_95_6 (by unfold i32 iLO iHI; omega) (by unfold i32 iLO iHI; omega) rfl (by simp only [zC, cR]; omega) ?_
    refine x0 (r := (74, [some (.ref 67), some (.int (zI k))], [.ref 67], es)) i_95_73 rfl ?_
    refine x_call (vs := [.ref 67]) (rs := []) i_95_74 rfl (fun _ => rfl) rfl rfl rfl rfl rfl (pCall_v (p := 3) hs_es rfl rfl rfl rfl rfl (by decide) rfl rfl rfl rfl rfl) ?_
    show aW _ _ _ _ _ _ (0, [some (.ref 67)], [], es)
    refine flH hs_es hT_es hr_es (fun es2 v3 p_es2 => ?_)
    have hs_es2 : sh es2 := p_es2.1
    have hT_es2 : hOK tT es2 := p_es2.2.1
    have hr_es2 : tkH R n0 cn es2 := p_es2.2.2.1
    have r_v3 := flH_v p_es2
    show aW _ _ _ _ _ _ (77, [some (.ref 67), some (.int (zI k))], [.int (zI v3)], es2)
    refine x_ret (v := some (.int (zI v3))) i_95_77 rfl (fun _ => rfl) rfl rfl (pFin_b (by omega)) ?_
    exact K1 c1 es2 v3 p_es2
  · refine x_cmpF i_95_6 (by unfold i32 iLO iHI; omega) (by unfold i32 iLO iHI; omega) rfl (by simp only [zC, cR]; omega) ?_
    refine x0 (r := (10, [some (.ref 67), some (.int (zI k))], [.ref 67], es)) i_95_9 rfl ?_
    refine x_geti (p := 3) i_95_10 hs_es rfl rfl ?_
    obtain ⟨v4, e_v4⟩ : ∃ z : Int, z = (gI es 3 8).toInt := ⟨_, rfl⟩
    rw [← e_v4]
    have r_v4 : iLO ≤ v4 ∧ v4 ≤ iHI := by rw [e_v4]; exact i32_rng _
    unfold iLO iHI at r_v4
    by_cases c5 : 0 ≤ v4
    · refine x_ifT i_95_13 (by unfold i32 iLO iHI; omega) rfl (by simp only [zC, cR]; omega) ?_
      refine x0 (r := (29, [some (.ref 67), some (.int (zI k))], [.ref 67], es)) i_95_28 rfl ?_
      refine x0 (r := (30, [some (.ref 67), some (.int (zI k))], [.ref 67, .ref 67], es)) i_95_29 rfl ?_
      refine x_geti (p := 3) i_95_30 hs_es rfl rfl ?_
      rw [show (gI es 3 8).toInt = v4 from e_v4.symm]
      refine x_call (vs := [.ref 67, .int (zI v4)]) (rs := []) i_95_33 rfl (fun _ => rfl) rfl rfl rfl rfl rfl (pCall_v (p := 3) hs_es rfl rfl rfl rfl rfl (by decide) rfl rfl rfl rfl rfl) ?_
      show aW _ _ _ _ _ _ (0, [some (.ref 67), some (.int (zI v4))], [], es)
      refine emH hs_es hT_es hr_es (fun es6 p_es6 => ?_)
      have hs_es6 : sh es6 := p_es6.1
      have hT_es6 : hOK tT es6 := p_es6.2.1
      have f_es6 := emH_f p_es6
      have hr_es6 : tkH R n0 cn es6 := p_es6.2.2.1
      show aW _ _ _ _ _ _ (36, [some (.ref 67), some (.int (zI k))], [], es6)
      refine x0 (r := (37, [some (.ref 67), some (.int (zI k))], [.ref 67], es6)) i_95_36 rfl ?_
      refine x_call (vs := [.ref 67]) (rs := []) i_95_37 rfl (fun _ => rfl) rfl rfl rfl rfl rfl (pCall_v (p := 3) hs_es6 rfl rfl rfl rfl rfl (by decide) rfl rfl rfl rfl rfl) ?_
      show aW _ _ _ _ _ _ (0, [some (.ref 67)], [], es6)
      refine paH hs_es6 hT_es6 hr_es6 (by omega) (fun es7 p_es7 => ?_)
      have hs_es7 : sh es7 := p_es7.1
      have hT_es7 : hOK tT es7 := p_es7.2.1
      have f_es7 := paH_f p_es7
      have hr_es7 : tkH R n0 cn es7 := p_es7.2.2.1
      show aW _ _ _ _ _ _ (40, [some (.ref 67), some (.int (zI k))], [], es7)
      refine x0 (r := (41, [some (.ref 67), some (.int (zI k))], [.int (zI k)], es7)) i_95_40 rfl ?_
      by_cases c8 : k ≤ 0
      · refine x_ifT i_95_41 (by unfold i32 iLO iHI; omega) rfl (by simp only [zC, cR]; omega) ?_
        refine x0 (r := (52, [some (.ref 67), some (.int (zI k))], [.ref 67], es7)) i_95_51 rfl ?_
        refine x_geti (p := 3) i_95_52 hs_es7 rfl rfl ?_
        obtain ⟨v9, e_v9⟩ : ∃ z : Int, z = (gI es7 3 8).toInt := ⟨_, rfl⟩
        rw [← e_v9]
        have r_v9 : iLO ≤ v9 ∧ v9 ≤ iHI := by rw [e_v9]; exact i32_rng _
        unfold iLO iHI at r_v9
        refine x0 (r := (58, [some (.ref 67), some (.int (zI k))], [.int (zI (-1043)), .int (zI v9)], es7)) i_95_55 (by rfl) ?_
        by_cases c10 : v9 = (-1043)
        · refine x_cmpT i_95_58 (by unfold i32 iLO iHI; omega) (by unfold i32 iLO iHI; omega) rfl (by simp only [zC, cR]; omega) ?_
          refine x0 (r := (64, [some (.ref 67), some (.int (zI k))], [.ref 67], es7)) i_95_63 rfl ?_
          refine x_call (vs := [.ref 67]) (rs := []) i_95_64 rfl (fun _ => rfl) rfl rfl rfl rfl rfl (pCall_v (p := 3) hs_es7 rfl rfl rfl rfl rfl (by decide) rfl rfl rfl rfl rfl) ?_
          show aW _ _ _ _ _ _ (0, [some (.ref 67)], [], es7)
          refine paH hs_es7 hT_es7 hr_es7 (by omega) (fun es11 p_es11 => ?_)
          have hs_es11 : sh es11 := p_es11.1
          have hT_es11 : hOK tT es11 := p_es11.2.1
          have f_es11 := paH_f p_es11
          have hr_es11 : tkH R n0 cn es11 := p_es11.2.2.1
          show aW _ _ _ _ _ _ (67, [some (.ref 67), some (.int (zI k))], [], es11)
          refine x_iinc (x := k) i_95_67 rfl (by show 1 < 2; decide) ?_
          show aW _ _ _ _ _ _ (70, [some (.ref 67), some (.int (zI (k + 1)))], [], es11)
          refine x0 (r := (2, [some (.ref 67), some (.int (zI (k + 1)))], [], es11)) i_95_70 rfl ?_
          exact K2 c1 v4 e_v4 c5 es6 p_es6 es7 p_es7 c8 v9 e_v9 c10 es11 p_es11
        · refine x_cmpF i_95_58 (by unfold i32 iLO iHI; omega) (by unfold i32 iLO iHI; omega) rfl (by simp only [zC, cR]; omega) ?_
          refine x0 (r := (62, [some (.ref 67), some (.int (zI k))], [.int (zI 1)], es7)) i_95_61 (by rfl) ?_
          refine x_ret (v := some (.int (zI 1))) i_95_62 rfl (fun _ => rfl) rfl rfl (pFin_b (by omega)) ?_
          exact K3 c1 v4 e_v4 c5 es6 p_es6 es7 p_es7 c8 v9 e_v9 c10
      · refine x_ifF i_95_41 (by unfold i32 iLO iHI; omega) rfl (by simp only [zC, cR]; omega) ?_
        refine x0 (r := (45, [some (.ref 67), some (.int (zI k))], [.ref 67], es7)) i_95_44 rfl ?_
        refine x0 (r := (48, [some (.ref 67), some (.int (zI k))], [.int (zI (-1043)), .ref 67], es7)) i_95_45 (by rfl) ?_
        refine x_call (vs := [.ref 67, .int (zI (-1043))]) (rs := []) i_95_48 rfl (fun _ => rfl) rfl rfl rfl rfl rfl (pCall_v (p := 3) hs_es7 rfl rfl rfl rfl rfl (by decide) rfl rfl rfl rfl rfl) ?_
        show aW _ _ _ _ _ _ (0, [some (.ref 67), some (.int (zI (-1043)))], [], es7)
        refine emH hs_es7 hT_es7 hr_es7 (fun es12 p_es12 => ?_)
        have hs_es12 : sh es12 := p_es12.1
        have hT_es12 : hOK tT es12 := p_es12.2.1
        have f_es12 := emH_f p_es12
        have hr_es12 : tkH R n0 cn es12 := p_es12.2.2.1
        show aW _ _ _ _ _ _ (51, [some (.ref 67), some (.int (zI k))], [], es12)
        refine x0 (r := (52, [some (.ref 67), some (.int (zI k))], [.ref 67], es12)) i_95_51 rfl ?_
        refine x_geti (p := 3) i_95_52 hs_es12 rfl rfl ?_
        obtain ⟨v13, e_v13⟩ : ∃ z : Int, z = (gI es12 3 8).toInt := ⟨_, rfl⟩
        rw [← e_v13]
        have r_v13 : iLO ≤ v13 ∧ v13 ≤ iHI := by rw [e_v13]; exact i32_rng _
        unfold iLO iHI at r_v13
        refine x0 (r := (58, [some (.ref 67), some (.int (zI k))], [.int (zI (-1043)), .int (zI v13)], es12)) i_95_55 (by rfl) ?_
        by_cases c14 : v13 = (-1043)
        · refine x_cmpT i_95_58 (by unfold i32 iLO iHI; omega) (by unfold i32 iLO iHI; omega) rfl (by simp only [zC, cR]; omega) ?_
          refine x0 (r := (64, [some (.ref 67), some (.int (zI k))], [.ref 67], es12)) i_95_63 rfl ?_
          refine x_call (vs := [.ref 67]) (rs := []) i_95_64 rfl (fun _ => rfl) rfl rfl rfl rfl rfl (pCall_v (p := 3) hs_es12 rfl rfl rfl rfl rfl (by decide) rfl rfl rfl rfl rfl) ?_
          show aW _ _ _ _ _ _ (0, [some (.ref 67)], [], es12)
          refine paH hs_es12 hT_es12 hr_es12 (by omega) (fun es15 p_es15 => ?_)
          have hs_es15 : sh es15 := p_es15.1
          have hT_es15 : hOK tT es15 := p_es15.2.1
          have f_es15 := paH_f p_es15
          have hr_es15 : tkH R n0 cn es15 := p_es15.2.2.1
          show aW _ _ _ _ _ _ (67, [some (.ref 67), some (.int (zI k))], [], es15)
          refine x_iinc (x := k) i_95_67 rfl (by show 1 < 2; decide) ?_
          show aW _ _ _ _ _ _ (70, [some (.ref 67), some (.int (zI (k + 1)))], [], es15)
          refine x0 (r := (2, [some (.ref 67), some (.int (zI (k + 1)))], [], es15)) i_95_70 rfl ?_
          exact K4 c1 v4 e_v4 c5 es6 p_es6 es7 p_es7 c8 es12 p_es12 v13 e_v13 c14 es15 p_es15
        · refine x_cmpF i_95_58 (by unfold i32 iLO iHI; omega) (by unfold i32 iLO iHI; omega) rfl (by simp only [zC, cR]; omega) ?_
          refine x0 (r := (62, [some (.ref 67), some (.int (zI k))], [.int (zI 1)], es12)) i_95_61 (by rfl) ?_
          refine x_ret (v := some (.int (zI 1))) i_95_62 rfl (fun _ => rfl) rfl rfl (pFin_b (by omega)) ?_
          exact K5 c1 v4 e_v4 c5 es6 p_es6 es7 p_es7 c8 es12 p_es12 v13 e_v13 c14
    · refine x_ifF i_95_13 (by unfold i32 iLO iHI; omega) rfl (by simp only [zC, cR]; omega) ?_
      refine x0 (r := (17, [some (.ref 67), some (.int (zI k))], [.ref 67], es)) i_95_16 rfl ?_
      refine x_call (vs := [.ref 67]) (rs := []) i_95_17 rfl (fun _ => rfl) rfl rfl rfl rfl rfl (pCall_v (p := 3) hs_es rfl rfl rfl rfl rfl (by decide) rfl rfl rfl rfl rfl) ?_
      show aW _ _ _ _ _ _ (0, [some (.ref 67)], [], es)
      refine x0 (r := (1, [some (.ref 67)], [.ref 67], es)) i_91_0 rfl ?_
      refine x_geti (p := 3) i_91_1 hs_es rfl rfl ?_
      rw [show (gI es 3 8).toInt = v4 from e_v4.symm]
      refine x0 (r := (5, [some (.ref 67)], [.int (zI (-1)), .int (zI v4)], es)) i_91_4 (by rfl) ?_
      refine x_cmpF i_91_5 (by unfold i32 iLO iHI; omega) (by unfold i32 iLO iHI; omega) rfl (by simp only [zC, cR]; omega) ?_
      refine x0 (r := (9, [some (.ref 67)], [.ref 67], es)) i_91_8 rfl ?_
      refine x_geti (p := 3) i_91_9 hs_es rfl rfl ?_
      rw [show (gI es 3 8).toInt = v4 from e_v4.symm]
      refine x0 (r := (14, [some (.ref 67)], [.int (zI (-4)), .int (zI v4)], es)) i_91_12 (by rfl) ?_
      by_cases c16 : v4 < (-4)
      · refine x_cmpT i_91_14 (by unfold i32 iLO iHI; omega) (by unfold i32 iLO iHI; omega) rfl (by simp only [zC, cR]; omega) ?_
        refine x0 (r := (22, [some (.ref 67)], [.int (zI 0)], es)) i_91_21 (by rfl) ?_
        refine x_ret (v := some (.int (zI 0))) i_91_22 rfl (fun _ => rfl) rfl rfl (pFin_b (by omega)) ?_
        show aW _ _ _ _ _ _ (20, [some (.ref 67), some (.int (zI k))], [.int (zI 0)], es)
        refine x_ifF i_95_20 (by unfold i32 iLO iHI; omega) rfl (by simp only [zC, cR]; omega) ?_
        refine x0 (r := (24, [some (.ref 67), some (.int (zI k))], [.ref 67], es)) i_95_23 rfl ?_
        refine x_call (vs := [.ref 67]) (rs := []) i_95_24 rfl (fun _ => rfl) rfl rfl rfl rfl rfl (pCall_v (p := 3) hs_es rfl rfl rfl rfl rfl (by decide) rfl rfl rfl rfl rfl) ?_
        show aW _ _ _ _ _ _ (0, [some (.ref 67)], [], es)
        refine flH hs_es hT_es hr_es (fun es17 v18 p_es17 => ?_)
        have hs_es17 : sh es17 := p_es17.1
        have hT_es17 : hOK tT es17 := p_es17.2.1
        have hr_es17 : tkH R n0 cn es17 := p_es17.2.2.1
        have r_v18 := flH_v p_es17
        show aW _ _ _ _ _ _ (27, [some (.ref 67), some (.int (zI k))], [.int (zI v18)], es17)
        refine x_ret (v := some (.int (zI v18))) i_95_27 rfl (fun _ => rfl) rfl rfl (pFin_b (by omega)) ?_
        exact K6 c1 v4 e_v4 c5 c16 es17 v18 p_es17
      · refine x_cmpF i_91_14 (by unfold i32 iLO iHI; omega) (by unfold i32 iLO iHI; omega) rfl (by simp only [zC, cR]; omega) ?_
        refine x0 (r := (18, [some (.ref 67)], [.int (zI 1)], es)) i_91_17 (by rfl) ?_
        refine x0 (r := (22, [some (.ref 67)], [.int (zI 1)], es)) i_91_18 rfl ?_
        refine x_ret (v := some (.int (zI 1))) i_91_22 rfl (fun _ => rfl) rfl rfl (pFin_b (by omega)) ?_
        show aW _ _ _ _ _ _ (20, [some (.ref 67), some (.int (zI k))], [.int (zI 1)], es)
        refine x_ifT i_95_20 (by unfold i32 iLO iHI; omega) rfl (by simp only [zC, cR]; omega) ?_
        refine x0 (r := (29, [some (.ref 67), some (.int (zI k))], [.ref 67], es)) i_95_28 rfl ?_
        refine x0 (r := (30, [some (.ref 67), some (.int (zI k))], [.ref 67, .ref 67], es)) i_95_29 rfl ?_
        refine x_geti (p := 3) i_95_30 hs_es rfl rfl ?_
        rw [show (gI es 3 8).toInt = v4 from e_v4.symm]
        refine x_call (vs := [.ref 67, .int (zI v4)]) (rs := []) i_95_33 rfl (fun _ => rfl) rfl rfl rfl rfl rfl (pCall_v (p := 3) hs_es rfl rfl rfl rfl rfl (by decide) rfl rfl rfl rfl rfl) ?_
        show aW _ _ _ _ _ _ (0, [some (.ref 67), some (.int (zI v4))], [], es)
        refine emH hs_es hT_es hr_es (fun es19 p_es19 => ?_)
        have hs_es19 : sh es19 := p_es19.1
        have hT_es19 : hOK tT es19 := p_es19.2.1
        have f_es19 := emH_f p_es19
        have hr_es19 : tkH R n0 cn es19 := p_es19.2.2.1
        show aW _ _ _ _ _ _ (36, [some (.ref 67), some (.int (zI k))], [], es19)
        refine x0 (r := (37, [some (.ref 67), some (.int (zI k))], [.ref 67], es19)) i_95_36 rfl ?_
        refine x_call (vs := [.ref 67]) (rs := []) i_95_37 rfl (fun _ => rfl) rfl rfl rfl rfl rfl (pCall_v (p := 3) hs_es19 rfl rfl rfl rfl rfl (by decide) rfl rfl rfl rfl rfl) ?_
        show aW _ _ _ _ _ _ (0, [some (.ref 67)], [], es19)
        refine paH hs_es19 hT_es19 hr_es19 (by omega) (fun es20 p_es20 => ?_)
        have hs_es20 : sh es20 := p_es20.1
        have hT_es20 : hOK tT es20 := p_es20.2.1
        have f_es20 := paH_f p_es20
        have hr_es20 : tkH R n0 cn es20 := p_es20.2.2.1
        show aW _ _ _ _ _ _ (40, [some (.ref 67), some (.int (zI k))], [], es20)
        refine x0 (r := (41, [some (.ref 67), some (.int (zI k))], [.int (zI k)], es20)) i_95_40 rfl ?_
        by_cases c21 : k ≤ 0
        · refine x_ifT i_95_41 (by unfold i32 iLO iHI; omega) rfl (by simp only [zC, cR]; omega) ?_
          refine x0 (r := (52, [some (.ref 67), some (.int (zI k))], [.ref 67], es20)) i_95_51 rfl ?_
          refine x_geti (p := 3) i_95_52 hs_es20 rfl rfl ?_
          obtain ⟨v22, e_v22⟩ : ∃ z : Int, z = (gI es20 3 8).toInt := ⟨_, rfl⟩
          rw [← e_v22]
          have r_v22 : iLO ≤ v22 ∧ v22 ≤ iHI := by rw [e_v22]; exact i32_rng _
          unfold iLO iHI at r_v22
          refine x0 (r := (58, [some (.ref 67), some (.int (zI k))], [.int (zI (-1043)), .int (zI v22)], es20)) i_95_55 (by rfl) ?_
          by_cases c23 : v22 = (-1043)
          · refine x_cmpT i_95_58 (by unfold i32 iLO iHI; omega) (by unfold i32 iLO iHI; omega) rfl (by simp only [zC, cR]; omega) ?_
            refine x0 (r := (64, [some (.ref 67), some (.int (zI k))], [.ref 67], es20)) i_95_63 rfl ?_
            refine x_call (vs := [.ref 67]) (rs := []) i_95_64 rfl (fun _ => rfl) rfl rfl rfl rfl rfl (pCall_v (p := 3) hs_es20 rfl rfl rfl rfl rfl (by decide) rfl rfl rfl rfl rfl) ?_
            show aW _ _ _ _ _ _ (0, [some (.ref 67)], [], es20)
            refine paH hs_es20 hT_es20 hr_es20 (by omega) (fun es24 p_es24 => ?_)
            have hs_es24 : sh es24 := p_es24.1
            have hT_es24 : hOK tT es24 := p_es24.2.1
            have f_es24 := paH_f p_es24
            have hr_es24 : tkH R n0 cn es24 := p_es24.2.2.1
            show aW _ _ _ _ _ _ (67, [some (.ref 67), some (.int (zI k))], [], es24)
            refine x_iinc (x := k) i_95_67 rfl (by show 1 < 2; decide) ?_
            show aW _ _ _ _ _ _ (70, [some (.ref 67), some (.int (zI (k + 1)))], [], es24)
            refine x0 (r := (2, [some (.ref 67), some (.int (zI (k + 1)))], [], es24)) i_95_70 rfl ?_
            exact K7 c1 v4 e_v4 c5 c16 es19 p_es19 es20 p_es20 c21 v22 e_v22 c23 es24 p_es24
          · refine x_cmpF i_95_58 (by unfold i32 iLO iHI; omega) (by unfold i32 iLO iHI; omega) rfl (by simp only [zC, cR]; omega) ?_
            refine x0 (r := (62, [some (.ref 67), some (.int (zI k))], [.int (zI 1)], es20)) i_95_61 (by rfl) ?_
            refine x_ret (v := some (.int (zI 1))) i_95_62 rfl (fun _ => rfl) rfl rfl (pFin_b (by omega)) ?_
            exact K8 c1 v4 e_v4 c5 c16 es19 p_es19 es20 p_es20 c21 v22 e_v22 c23
        · refine x_ifF i_95_41 (by unfold i32 iLO iHI; omega) rfl (by simp only [zC, cR]; omega) ?_
          refine x0 (r := (45, [some (.ref 67), some (.int (zI k))], [.ref 67], es20)) i_95_44 rfl ?_
          refine x0 (r := (48, [some (.ref 67), some (.int (zI k))], [.int (zI (-1043)), .ref 67], es20)) i_95_45 (by rfl) ?_
          refine x_call (vs := [.ref 67, .int (zI (-1043))]) (rs := []) i_95_48 rfl (fun _ => rfl) rfl rfl rfl rfl rfl (pCall_v (p := 3) hs_es20 rfl rfl rfl rfl rfl (by decide) rfl rfl rfl rfl rfl) ?_
          show aW _ _ _ _ _ _ (0, [some (.ref 67), some (.int (zI (-1043)))], [], es20)
          refine emH hs_es20 hT_es20 hr_es20 (fun es25 p_es25 => ?_)
          have hs_es25 : sh es25 := p_es25.1
          have hT_es25 : hOK tT es25 := p_es25.2.1
          have f_es25 := emH_f p_es25
          have hr_es25 : tkH R n0 cn es25 := p_es25.2.2.1
          show aW _ _ _ _ _ _ (51, [some (.ref 67), some (.int (zI k))], [], es25)
          refine x0 (r := (52, [some (.ref 67), some (.int (zI k))], [.ref 67], es25)) i_95_51 rfl ?_
          refine x_geti (p := 3) i_95_52 hs_es25 rfl rfl ?_
          obtain ⟨v26, e_v26⟩ : ∃ z : Int, z = (gI es25 3 8).toInt := ⟨_, rfl⟩
          rw [← e_v26]
          have r_v26 : iLO ≤ v26 ∧ v26 ≤ iHI := by rw [e_v26]; exact i32_rng _
          unfold iLO iHI at r_v26
          refine x0 (r := (58, [some (.ref 67), some (.int (zI k))], [.int (zI (-1043)), .int (zI v26)], es25)) i_95_55 (by rfl) ?_
          by_cases c27 : v26 = (-1043)
          · refine x_cmpT i_95_58 (by unfold i32 iLO iHI; omega) (by unfold i32 iLO iHI; omega) rfl (by simp only [zC, cR]; omega) ?_
            refine x0 (r := (64, [some (.ref 67), some (.int (zI k))], [.ref 67], es25)) i_95_63 rfl ?_
            refine x_call (vs := [.ref 67]) (rs := []) i_95_64 rfl (fun _ => rfl) rfl rfl rfl rfl rfl (pCall_v (p := 3) hs_es25 rfl rfl rfl rfl rfl (by decide) rfl rfl rfl rfl rfl) ?_
            show aW _ _ _ _ _ _ (0, [some (.ref 67)], [], es25)
            refine paH hs_es25 hT_es25 hr_es25 (by omega) (fun es28 p_es28 => ?_)
            have hs_es28 : sh es28 := p_es28.1
            have hT_es28 : hOK tT es28 := p_es28.2.1
            have f_es28 := paH_f p_es28
            have hr_es28 : tkH R n0 cn es28 := p_es28.2.2.1
            show aW _ _ _ _ _ _ (67, [some (.ref 67), some (.int (zI k))], [], es28)
            refine x_iinc (x := k) i_95_67 rfl (by show 1 < 2; decide) ?_
            show aW _ _ _ _ _ _ (70, [some (.ref 67), some (.int (zI (k + 1)))], [], es28)
            refine x0 (r := (2, [some (.ref 67), some (.int (zI (k + 1)))], [], es28)) i_95_70 rfl ?_
            exact K9 c1 v4 e_v4 c5 c16 es19 p_es19 es20 p_es20 c21 es25 p_es25 v26 e_v26 c27 es28 p_es28
          · refine x_cmpF i_95_58 (by unfold i32 iLO iHI; omega) (by unfold i32 iLO iHI; omega) rfl (by simp only [zC, cR]; omega) ?_
            refine x0 (r := (62, [some (.ref 67), some (.int (zI k))], [.int (zI 1)], es25)) i_95_61 (by rfl) ?_
            refine x_ret (v := some (.int (zI 1))) i_95_62 rfl (fun _ => rfl) rfl rfl (pFin_b (by omega)) ?_
            exact K10 c1 v4 e_v4 c5 c16 es19 p_es19 es20 p_es20 c21 es25 p_es25 v26 e_v26 c27
section
variable {O : pOut} {d kc ks : Nat} {Q : pRes → Prop} {es : PH} {R : Nat → Int32} {n cn : Nat}
/-- a SUM -/
theorem ms_loop {X : Nat × Bool} (K : ∀ es' v, mrP X R n cn es es' v → Q (.inl (some (.int (zI v))), es', kc, ks)) : ∀ (N f : Nat) (k : Int) (es1 : PH), cn - kT es1 < N → cn - kT es1 ≤ f → 0 ≤ k → k ≤ kT es1 → hOK tT es1 → tkH R n cn es1 → kpH es es1 → kT es ≤ kT es1 → zSu (zR R) n f (zPs (zR R) n (kT es1)) = X → aW O (d + 2) 95 kc ks Q (2, [some (.ref 67), some (.int (zI k))], [], es1) := by
  intro N
  induction N with
  | zero => intro f k es1 hN; omega
  | succ N ih =>
    intro f k es1 hN hf h0 hk hT ht hkp hle hX
    have htk := tkH_tok ht
    have hcl := tkH_le ht
    have bad : zCod (zR R) n (zPs (zR R) n (kT es1)) < -4 → ∀ es2 v, flHP R n cn es1 es2 v → Q (.inl (some (.int (zI v))), es2, kc, ks) := by
      intro hc es2 v p
      rw [zSu_no hc] at hX
      exact K es2 v (mrP_no hX.symm p rfl)
    have part : ¬ zCod (zR R) n (zPs (zR R) n (kT es1)) < -4 → kT es1 < cn ∧ ∃ f', f = f' + 1 ∧ zSt (zR R) n f' (zPs (zR R) n (kT es1 + 1)) = X := by
      intro hc
      have hlt := tkH_lt ht (by omega)
      obtain ⟨f', rfl⟩ : ∃ f', f = f' + 1 := ⟨f - 1, by omega⟩
      rw [zSu_st hc] at hX
      exact ⟨hlt, f', rfl, hX⟩
    -- no + behind it
    have stop : ¬ zCod (zR R) n (zPs (zR R) n (kT es1)) < -4 → ∀ es2, hOK tT es2 → tkH R n cn es2 → kT es2 = kT es1 + 1 → kpH es1 es2 → ¬ (gI es2 3 8).toInt = -1043 → Q (.inl (some (.int (zI 1))), es2, kc, ks) := by
      intro hc es2 hT2 ht2 hk2 hkp2 hne
      obtain ⟨hlt, f', hff, hX2⟩ := part hc
      have htk2 := tkH_tok ht2
      rw [hk2] at htk2
      rw [zSt_n (by omega)] at hX2
      exact K es2 1 (mrP_ok hX2.symm hT2 ht2 (by rw [hk2]) (kpH_t hkp hkp2) (by omega))
    -- a + behind it
    have go : ¬ zCod (zR R) n (zPs (zR R) n (kT es1)) < -4 → ∀ es2 es3, tkH R n cn es2 → kT es2 = kT es1 + 1 → (gI es2 3 8).toInt = -1043 → paHP R n cn es2 es3 → kpH es1 es2 → aW O (d + 2) 95 kc ks Q (2, [some (.ref 67), some (.int (zI (k + 1)))], [], es3) := by
      intro hc es2 es3 ht2 hk2 hpl p3 hkp2
      obtain ⟨hlt, f', hff, hX2⟩ := part hc
      have htk2 := tkH_tok ht2
      rw [hk2] at htk2
      rw [zSt_y (by omega), ← zPs_nn] at hX2
      obtain ⟨q1, q2, q3, q4, q5, q6⟩ := p3
      have hlt2 := tkH_lt ht2 (by omega)
      exact ih f' (k + 1) es3 (by omega) (by omega) (by omega) (by omega) q2 q3 (kpH_t hkp (kpH_t hkp2 q5)) (by omega) (by rw [q4, hk2]; exact hX2)
    refine s_ms2 (d := d) (k := k) (sh_of hT) ⟨h0, by omega⟩ (tkH_bd ht) hT ht (fun c1 es2 v3 p3 => ?_) (fun c1 v4 e4 c5 es6 p6 es7 p7 c8 v9 e9 c10 es11 p11 => ?_) (fun c1 v4 e4 c5 es6 p6 es7 p7 c8 v9 e9 c10 => ?_) (fun c1 v4 e4 c5 es6 p6 es7 p7 c8 es12 p12 v13 e13 c14 es15 p15 => ?_) (fun c1 v4 e4 c5 es6 p6 es7 p7 c8 es12 p12 v13 e13 c14 => ?_) (fun c1 v4 e4 c5 c16 es17 v18 p18 => ?_) (fun c1 v4 e4 c5 c16 es19 p19 es20 p20 c21 v22 e22 c23 es24 p24 => ?_) (fun c1 v4 e4 c5 c16 es19 p19 es20 p20 c21 v22 e22 c23 => ?_) (fun c1 v4 e4 c5 c16 es19 p19 es20 p20 c21 es25 p25 v26 e26 c27 es28 p28 => ?_) (fun c1 v4 e4 c5 c16 es19 p19 es20 p20 c21 es25 p25 v26 e26 c27 => ?_)
    · have := tkH_end ht (by omega)
      exact bad (by omega) es2 v3 p3
    · exact go (by omega) es7 es11 p7.2.2.1 (by rw [p7.2.2.2.1, p6.2.2.2.1]) (by omega) p11 (kpH_t p6.2.2.2.2.1 p7.2.2.2.2.1)
    · exact stop (by omega) es7 p7.2.1 p7.2.2.1 (by rw [p7.2.2.2.1, p6.2.2.2.1]) (kpH_t p6.2.2.2.2.1 p7.2.2.2.2.1) (by omega)
    · exact go (by omega) es12 es15 p12.2.2.1 (by rw [p12.2.2.2.1, p7.2.2.2.1, p6.2.2.2.1]) (by omega) p15 (kpH_t (kpH_t p6.2.2.2.2.1 p7.2.2.2.2.1) p12.2.2.2.2.1)
    · exact stop (by omega) es12 p12.2.1 p12.2.2.1 (by rw [p12.2.2.2.1, p7.2.2.2.1, p6.2.2.2.1]) (kpH_t (kpH_t p6.2.2.2.2.1 p7.2.2.2.2.1) p12.2.2.2.2.1) (by omega)
    · exact bad (by omega) es17 v18 p18
    · exact go (by omega) es20 es24 p20.2.2.1 (by rw [p20.2.2.2.1, p19.2.2.2.1]) (by omega) p24 (kpH_t p19.2.2.2.2.1 p20.2.2.2.2.1)
    · exact stop (by omega) es20 p20.2.1 p20.2.2.1 (by rw [p20.2.2.2.1, p19.2.2.2.1]) (kpH_t p19.2.2.2.2.1 p20.2.2.2.2.1) (by omega)
    · exact go (by omega) es25 es28 p25.2.2.1 (by rw [p25.2.2.2.1, p20.2.2.2.1, p19.2.2.2.1]) (by omega) p28 (kpH_t (kpH_t p19.2.2.2.2.1 p20.2.2.2.2.1) p25.2.2.2.2.1)
    · exact stop (by omega) es25 p25.2.1 p25.2.2.1 (by rw [p25.2.2.2.1, p20.2.2.2.1, p19.2.2.2.1]) (kpH_t (kpH_t p19.2.2.2.2.1 p20.2.2.2.2.1) p25.2.2.2.2.1) (by omega)
theorem ms_spec {F : Nat} (hF : 400 ≤ F) (hT : hOK tT es) (ht : tkH R n cn es) (K : ∀ es' v, mrP (zSu (zR R) n F (zPs (zR R) n (kT es))) R n cn es es' v → Q (.inl (some (.int (zI v))), es', kc, ks)) : aW O (d + 2) 95 kc ks Q (0, [some (.ref 67), none], [], es) :=
  s_ms0 (d := d + 2) (sh_of hT) (tkH_bd ht) hT ht (ms_loop K _ F 0 es (Nat.lt_succ_self _) (by have := tkH_le ht; omega) (by omega) (by omega) hT ht (kpH_r es) (Nat.le_refl _) rfl)
theorem c_ms {F j pc k : Nat} {L : PL} {ret : Option FieldType} (hi : iRow j pc = some (.invokevirtual 120, k, 95, 1, ret)) (hF : 400 ≤ F) (hT : hOK tT es) (ht : tkH R n cn es) (K : ∀ es' v, mrP (zSu (zR R) n F (zPs (zR R) n (kT es))) R n cn es es' v → aW O (d + 3) j kc ks Q (pc + 3, L, [.int (zI v)], es')) : aW O (d + 3) j kc ks Q (pc, L, [.ref 67], es) := by
  refine x_call (vs := [.ref 67]) (rs := []) hi rfl (fun _ => rfl) rfl rfl rfl rfl rfl (pCall_v (p := 3) (sh_of hT) rfl rfl rfl rfl rfl (by decide) rfl rfl rfl rfl rfl) ?_
  show aW _ _ _ _ _ _ (0, [some (.ref 67), none], [], es)
  exact ms_spec (d := d) hF hT ht (fun es' v h => K es' v h)
end
