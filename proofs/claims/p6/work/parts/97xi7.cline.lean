/-! MEASURE, by the document's tokens; printed by wip/rel/meas.py -/
theorem s_ml0 {O : pOut} {d kc ks : Nat} {Q : pRes → Prop} {es : PH} {R : Nat → Int32} {n0 cn : Nat} (hs_es : sh es) (ht : -3000 ≤ (gI es 3 8).toInt ∧ (gI es 3 8).toInt ≤ 999) (hT_es : hOK tT es) (hr_es : tkH R n0 cn es)
    (K1 : ∀ v1 : Int, v1 = (gI es 3 8).toInt → v1 = (-10) → ∀ es3 : PH, paHP R n0 cn  es es3 → ∀ v4 : Int, v4 = (gI es3 3 8).toInt → 0 ≤ v4 → ∀ es6 : PH, emHP R n0 cn v4 es3 es6 → ∀ es7 : PH, paHP R n0 cn  es6 es7 → ∀ v8 : Int, v8 = (gI es7 3 8).toInt → v8 ≠ (-1042) → v8 ≠ (-11) → ∀ es11 : PH, emHP R n0 cn (-10) es7 es11 → Q (.inl (some (.int (zI 1))), es11, kc, ks))
    (K2 : ∀ v1 : Int, v1 = (gI es 3 8).toInt → v1 = (-10) → ∀ es3 : PH, paHP R n0 cn  es es3 → ∀ v4 : Int, v4 = (gI es3 3 8).toInt → 0 ≤ v4 → ∀ es6 : PH, emHP R n0 cn v4 es3 es6 → ∀ es7 : PH, paHP R n0 cn  es6 es7 → ∀ v8 : Int, v8 = (gI es7 3 8).toInt → v8 ≠ (-1042) → ¬ (v8 ≠ (-11)) → ∀ es12 : PH, paHP R n0 cn  es7 es12 → aW O (d + 2) 87 kc ks Q (102, [some (.ref 67)], [.int (zI 0), .ref 67], es12))
    (K3 : ∀ v1 : Int, v1 = (gI es 3 8).toInt → v1 = (-10) → ∀ es3 : PH, paHP R n0 cn  es es3 → ∀ v4 : Int, v4 = (gI es3 3 8).toInt → 0 ≤ v4 → ∀ es6 : PH, emHP R n0 cn v4 es3 es6 → ∀ es7 : PH, paHP R n0 cn  es6 es7 → ∀ v8 : Int, v8 = (gI es7 3 8).toInt → ¬ (v8 ≠ (-1042)) → ∀ es13 : PH, paHP R n0 cn  es7 es13 → ∀ v14 : Int, v14 = (gI es13 3 8).toInt → (-1) < v14 → ∀ es16 : PH, ∀ v17 : Int, flHP R n0 cn  es13 es16 v17 → Q (.inl (some (.int (zI v17))), es16, kc, ks))
    (K4 : ∀ v1 : Int, v1 = (gI es 3 8).toInt → v1 = (-10) → ∀ es3 : PH, paHP R n0 cn  es es3 → ∀ v4 : Int, v4 = (gI es3 3 8).toInt → 0 ≤ v4 → ∀ es6 : PH, emHP R n0 cn v4 es3 es6 → ∀ es7 : PH, paHP R n0 cn  es6 es7 → ∀ v8 : Int, v8 = (gI es7 3 8).toInt → ¬ (v8 ≠ (-1042)) → ∀ es13 : PH, paHP R n0 cn  es7 es13 → ∀ v14 : Int, v14 = (gI es13 3 8).toInt → ¬ ((-1) < v14) → v14 < (-4) → ∀ es19 : PH, ∀ v20 : Int, flHP R n0 cn  es13 es19 v20 → Q (.inl (some (.int (zI v20))), es19, kc, ks))
    (K5 : ∀ v1 : Int, v1 = (gI es 3 8).toInt → v1 = (-10) → ∀ es3 : PH, paHP R n0 cn  es es3 → ∀ v4 : Int, v4 = (gI es3 3 8).toInt → 0 ≤ v4 → ∀ es6 : PH, emHP R n0 cn v4 es3 es6 → ∀ es7 : PH, paHP R n0 cn  es6 es7 → ∀ v8 : Int, v8 = (gI es7 3 8).toInt → ¬ (v8 ≠ (-1042)) → ∀ es13 : PH, paHP R n0 cn  es7 es13 → ∀ v14 : Int, v14 = (gI es13 3 8).toInt → ¬ ((-1) < v14) → ¬ (v14 < (-4)) → ∀ es21 : PH, emHP R n0 cn v14 es13 es21 → ∀ es22 : PH, emHP R n0 cn (-1042) es21 es22 → ∀ es23 : PH, paHP R n0 cn  es22 es23 → ∀ v24 : Int, v24 = (gI es23 3 8).toInt → v24 ≠ (-11) → ∀ es26 : PH, emHP R n0 cn (-10) es23 es26 → Q (.inl (some (.int (zI 1))), es26, kc, ks))
    (K6 : ∀ v1 : Int, v1 = (gI es 3 8).toInt → v1 = (-10) → ∀ es3 : PH, paHP R n0 cn  es es3 → ∀ v4 : Int, v4 = (gI es3 3 8).toInt → 0 ≤ v4 → ∀ es6 : PH, emHP R n0 cn v4 es3 es6 → ∀ es7 : PH, paHP R n0 cn  es6 es7 → ∀ v8 : Int, v8 = (gI es7 3 8).toInt → ¬ (v8 ≠ (-1042)) → ∀ es13 : PH, paHP R n0 cn  es7 es13 → ∀ v14 : Int, v14 = (gI es13 3 8).toInt → ¬ ((-1) < v14) → ¬ (v14 < (-4)) → ∀ es21 : PH, emHP R n0 cn v14 es13 es21 → ∀ es22 : PH, emHP R n0 cn (-1042) es21 es22 → ∀ es23 : PH, paHP R n0 cn  es22 es23 → ∀ v24 : Int, v24 = (gI es23 3 8).toInt → ¬ (v24 ≠ (-11)) → ∀ es27 : PH, paHP R n0 cn  es23 es27 → aW O (d + 2) 87 kc ks Q (102, [some (.ref 67)], [.int (zI 0), .ref 67], es27))
    (K7 : ∀ v1 : Int, v1 = (gI es 3 8).toInt → v1 = (-10) → ∀ es3 : PH, paHP R n0 cn  es es3 → ∀ v4 : Int, v4 = (gI es3 3 8).toInt → ¬ (0 ≤ v4) → ∀ es28 : PH, ∀ v29 : Int, flHP R n0 cn  es3 es28 v29 → Q (.inl (some (.int (zI v29))), es28, kc, ks))
    (K8 : ∀ v1 : Int, v1 = (gI es 3 8).toInt → ¬ (v1 = (-10)) → ∀ es30 : PH, ∀ v31 : Int, flHP R n0 cn  es es30 v31 → Q (.inl (some (.int (zI v31))), es30, kc, ks)) :
    aW O (d + 2) 87 kc ks Q (0, [some (.ref 67)], [], es) := by
  refine x0 (r := (1, [some (.ref 67)], [.ref 67], es)) i_87_0 rfl ?_
  refine x_geti (p := 3) i_87_1 hs_es rfl rfl ?_
  obtain ⟨v1, e_v1⟩ : ∃ z : Int, z = (gI es 3 8).toInt := ⟨_, rfl⟩
  rw [← e_v1]
  have r_v1 : iLO ≤ v1 ∧ v1 ≤ iHI := by rw [e_v1]; exact i32_rng _
  unfold iLO iHI at r_v1
  refine x0 (r := (6, [some (.ref 67)], [.int (zI (-10)), .int (zI v1)], es)) i_87_4 (by rfl) ?_
  by_cases c2 : v1 = (-10)
  · refine x_cmpT i_87_6 (by unfold i32 iLO iHI; omega) (by unfold i32 iLO iHI; omega) rfl (by simp only [zC, cR]; omega) ?_
    refine x0 (r := (15, [some (.ref 67)], [.ref 67], es)) i_87_14 rfl ?_
    refine x_call (vs := [.ref 67]) (rs := []) i_87_15 rfl (fun _ => rfl) rfl rfl rfl rfl rfl (pCall_v (p := 3) hs_es rfl rfl rfl rfl rfl (by decide) rfl rfl rfl rfl rfl) ?_
    show aW _ _ _ _ _ _ (0, [some (.ref 67)], [], es)
    refine paH hs_es hT_es hr_es (by omega) (fun es3 p_es3 => ?_)
    have hs_es3 : sh es3 := p_es3.1
    have hT_es3 : hOK tT es3 := p_es3.2.1
    have f_es3 := paH_f p_es3
    have hr_es3 : tkH R n0 cn es3 := p_es3.2.2.1
    show aW _ _ _ _ _ _ (18, [some (.ref 67)], [], es3)
    refine x0 (r := (19, [some (.ref 67)], [.ref 67], es3)) i_87_18 rfl ?_
    refine x_geti (p := 3) i_87_19 hs_es3 rfl rfl ?_
    obtain ⟨v4, e_v4⟩ : ∃ z : Int, z = (gI es3 3 8).toInt := ⟨_, rfl⟩
    rw [← e_v4]
    have r_v4 : iLO ≤ v4 ∧ v4 ≤ iHI := by rw [e_v4]; exact i32_rng _
    unfold iLO iHI at r_v4
    by_cases c5 : 0 ≤ v4
    · refine x_ifT i_87_22 (by unfold i32 iLO iHI; omega) rfl (by simp only [zC, cR]; omega) ?_
      refine x0 (r := (31, [some (.ref 67)], [.ref 67], es3)) i_87_30 rfl ?_
      refine x0 (r := (32, [some (.ref 67)], [.ref 67, .ref 67], es3)) i_87_31 rfl ?_
      refine x_geti (p := 3) i_87_32 hs_es3 rfl rfl ?_
      rw [show (gI es3 3 8).toInt = v4 from e_v4.symm]
      refine x_call (vs := [.ref 67, .int (zI v4)]) (rs := []) i_87_35 rfl (fun _ => rfl) rfl rfl rfl rfl rfl (pCall_v (p := 3) hs_es3 rfl rfl rfl rfl rfl (by decide) rfl rfl rfl rfl rfl) ?_
      show aW _ _ _ _ _ _ (0, [some (.ref 67), some (.int (zI v4))], [], es3)
      refine emH hs_es3 hT_es3 hr_es3 (fun es6 p_es6 => ?_)
      have hs_es6 : sh es6 := p_es6.1
      have hT_es6 : hOK tT es6 := p_es6.2.1
      have f_es6 := emH_f p_es6
      have hr_es6 : tkH R n0 cn es6 := p_es6.2.2.1
      show aW _ _ _ _ _ _ (38, [some (.ref 67)], [], es6)
      refine x0 (r := (39, [some (.ref 67)], [.ref 67], es6)) i_87_38 rfl ?_
      refine x_call (vs := [.ref 67]) (rs := []) i_87_39 rfl (fun _ => rfl) rfl rfl rfl rfl rfl (pCall_v (p := 3) hs_es6 rfl rfl rfl rfl rfl (by decide) rfl rfl rfl rfl rfl) ?_
      show aW _ _ _ _ _ _ (0, [some (.ref 67)], [], es6)
      refine paH hs_es6 hT_es6 hr_es6 (by omega) (fun es7 p_es7 => ?_)
      have hs_es7 : sh es7 := p_es7.1
      have hT_es7 : hOK tT es7 := p_es7.2.1
      have f_es7 := paH_f p_es7
      have hr_es7 : tkH R n0 cn es7 := p_es7.2.2.1
      show aW _ _ _ _ _ _ (42, [some (.ref 67)], [], es7)
      refine x0 (r := (43, [some (.ref 67)], [.ref 67], es7)) i_87_42 rfl ?_
      refine x_geti (p := 3) i_87_43 hs_es7 rfl rfl ?_
      obtain ⟨v8, e_v8⟩ : ∃ z : Int, z = (gI es7 3 8).toInt := ⟨_, rfl⟩
      rw [← e_v8]
      have r_v8 : iLO ≤ v8 ∧ v8 ≤ iHI := by rw [e_v8]; exact i32_rng _
      unfold iLO iHI at r_v8
      refine x0 (r := (49, [some (.ref 67)], [.int (zI (-1042)), .int (zI v8)], es7)) i_87_46 (by rfl) ?_
      by_cases c9 : v8 ≠ (-1042)
      · refine x_cmpT i_87_49 (by unfold i32 iLO iHI; omega) (by unfold i32 iLO iHI; omega) rfl (by simp only [zC, cR]; omega) ?_
        refine x0 (r := (88, [some (.ref 67)], [.ref 67], es7)) i_87_87 rfl ?_
        refine x_geti (p := 3) i_87_88 hs_es7 rfl rfl ?_
        rw [show (gI es7 3 8).toInt = v8 from e_v8.symm]
        refine x0 (r := (93, [some (.ref 67)], [.int (zI (-11)), .int (zI v8)], es7)) i_87_91 (by rfl) ?_
        by_cases c10 : v8 ≠ (-11)
        · refine x_cmpT i_87_93 (by unfold i32 iLO iHI; omega) (by unfold i32 iLO iHI; omega) rfl (by simp only [zC, cR]; omega) ?_
          refine x0 (r := (117, [some (.ref 67)], [.ref 67], es7)) i_87_116 rfl ?_
          refine x0 (r := (119, [some (.ref 67)], [.int (zI (-10)), .ref 67], es7)) i_87_117 (by rfl) ?_
          refine x_call (vs := [.ref 67, .int (zI (-10))]) (rs := []) i_87_119 rfl (fun _ => rfl) rfl rfl rfl rfl rfl (pCall_v (p := 3) hs_es7 rfl rfl rfl rfl rfl (by decide) rfl rfl rfl rfl rfl) ?_
          show aW _ _ _ _ _ _ (0, [some (.ref 67), some (.int (zI (-10)))], [], es7)
          refine emH hs_es7 hT_es7 hr_es7 (fun es11 p_es11 => ?_)
          have hs_es11 : sh es11 := p_es11.1
          have hT_es11 : hOK tT es11 := p_es11.2.1
          have f_es11 := emH_f p_es11
          have hr_es11 : tkH R n0 cn es11 := p_es11.2.2.1
          show aW _ _ _ _ _ _ (122, [some (.ref 67)], [], es11)
          refine x0 (r := (123, [some (.ref 67)], [.int (zI 1)], es11)) i_87_122 (by rfl) ?_
          refine x_ret (v := some (.int (zI 1))) i_87_123 rfl (fun _ => rfl) rfl rfl (pFin_b (by omega)) ?_
          exact K1 v1 e_v1 c2 es3 p_es3 v4 e_v4 c5 es6 p_es6 es7 p_es7 v8 e_v8 c9 c10 es11 p_es11
        · refine x_cmpF i_87_93 (by unfold i32 iLO iHI; omega) (by unfold i32 iLO iHI; omega) rfl (by simp only [zC, cR]; omega) ?_
          refine x0 (r := (97, [some (.ref 67)], [.ref 67], es7)) i_87_96 rfl ?_
          refine x_call (vs := [.ref 67]) (rs := []) i_87_97 rfl (fun _ => rfl) rfl rfl rfl rfl rfl (pCall_v (p := 3) hs_es7 rfl rfl rfl rfl rfl (by decide) rfl rfl rfl rfl rfl) ?_
          show aW _ _ _ _ _ _ (0, [some (.ref 67)], [], es7)
          refine paH hs_es7 hT_es7 hr_es7 (by omega) (fun es12 p_es12 => ?_)
          have hs_es12 : sh es12 := p_es12.1
          have hT_es12 : hOK tT es12 := p_es12.2.1
          have f_es12 := paH_f p_es12
          have hr_es12 : tkH R n0 cn es12 := p_es12.2.2.1
          show aW _ _ _ _ _ _ (100, [some (.ref 67)], [], es12)
          refine x0 (r := (101, [some (.ref 67)], [.ref 67], es12)) i_87_100 rfl ?_
          refine x0 (r := (102, [some (.ref 67)], [.int (zI 0), .ref 67], es12)) i_87_101 (by rfl) ?_
          exact K2 v1 e_v1 c2 es3 p_es3 v4 e_v4 c5 es6 p_es6 es7 p_es7 v8 e_v8 c9 c10 es12 p_es12
      · refine x_cmpF i_87_49 (by unfold i32 iLO iHI; omega) (by unfold i32 iLO iHI; omega) rfl (by simp only [zC, cR]; omega) ?_
        refine x0 (r := (53, [some (.ref 67)], [.ref 67], es7)) i_87_52 rfl ?_
        refine x_call (vs := [.ref 67]) (rs := []) i_87_53 rfl (fun _ => rfl) rfl rfl rfl rfl rfl (pCall_v (p := 3) hs_es7 rfl rfl rfl rfl rfl (by decide) rfl rfl rfl rfl rfl) ?_
        show aW _ _ _ _ _ _ (0, [some (.ref 67)], [], es7)
        refine paH hs_es7 hT_es7 hr_es7 (by omega) (fun es13 p_es13 => ?_)
        have hs_es13 : sh es13 := p_es13.1
        have hT_es13 : hOK tT es13 := p_es13.2.1
        have f_es13 := paH_f p_es13
        have hr_es13 : tkH R n0 cn es13 := p_es13.2.2.1
        show aW _ _ _ _ _ _ (56, [some (.ref 67)], [], es13)
        refine x0 (r := (57, [some (.ref 67)], [.ref 67], es13)) i_87_56 rfl ?_
        refine x_call (vs := [.ref 67]) (rs := []) i_87_57 rfl (fun _ => rfl) rfl rfl rfl rfl rfl (pCall_v (p := 3) hs_es13 rfl rfl rfl rfl rfl (by decide) rfl rfl rfl rfl rfl) ?_
        show aW _ _ _ _ _ _ (0, [some (.ref 67)], [], es13)
        refine x0 (r := (1, [some (.ref 67)], [.ref 67], es13)) i_91_0 rfl ?_
        refine x_geti (p := 3) i_91_1 hs_es13 rfl rfl ?_
        obtain ⟨v14, e_v14⟩ : ∃ z : Int, z = (gI es13 3 8).toInt := ⟨_, rfl⟩
        rw [← e_v14]
        have r_v14 : iLO ≤ v14 ∧ v14 ≤ iHI := by rw [e_v14]; exact i32_rng _
        unfold iLO iHI at r_v14
        refine x0 (r := (5, [some (.ref 67)], [.int (zI (-1)), .int (zI v14)], es13)) i_91_4 (by rfl) ?_
        by_cases c15 : (-1) < v14
        · refine x_cmpT i_91_5 (by unfold i32 iLO iHI; omega) (by unfold i32 iLO iHI; omega) rfl (by simp only [zC, cR]; omega) ?_
          refine x0 (r := (22, [some (.ref 67)], [.int (zI 0)], es13)) i_91_21 (by rfl) ?_
          refine x_ret (v := some (.int (zI 0))) i_91_22 rfl (fun _ => rfl) rfl rfl (pFin_b (by omega)) ?_
          show aW _ _ _ _ _ _ (60, [some (.ref 67)], [.int (zI 0)], es13)
          refine x_ifF i_87_60 (by unfold i32 iLO iHI; omega) rfl (by simp only [zC, cR]; omega) ?_
          refine x0 (r := (64, [some (.ref 67)], [.ref 67], es13)) i_87_63 rfl ?_
          refine x_call (vs := [.ref 67]) (rs := []) i_87_64 rfl (fun _ => rfl) rfl rfl rfl rfl rfl (pCall_v (p := 3) hs_es13 rfl rfl rfl rfl rfl (by decide) rfl rfl rfl rfl rfl) ?_
          show aW _ _ _ _ _ _ (0, [some (.ref 67)], [], es13)
          refine flH hs_es13 hT_es13 hr_es13 (fun es16 v17 p_es16 => ?_)
          have hs_es16 : sh es16 := p_es16.1
          have hT_es16 : hOK tT es16 := p_es16.2.1
          have hr_es16 : tkH R n0 cn es16 := p_es16.2.2.1
          have r_v17 := flH_v p_es16
          show aW _ _ _ _ _ _ (67, [some (.ref 67)], [.int (zI v17)], es16)
          refine x_ret (v := some (.int (zI v17))) i_87_67 rfl (fun _ => rfl) rfl rfl (pFin_b (by omega)) ?_
          exact K3 v1 e_v1 c2 es3 p_es3 v4 e_v4 c5 es6 p_es6 es7 p_es7 v8 e_v8 c9 es13 p_es13 v14 e_v14 c15 es16 v17 p_es16
        · refine x_cmpF i_91_5 (by unfold i32 iLO iHI; omega) (by unfold i32 iLO iHI; omega) rfl (by simp only [zC, cR]; omega) ?_
          refine x0 (r := (9, [some (.ref 67)], [.ref 67], es13)) i_91_8 rfl ?_
          refine x_geti (p := 3) i_91_9 hs_es13 rfl rfl ?_
          rw [show (gI es13 3 8).toInt = v14 from e_v14.symm]
          refine x0 (r := (14, [some (.ref 67)], [.int (zI (-4)), .int (zI v14)], es13)) i_91_12 (by rfl) ?_
          by_cases c18 : v14 < (-4)
          · refine x_cmpT i_91_14 (by unfold i32 iLO iHI; omega) (by unfold i32 iLO iHI; omega) rfl (by simp only [zC, cR]; omega) ?_
            refine x0 (r := (22, [some (.ref 67)], [.int (zI 0)], es13)) i_91_21 (by rfl) ?_
            refine x_ret (v := some (.int (zI 0))) i_91_22 rfl (fun _ => rfl) rfl rfl (pFin_b (by omega)) ?_
            show aW _ _ _ _ _ _ (60, [some (.ref 67)], [.int (zI 0)], es13)
            refine x_ifF i_87_60 (by unfold i32 iLO iHI; omega) rfl (by simp only [zC, cR]; omega) ?_
            refine x0 (r := (64, [some (.ref 67)], [.ref 67], es13)) i_87_63 rfl ?_
            refine x_call (vs := [.ref 67]) (rs := []) i_87_64 rfl (fun _ => rfl) rfl rfl rfl rfl rfl (pCall_v (p := 3) hs_es13 rfl rfl rfl rfl rfl (by decide) rfl rfl rfl rfl rfl) ?_
            show aW _ _ _ _ _ _ (0, [some (.ref 67)], [], es13)
            refine flH hs_es13 hT_es13 hr_es13 (fun es19 v20 p_es19 => ?_)
            have hs_es19 : sh es19 := p_es19.1
            have hT_es19 : hOK tT es19 := p_es19.2.1
            have hr_es19 : tkH R n0 cn es19 := p_es19.2.2.1
            have r_v20 := flH_v p_es19
            show aW _ _ _ _ _ _ (67, [some (.ref 67)], [.int (zI v20)], es19)
            refine x_ret (v := some (.int (zI v20))) i_87_67 rfl (fun _ => rfl) rfl rfl (pFin_b (by omega)) ?_
            exact K4 v1 e_v1 c2 es3 p_es3 v4 e_v4 c5 es6 p_es6 es7 p_es7 v8 e_v8 c9 es13 p_es13 v14 e_v14 c15 c18 es19 v20 p_es19
          · refine x_cmpF i_91_14 (by unfold i32 iLO iHI; omega) (by unfold i32 iLO iHI; omega) rfl (by simp only [zC, cR]; omega) ?_
            refine x0 (r := (18, [some (.ref 67)], [.int (zI 1)], es13)) i_91_17 (by rfl) ?_
            refine x0 (r := (22, [some (.ref 67)], [.int (zI 1)], es13)) i_91_18 rfl ?_
            refine x_ret (v := some (.int (zI 1))) i_91_22 rfl (fun _ => rfl) rfl rfl (pFin_b (by omega)) ?_
            show aW _ _ _ _ _ _ (60, [some (.ref 67)], [.int (zI 1)], es13)
            refine x_ifT i_87_60 (by unfold i32 iLO iHI; omega) rfl (by simp only [zC, cR]; omega) ?_
            refine x0 (r := (69, [some (.ref 67)], [.ref 67], es13)) i_87_68 rfl ?_
            refine x0 (r := (70, [some (.ref 67)], [.ref 67, .ref 67], es13)) i_87_69 rfl ?_
            refine x_geti (p := 3) i_87_70 hs_es13 rfl rfl ?_
            rw [show (gI es13 3 8).toInt = v14 from e_v14.symm]
            refine x_call (vs := [.ref 67, .int (zI v14)]) (rs := []) i_87_73 rfl (fun _ => rfl) rfl rfl rfl rfl rfl (pCall_v (p := 3) hs_es13 rfl rfl rfl rfl rfl (by decide) rfl rfl rfl rfl rfl) ?_
            show aW _ _ _ _ _ _ (0, [some (.ref 67), some (.int (zI v14))], [], es13)
            refine emH hs_es13 hT_es13 hr_es13 (fun es21 p_es21 => ?_)
            have hs_es21 : sh es21 := p_es21.1
            have hT_es21 : hOK tT es21 := p_es21.2.1
            have f_es21 := emH_f p_es21
            have hr_es21 : tkH R n0 cn es21 := p_es21.2.2.1
            show aW _ _ _ _ _ _ (76, [some (.ref 67)], [], es21)
            refine x0 (r := (77, [some (.ref 67)], [.ref 67], es21)) i_87_76 rfl ?_
            refine x0 (r := (80, [some (.ref 67)], [.int (zI (-1042)), .ref 67], es21)) i_87_77 (by rfl) ?_
            refine x_call (vs := [.ref 67, .int (zI (-1042))]) (rs := []) i_87_80 rfl (fun _ => rfl) rfl rfl rfl rfl rfl (pCall_v (p := 3) hs_es21 rfl rfl rfl rfl rfl (by decide) rfl rfl rfl rfl rfl) ?_
            show aW _ _ _ _ _ _ (0, [some (.ref 67), some (.int (zI (-1042)))], [], es21)
            refine emH hs_es21 hT_es21 hr_es21 (fun es22 p_es22 => ?_)
            have hs_es22 : sh es22 := p_es22.1
            have hT_es22 : hOK tT es22 := p_es22.2.1
            have f_es22 := emH_f p_es22
            have hr_es22 : tkH R n0 cn es22 := p_es22.2.2.1
            show aW _ _ _ _ _ _ (83, [some (.ref 67)], [], es22)
            refine x0 (r := (84, [some (.ref 67)], [.ref 67], es22)) i_87_83 rfl ?_
            refine x_call (vs := [.ref 67]) (rs := []) i_87_84 rfl (fun _ => rfl) rfl rfl rfl rfl rfl (pCall_v (p := 3) hs_es22 rfl rfl rfl rfl rfl (by decide) rfl rfl rfl rfl rfl) ?_
            show aW _ _ _ _ _ _ (0, [some (.ref 67)], [], es22)
            refine paH hs_es22 hT_es22 hr_es22 (by omega) (fun es23 p_es23 => ?_)
            have hs_es23 : sh es23 := p_es23.1
            have hT_es23 : hOK tT es23 := p_es23.2.1
            have f_es23 := paH_f p_es23
            have hr_es23 : tkH R n0 cn es23 := p_es23.2.2.1
            show aW _ _ _ _ _ _ (87, [some (.ref 67)], [], es23)
            refine x0 (r := (88, [some (.ref 67)], [.ref 67], es23)) i_87_87 rfl ?_
            refine x_geti (p := 3) i_87_88 hs_es23 rfl rfl ?_
            obtain ⟨v24, e_v24⟩ : ∃ z : Int, z = (gI es23 3 8).toInt := ⟨_, rfl⟩
            rw [← e_v24]
            have r_v24 : iLO ≤ v24 ∧ v24 ≤ iHI := by rw [e_v24]; exact i32_rng _
            unfold iLO iHI at r_v24
            refine x0 (r := (93, [some (.ref 67)], [.int (zI (-11)), .int (zI v24)], es23)) i_87_91 (by rfl) ?_
            by_cases c25 : v24 ≠ (-11)
            · refine x_cmpT i_87_93 (by unfold i32 iLO iHI; omega) (by unfold i32 iLO iHI; omega) rfl (by simp only [zC, cR]; omega) ?_
              refine x0 (r := (117, [some (.ref 67)], [.ref 67], es23)) i_87_116 rfl ?_
              refine x0 (r := (119, [some (.ref 67)], [.int (zI (-10)), .ref 67], es23)) i_87_117 (by rfl) ?_
              refine x_call (vs := [.ref 67, .int (zI (-10))]) (rs := []) i_87_119 rfl (fun _ => rfl) rfl rfl rfl rfl rfl (pCall_v (p := 3) hs_es23 rfl rfl rfl rfl rfl (by decide) rfl rfl rfl rfl rfl) ?_
              show aW _ _ _ _ _ _ (0, [some (.ref 67), some (.int (zI (-10)))], [], es23)
              refine emH hs_es23 hT_es23 hr_es23 (fun es26 p_es26 => ?_)
              have hs_es26 : sh es26 := p_es26.1
              have hT_es26 : hOK tT es26 := p_es26.2.1
              have f_es26 := emH_f p_es26
              have hr_es26 : tkH R n0 cn es26 := p_es26.2.2.1
              show aW _ _ _ _ _ _ (122, [some (.ref 67)], [], es26)
              refine x0 (r := (123, [some (.ref 67)], [.int (zI 1)], es26)) i_87_122 (by rfl) ?_
              refine x_ret (v := some (.int (zI 1))) i_87_123 rfl (fun _ => rfl) rfl rfl (pFin_b (by omega)) ?_
              exact K5 v1 e_v1 c2 es3 p_es3 v4 e_v4 c5 es6 p_es6 es7 p_es7 v8 e_v8 c9 es13 p_es13 v14 e_v14 c15 c18 es21 p_es21 es22 p_es22 es23 p_es23 v24 e_v24 c25 es26 p_es26
            · refine x_cmpF i_87_93 (by unfold i32 iLO iHI; omega) (by unfold i32 iLO iHI; omega) rfl (by simp only [zC, cR]; omega) ?_
              refine x0 (r := (97, [some (.ref 67)], [.ref 67], es23)) i_87_96 rfl ?_
              refine x_call (vs := [.ref 67]) (rs := []) i_87_97 rfl (fun _ => rfl) rfl rfl rfl rfl rfl (pCall_v (p := 3) hs_es23 rfl rfl rfl rfl rfl (by decide) rfl rfl rfl rfl rfl) ?_
              show aW _ _ _ _ _ _ (0, [some (.ref 67)], [], es23)
              refine paH hs_es23 hT_es23 hr_es23 (by omega) (fun es27 p_es27 => ?_)
              have hs_es27 : sh es27 := p_es27.1
              have hT_es27 : hOK tT es27 := p_es27.2.1
              have f_es27 := paH_f p_es27
              have hr_es27 : tkH R n0 cn es27 := p_es27.2.2.1
              show aW _ _ _ _ _ _ (100, [some (.ref 67)], [], es27)
              refine x0 (r := (101, [some (.ref 67)], [.ref 67], es27)) i_87_100 rfl ?_
              refine x0 (r := (102, [some (.ref 67)], [.int (zI 0), .ref 67], es27)) i_87_101 (by rfl) ?_
              exact K6 v1 e_v1 c2 es3 p_es3 v4 e_v4 c5 es6 p_es6 es7 p_es7 v8 e_v8 c9 es13 p_es13 v14 e_v14 c15 c18 es21 p_es21 es22 p_es22 es23 p_es23 v24 e_v24 c25 es27 p_es27
    · refine x_ifF i_87_22 (by unfold i32 iLO iHI; omega) rfl (by simp only [zC, cR]; omega) ?_
      refine x0 (r := (26, [some (.ref 67)], [.ref 67], es3)) i_87_25 rfl ?_
      refine x_call (vs := [.ref 67]) (rs := []) i_87_26 rfl (fun _ => rfl) rfl rfl rfl rfl rfl (pCall_v (p := 3) hs_es3 rfl rfl rfl rfl rfl (by decide) rfl rfl rfl rfl rfl) ?_
      show aW _ _ _ _ _ _ (0, [some (.ref 67)], [], es3)
      refine flH hs_es3 hT_es3 hr_es3 (fun es28 v29 p_es28 => ?_)
      have hs_es28 : sh es28 := p_es28.1
      have hT_es28 : hOK tT es28 := p_es28.2.1
      have hr_es28 : tkH R n0 cn es28 := p_es28.2.2.1
      have r_v29 := flH_v p_es28
      show aW _ _ _ _ _ _ (29, [some (.ref 67)], [.int (zI v29)], es28)
      refine x_ret (v := some (.int (zI v29))) i_87_29 rfl (fun _ => rfl) rfl rfl (pFin_b (by omega)) ?_
      exact K7 v1 e_v1 c2 es3 p_es3 v4 e_v4 c5 es28 v29 p_es28
  · refine x_cmpF i_87_6 (by unfold i32 iLO iHI; omega) (by unfold i32 iLO iHI; omega) rfl (by simp only [zC, cR]; omega) ?_
    refine x0 (r := (10, [some (.ref 67)], [.ref 67], es)) i_87_9 rfl ?_
    refine x_call (vs := [.ref 67]) (rs := []) i_87_10 rfl (fun _ => rfl) rfl rfl rfl rfl rfl (pCall_v (p := 3) hs_es rfl rfl rfl rfl rfl (by decide) rfl rfl rfl rfl rfl) ?_
    show aW _ _ _ _ _ _ (0, [some (.ref 67)], [], es)
    refine flH hs_es hT_es hr_es (fun es30 v31 p_es30 => ?_)
    have hs_es30 : sh es30 := p_es30.1
    have hT_es30 : hOK tT es30 := p_es30.2.1
    have hr_es30 : tkH R n0 cn es30 := p_es30.2.2.1
    have r_v31 := flH_v p_es30
    show aW _ _ _ _ _ _ (13, [some (.ref 67)], [.int (zI v31)], es30)
    refine x_ret (v := some (.int (zI v31))) i_87_13 rfl (fun _ => rfl) rfl rfl (pFin_b (by omega)) ?_
    exact K8 v1 e_v1 c2 es30 v31 p_es30
theorem s_ml105 {O : pOut} {d kc ks : Nat} {Q : pRes → Prop} {es : PH} {R : Nat → Int32} {n0 cn : Nat} {v : Int} (hs_es : sh es) (hv : v = 0 ∨ v = 1) (ht : -3000 ≤ (gI es 3 8).toInt ∧ (gI es 3 8).toInt ≤ 999) (hT_es : hOK tT es) (hr_es : tkH R n0 cn es)
    (K1 : v ≠ 0 → ∀ es2 : PH, emHP R n0 cn (-11) es es2 → ∀ es3 : PH, emHP R n0 cn (-10) es2 es3 → Q (.inl (some (.int (zI 1))), es3, kc, ks))
    (K2 : ¬ (v ≠ 0) → Q (.inl (some (.int (zI 0))), es, kc, ks)) :
    aW O (d + 2) 87 kc ks Q (105, [some (.ref 67)], [.int (zI v)], es) := by
  by_cases c1 : v ≠ 0
  · refine x_ifT i_87_105 (by unfold i32 iLO iHI; omega) rfl (by simp only [zC, cR]; omega) ?_
    refine x0 (r := (111, [some (.ref 67)], [.ref 67], es)) i_87_110 rfl ?_
    refine x0 (r := (113, [some (.ref 67)], [.int (zI (-11)), .ref 67], es)) i_87_111 (by rfl) ?_
    refine x_call (vs := [.ref 67, .int (zI (-11))]) (rs := []) i_87_113 rfl (fun _ => rfl) rfl rfl rfl rfl rfl (pCall_v (p := 3) hs_es rfl rfl rfl rfl rfl (by decide) rfl rfl rfl rfl rfl) ?_
    show aW _ _ _ _ _ _ (0, [some (.ref 67), some (.int (zI (-11)))], [], es)
    refine emH hs_es hT_es hr_es (fun es2 p_es2 => ?_)
    have hs_es2 : sh es2 := p_es2.1
    have hT_es2 : hOK tT es2 := p_es2.2.1
    have f_es2 := emH_f p_es2
    have hr_es2 : tkH R n0 cn es2 := p_es2.2.2.1
    show aW _ _ _ _ _ _ (116, [some (.ref 67)], [], es2)
    refine x0 (r := (117, [some (.ref 67)], [.ref 67], es2)) i_87_116 rfl ?_
    refine x0 (r := (119, [some (.ref 67)], [.int (zI (-10)), .ref 67], es2)) i_87_117 (by rfl) ?_
    refine x_call (vs := [.ref 67, .int (zI (-10))]) (rs := []) i_87_119 rfl (fun _ => rfl) rfl rfl rfl rfl rfl (pCall_v (p := 3) hs_es2 rfl rfl rfl rfl rfl (by decide) rfl rfl rfl rfl rfl) ?_
    show aW _ _ _ _ _ _ (0, [some (.ref 67), some (.int (zI (-10)))], [], es2)
    refine emH hs_es2 hT_es2 hr_es2 (fun es3 p_es3 => ?_)
    have hs_es3 : sh es3 := p_es3.1
    have hT_es3 : hOK tT es3 := p_es3.2.1
    have f_es3 := emH_f p_es3
    have hr_es3 : tkH R n0 cn es3 := p_es3.2.2.1
    show aW _ _ _ _ _ _ (122, [some (.ref 67)], [], es3)
    refine x0 (r := (123, [some (.ref 67)], [.int (zI 1)], es3)) i_87_122 (by rfl) ?_
    refine x_ret (v := some (.int (zI 1))) i_87_123 rfl (fun _ => rfl) rfl rfl (pFin_b (by omega)) ?_
    exact K1 c1 es2 p_es2 es3 p_es3
  · refine x_ifF i_87_105 (by unfold i32 iLO iHI; omega) rfl (by simp only [zC, cR]; omega) ?_
    refine x0 (r := (109, [some (.ref 67)], [.int (zI 0)], es)) i_87_108 (by rfl) ?_
    refine x_ret (v := some (.int (zI 0))) i_87_109 rfl (fun _ => rfl) rfl rfl (pFin_b (by omega)) ?_
    exact K2 c1
theorem s_mrd0 {O : pOut} {d kc ks : Nat} {Q : pRes → Prop} {es : PH} (hs_es : sh es) (hT_es : hOK tT es)
    (K1 : ∀ es1 : PH, es1 = sI es 3 2 (.int (zI 0)) → ∀ es2 : PH, es2 = sI es1 3 3 (.int (zI 0)) → ∀ es3 : PH, es3 = sI es2 3 4 (.int (zI (-1))) → aW O d 79 kc ks Q (28, [some (.ref 67), some (.int (zI 1)), some (.int (zI 10)), none, none], [.ref 67], es3)) :
    aW O d 79 kc ks Q (0, [some (.ref 67), some (.int (zI 1)), none, none, none], [], es) := by
  refine x0 (r := (1, [some (.ref 67), some (.int (zI 1)), none, none, none], [.int (zI 1)], es)) i_79_0 rfl ?_
  refine x_ifF i_79_1 (by unfold i32 iLO iHI; omega) rfl (by simp only [zC, cR]; omega) ?_
  refine x0 (r := (6, [some (.ref 67), some (.int (zI 1)), none, none, none], [.int (zI 10)], es)) i_79_4 (by rfl) ?_
  refine x0 (r := (11, [some (.ref 67), some (.int (zI 1)), none, none, none], [.int (zI 10)], es)) i_79_6 rfl ?_
  refine x0 (r := (12, [some (.ref 67), some (.int (zI 1)), some (.int (zI 10)), none, none], [], es)) i_79_11 rfl ?_
  refine x0 (r := (13, [some (.ref 67), some (.int (zI 1)), some (.int (zI 10)), none, none], [.ref 67], es)) i_79_12 rfl ?_
  refine x0 (r := (14, [some (.ref 67), some (.int (zI 1)), some (.int (zI 10)), none, none], [.int (zI 0), .ref 67], es)) i_79_13 (by rfl) ?_
  refine x_puti (p := 3) (ty := .int) i_79_14 hs_es rfl rfl rfl (Or.inl rfl) ?_
  obtain ⟨es1, e_es1⟩ : ∃ z : PH, z = sI es 3 2 (.int (zI 0)) := ⟨_, rfl⟩
  have hs_es1 : sh es1 := by rw [e_es1]; exact sh_sI hs_es (p := 3) (b := 2) rfl rfl
  have hT_es1 : hOK tT es1 := by rw [e_es1]; exact hOK_sI hT_es (p := 3) (b := 2) (lo := iLO) (hi := iHI) rfl rfl (i32_rng _)
  rw [← e_es1]
  refine x0 (r := (18, [some (.ref 67), some (.int (zI 1)), some (.int (zI 10)), none, none], [.ref 67], es1)) i_79_17 rfl ?_
  refine x0 (r := (19, [some (.ref 67), some (.int (zI 1)), some (.int (zI 10)), none, none], [.int (zI 0), .ref 67], es1)) i_79_18 (by rfl) ?_
  refine x_puti (p := 3) (ty := .int) i_79_19 hs_es1 rfl rfl rfl (Or.inl rfl) ?_
  obtain ⟨es2, e_es2⟩ : ∃ z : PH, z = sI es1 3 3 (.int (zI 0)) := ⟨_, rfl⟩
  have hs_es2 : sh es2 := by rw [e_es2]; exact sh_sI hs_es1 (p := 3) (b := 3) rfl rfl
  have hT_es2 : hOK tT es2 := by rw [e_es2]; exact hOK_sI hT_es1 (p := 3) (b := 3) (lo := iLO) (hi := iHI) rfl rfl (i32_rng _)
  rw [← e_es2]
  refine x0 (r := (23, [some (.ref 67), some (.int (zI 1)), some (.int (zI 10)), none, none], [.ref 67], es2)) i_79_22 rfl ?_
  refine x0 (r := (24, [some (.ref 67), some (.int (zI 1)), some (.int (zI 10)), none, none], [.int (zI (-1)), .ref 67], es2)) i_79_23 (by rfl) ?_
  refine x_puti (p := 3) (ty := .int) i_79_24 hs_es2 rfl rfl rfl (Or.inl rfl) ?_
  obtain ⟨es3, e_es3⟩ : ∃ z : PH, z = sI es2 3 4 (.int (zI (-1))) := ⟨_, rfl⟩
  have hs_es3 : sh es3 := by rw [e_es3]; exact sh_sI hs_es2 (p := 3) (b := 4) rfl rfl
  have hT_es3 : hOK tT es3 := by rw [e_es3]; exact hOK_sI hT_es2 (p := 3) (b := 4) (lo := iLO) (hi := iHI) rfl rfl (i32_rng _)
  rw [← e_es3]
  refine x0 (r := (28, [some (.ref 67), some (.int (zI 1)), some (.int (zI 10)), none, none], [.ref 67], es3)) i_79_27 rfl ?_
  exact K1 es1 e_es1 es2 e_es2 es3 e_es3
theorem s_mrd31 {O : pOut} {d kc ks : Nat} {Q : pRes → Prop} {es : PH} (hs_es : sh es) (ht : -3000 ≤ (gI es 3 8).toInt ∧ (gI es 3 8).toInt ≤ 999) (hT_es : hOK tT es)
    (K1 : ∀ v1 : Int, v1 = (gI es 3 8).toInt → v1 ≠ (-2000) → aW O d 79 kc ks Q (45, [some (.ref 67), some (.int (zI 1)), some (.int (zI 10)), some (.int (zI 0)), none], [], es))
    (K2 : ∀ v1 : Int, v1 = (gI es 3 8).toInt → ¬ (v1 ≠ (-2000)) → Q (.inl (some (.int (zI 1))), es, kc, ks)) :
    aW O d 79 kc ks Q (31, [some (.ref 67), some (.int (zI 1)), some (.int (zI 10)), none, none], [], es) := by
  refine x0 (r := (32, [some (.ref 67), some (.int (zI 1)), some (.int (zI 10)), none, none], [.ref 67], es)) i_79_31 rfl ?_
  refine x_geti (p := 3) i_79_32 hs_es rfl rfl ?_
  obtain ⟨v1, e_v1⟩ : ∃ z : Int, z = (gI es 3 8).toInt := ⟨_, rfl⟩
  rw [← e_v1]
  have r_v1 : iLO ≤ v1 ∧ v1 ≤ iHI := by rw [e_v1]; exact i32_rng _
  unfold iLO iHI at r_v1
  refine x0 (r := (38, [some (.ref 67), some (.int (zI 1)), some (.int (zI 10)), none, none], [.int (zI (-2000)), .int (zI v1)], es)) i_79_35 (by rfl) ?_
  by_cases c2 : v1 ≠ (-2000)
  · refine x_cmpT i_79_38 (by unfold i32 iLO iHI; omega) (by unfold i32 iLO iHI; omega) rfl (by simp only [zC, cR]; omega) ?_
    refine x0 (r := (44, [some (.ref 67), some (.int (zI 1)), some (.int (zI 10)), none, none], [.int (zI 0)], es)) i_79_43 (by rfl) ?_
    refine x0 (r := (45, [some (.ref 67), some (.int (zI 1)), some (.int (zI 10)), some (.int (zI 0)), none], [], es)) i_79_44 rfl ?_
    exact K1 v1 e_v1 c2
  · refine x_cmpF i_79_38 (by unfold i32 iLO iHI; omega) (by unfold i32 iLO iHI; omega) rfl (by simp only [zC, cR]; omega) ?_
    refine x0 (r := (42, [some (.ref 67), some (.int (zI 1)), some (.int (zI 10)), none, none], [.int (zI 1)], es)) i_79_41 (by rfl) ?_
    refine x_ret (v := some (.int (zI 1))) i_79_42 rfl (fun _ => rfl) rfl rfl (pFin_b (by omega)) ?_
    exact K2 v1 e_v1 c2
theorem s_mrd45 {O : pOut} {d kc ks : Nat} {Q : pRes → Prop} {es : PH} {l : Int} {x4 : Option Value} (hs_es : sh es) (hl : 0 ≤ l ∧ l ≤ 10) (hT_es : hOK tT es)
    (K1 : 10 ≤ l → aW O d 79 kc ks Q (122, [some (.ref 67), some (.int (zI 1)), some (.int (zI 10)), some (.int (zI l)), x4], [.ref 67], es))
    (K2 : ¬ (10 ≤ l) → aW O d 79 kc ks Q (55, [some (.ref 67), some (.int (zI 1)), some (.int (zI 10)), some (.int (zI l)), x4], [.ref 67], es)) :
    aW O d 79 kc ks Q (45, [some (.ref 67), some (.int (zI 1)), some (.int (zI 10)), some (.int (zI l)), x4], [], es) := by
  refine x0 (r := (46, [some (.ref 67), some (.int (zI 1)), some (.int (zI 10)), some (.int (zI l)), x4], [.int (zI l)], es)) i_79_45 rfl ?_
  refine x0 (r := (47, [some (.ref 67), some (.int (zI 1)), some (.int (zI 10)), some (.int (zI l)), x4], [.int (zI 10), .int (zI l)], es)) i_79_46 rfl ?_
  by_cases c1 : 10 ≤ l
  · refine x_cmpT i_79_47 (by unfold i32 iLO iHI; omega) (by unfold i32 iLO iHI; omega) rfl (by simp only [zC, cR]; omega) ?_
    refine x0 (r := (122, [some (.ref 67), some (.int (zI 1)), some (.int (zI 10)), some (.int (zI l)), x4], [.ref 67], es)) i_79_121 rfl ?_
    exact K1 c1
  · refine x_cmpF i_79_47 (by unfold i32 iLO iHI; omega) (by unfold i32 iLO iHI; omega) rfl (by simp only [zC, cR]; omega) ?_
    refine x0 (r := (51, [some (.ref 67), some (.int (zI 1)), some (.int (zI 10)), some (.int (zI l)), x4], [.int (zI 1)], es)) i_79_50 rfl ?_
    refine x_ifF i_79_51 (by unfold i32 iLO iHI; omega) rfl (by simp only [zC, cR]; omega) ?_
    refine x0 (r := (55, [some (.ref 67), some (.int (zI 1)), some (.int (zI 10)), some (.int (zI l)), x4], [.ref 67], es)) i_79_54 rfl ?_
    exact K2 c1
theorem s_mrd58 {O : pOut} {d kc ks : Nat} {Q : pRes → Prop} {es : PH} {l v : Int} {x4 : Option Value} (hs_es : sh es) (hl : 0 ≤ l ∧ l ≤ 9) (hv : v = 0 ∨ v = 1) (hT_es : hOK tT es)
    (K1 : v ≠ 0 → ∀ v2 : Int, v2 = (gI es 3 3).toInt → ∀ es3 : PH, es3 = sI es 3 3 (.int (zI (v2 + 1))) → aW O d 79 kc ks Q (84, [some (.ref 67), some (.int (zI 1)), some (.int (zI 10)), some (.int (zI l)), some (.int (zI v))], [], es3))
    (K2 : ¬ (v ≠ 0) → Q (.inl (some (.int (zI 0))), es, kc, ks)) :
    aW O d 79 kc ks Q (58, [some (.ref 67), some (.int (zI 1)), some (.int (zI 10)), some (.int (zI l)), x4], [.int (zI v)], es) := by
  refine x0 (r := (65, [some (.ref 67), some (.int (zI 1)), some (.int (zI 10)), some (.int (zI l)), x4], [.int (zI v)], es)) i_79_58 rfl ?_
  refine x0 (r := (67, [some (.ref 67), some (.int (zI 1)), some (.int (zI 10)), some (.int (zI l)), some (.int (zI v))], [], es)) i_79_65 rfl ?_
  refine x0 (r := (69, [some (.ref 67), some (.int (zI 1)), some (.int (zI 10)), some (.int (zI l)), some (.int (zI v))], [.int (zI v)], es)) i_79_67 rfl ?_
  by_cases c1 : v ≠ 0
  · refine x_ifT i_79_69 (by unfold i32 iLO iHI; omega) rfl (by simp only [zC, cR]; omega) ?_
    refine x0 (r := (75, [some (.ref 67), some (.int (zI 1)), some (.int (zI 10)), some (.int (zI l)), some (.int (zI v))], [.ref 67], es)) i_79_74 rfl ?_
    refine x0 (r := (76, [some (.ref 67), some (.int (zI 1)), some (.int (zI 10)), some (.int (zI l)), some (.int (zI v))], [.ref 67, .ref 67], es)) i_79_75 rfl ?_
    refine x_geti (p := 3) i_79_76 hs_es rfl rfl ?_
    obtain ⟨v2, e_v2⟩ : ∃ z : Int, z = (gI es 3 3).toInt := ⟨_, rfl⟩
    rw [← e_v2]
    have r_v2 : iLO ≤ v2 ∧ v2 ≤ iHI := by rw [e_v2]; exact i32_rng _
    unfold iLO iHI at r_v2
    refine x0 (r := (80, [some (.ref 67), some (.int (zI 1)), some (.int (zI 10)), some (.int (zI l)), some (.int (zI v))], [.int (zI 1), .int (zI v2), .ref 67], es)) i_79_79 (by rfl) ?_
    refine x_iadd i_79_80 ?_
    refine x_puti (p := 3) (ty := .int) i_79_81 hs_es rfl rfl rfl (Or.inl rfl) ?_
    obtain ⟨es3, e_es3⟩ : ∃ z : PH, z = sI es 3 3 (.int (zI (v2 + 1))) := ⟨_, rfl⟩
    have hs_es3 : sh es3 := by rw [e_es3]; exact sh_sI hs_es (p := 3) (b := 3) rfl rfl
    have hT_es3 : hOK tT es3 := by rw [e_es3]; exact hOK_sI hT_es (p := 3) (b := 3) (lo := iLO) (hi := iHI) rfl rfl (i32_rng _)
    rw [← e_es3]
    exact K1 c1 v2 e_v2 es3 e_es3
  · refine x_ifF i_79_69 (by unfold i32 iLO iHI; omega) rfl (by simp only [zC, cR]; omega) ?_
    refine x0 (r := (73, [some (.ref 67), some (.int (zI 1)), some (.int (zI 10)), some (.int (zI l)), some (.int (zI v))], [.int (zI 0)], es)) i_79_72 (by rfl) ?_
    refine x_ret (v := some (.int (zI 0))) i_79_73 rfl (fun _ => rfl) rfl rfl (pFin_b (by omega)) ?_
    exact K2 c1
theorem s_mrd84 {O : pOut} {d kc ks : Nat} {Q : pRes → Prop} {es : PH} {l : Int} (hs_es : sh es) (hl : 0 ≤ l ∧ l ≤ 9) (ht : -3000 ≤ (gI es 3 8).toInt ∧ (gI es 3 8).toInt ≤ 999) (hT_es : hOK tT es)
    (K1 : ∀ v1 : Int, v1 = (gI es 3 8).toInt → v1 ≠ (-2000) → ∀ v3 : Int, v3 = (gI es 3 8).toInt → v3 = (-1059) → aW O d 79 kc ks Q (112, [some (.ref 67), some (.int (zI 1)), some (.int (zI 10)), some (.int (zI l)), some (.int (zI 1))], [.ref 67], es))
    (K2 : ∀ v1 : Int, v1 = (gI es 3 8).toInt → v1 ≠ (-2000) → ∀ v3 : Int, v3 = (gI es 3 8).toInt → ¬ (v3 = (-1059)) → aW O d 79 kc ks Q (107, [some (.ref 67), some (.int (zI 1)), some (.int (zI 10)), some (.int (zI l)), some (.int (zI 1))], [.ref 67], es))
    (K3 : ∀ v1 : Int, v1 = (gI es 3 8).toInt → ¬ (v1 ≠ (-2000)) → Q (.inl (some (.int (zI 1))), es, kc, ks)) :
    aW O d 79 kc ks Q (84, [some (.ref 67), some (.int (zI 1)), some (.int (zI 10)), some (.int (zI l)), some (.int (zI 1))], [], es) := by
  refine x0 (r := (85, [some (.ref 67), some (.int (zI 1)), some (.int (zI 10)), some (.int (zI l)), some (.int (zI 1))], [.ref 67], es)) i_79_84 rfl ?_
  refine x_geti (p := 3) i_79_85 hs_es rfl rfl ?_
  obtain ⟨v1, e_v1⟩ : ∃ z : Int, z = (gI es 3 8).toInt := ⟨_, rfl⟩
  rw [← e_v1]
  have r_v1 : iLO ≤ v1 ∧ v1 ≤ iHI := by rw [e_v1]; exact i32_rng _
  unfold iLO iHI at r_v1
  refine x0 (r := (91, [some (.ref 67), some (.int (zI 1)), some (.int (zI 10)), some (.int (zI l)), some (.int (zI 1))], [.int (zI (-2000)), .int (zI v1)], es)) i_79_88 (by rfl) ?_
  by_cases c2 : v1 ≠ (-2000)
  · refine x_cmpT i_79_91 (by unfold i32 iLO iHI; omega) (by unfold i32 iLO iHI; omega) rfl (by simp only [zC, cR]; omega) ?_
    refine x0 (r := (97, [some (.ref 67), some (.int (zI 1)), some (.int (zI 10)), some (.int (zI l)), some (.int (zI 1))], [.ref 67], es)) i_79_96 rfl ?_
    refine x_geti (p := 3) i_79_97 hs_es rfl rfl ?_
    obtain ⟨v3, e_v3⟩ : ∃ z : Int, z = (gI es 3 8).toInt := ⟨_, rfl⟩
    rw [← e_v3]
    have r_v3 : iLO ≤ v3 ∧ v3 ≤ iHI := by rw [e_v3]; exact i32_rng _
    unfold iLO iHI at r_v3
    refine x0 (r := (103, [some (.ref 67), some (.int (zI 1)), some (.int (zI 10)), some (.int (zI l)), some (.int (zI 1))], [.int (zI (-1059)), .int (zI v3)], es)) i_79_100 (by rfl) ?_
    by_cases c4 : v3 = (-1059)
    · refine x_cmpT i_79_103 (by unfold i32 iLO iHI; omega) (by unfold i32 iLO iHI; omega) rfl (by simp only [zC, cR]; omega) ?_
      refine x0 (r := (112, [some (.ref 67), some (.int (zI 1)), some (.int (zI 10)), some (.int (zI l)), some (.int (zI 1))], [.ref 67], es)) i_79_111 rfl ?_
      exact K1 v1 e_v1 c2 v3 e_v3 c4
    · refine x_cmpF i_79_103 (by unfold i32 iLO iHI; omega) (by unfold i32 iLO iHI; omega) rfl (by simp only [zC, cR]; omega) ?_
      refine x0 (r := (107, [some (.ref 67), some (.int (zI 1)), some (.int (zI 10)), some (.int (zI l)), some (.int (zI 1))], [.ref 67], es)) i_79_106 rfl ?_
      exact K2 v1 e_v1 c2 v3 e_v3 c4
  · refine x_cmpF i_79_91 (by unfold i32 iLO iHI; omega) (by unfold i32 iLO iHI; omega) rfl (by simp only [zC, cR]; omega) ?_
    refine x0 (r := (95, [some (.ref 67), some (.int (zI 1)), some (.int (zI 10)), some (.int (zI l)), some (.int (zI 1))], [.int (zI 1)], es)) i_79_94 (by rfl) ?_
    refine x_ret (v := some (.int (zI 1))) i_79_95 rfl (fun _ => rfl) rfl rfl (pFin_b (by omega)) ?_
    exact K3 v1 e_v1 c2
theorem s_mrd110 {O : pOut} {d kc ks : Nat} {Q : pRes → Prop} {es : PH} {l v : Int} {x4 : Option Value} (hs_es : sh es) (hv : v = 0) (hT_es : hOK tT es)
    (K1 : Q (.inl (some (.int (zI v))), es, kc, ks)) :
    aW O d 79 kc ks Q (110, [some (.ref 67), some (.int (zI 1)), some (.int (zI 10)), some (.int (zI l)), x4], [.int (zI v)], es) := by
  refine x_ret (v := some (.int (zI v))) i_79_110 rfl (fun _ => rfl) rfl rfl (pFin_b (by omega)) ?_
  exact K1
theorem s_mrd115 {O : pOut} {d kc ks : Nat} {Q : pRes → Prop} {es : PH} {l : Int} {x4 : Option Value} (hs_es : sh es) (hT_es : hOK tT es)
    (K1 : aW O d 79 kc ks Q (45, [some (.ref 67), some (.int (zI 1)), some (.int (zI 10)), some (.int (zI (l + 1))), x4], [], es)) :
    aW O d 79 kc ks Q (115, [some (.ref 67), some (.int (zI 1)), some (.int (zI 10)), some (.int (zI l)), x4], [], es) := by
  refine x_iinc (x := l) i_79_115 rfl (by show 3 < 5; decide) ?_
  show aW _ _ _ _ _ _ (118, [some (.ref 67), some (.int (zI 1)), some (.int (zI 10)), some (.int (zI (l + 1))), x4], [], es)
  refine x0 (r := (45, [some (.ref 67), some (.int (zI 1)), some (.int (zI 10)), some (.int (zI (l + 1))), x4], [], es)) i_79_118 rfl ?_
  exact K1
theorem s_mrd125 {O : pOut} {d kc ks : Nat} {Q : pRes → Prop} {es : PH} {l v : Int} {x4 : Option Value} (hs_es : sh es) (hv : v = 0) (hT_es : hOK tT es)
    (K1 : Q (.inl (some (.int (zI v))), es, kc, ks)) :
    aW O d 79 kc ks Q (125, [some (.ref 67), some (.int (zI 1)), some (.int (zI 10)), some (.int (zI l)), x4], [.int (zI v)], es) := by
  refine x_ret (v := some (.int (zI v))) i_79_125 rfl (fun _ => rfl) rfl rfl (pFin_b (by omega)) ?_
  exact K1
section
variable {O : pOut} {d kc ks : Nat} {Q : pRes → Prop} {es : PH} {R : Nat → Int32} {n cn : Nat}
/-- a LINE of MEASURE, by the class -/
theorem ml_spec {F : Nat} (hF : 400 ≤ F) (hT : hOK tT es) (ht : tkH R n cn es) (K : ∀ es' v, mrP (zMl (zR R) n F (zPs (zR R) n (kT es))) R n cn es es' v → Q (.inl (some (.int (zI v))), es', kc, ks)) : aW O (d + 23) 87 kc ks Q (0, [some (.ref 67)], [], es) := by
  have htk := tkH_tok ht
  obtain ⟨q, hq⟩ : ∃ q, q = zPs (zR R) n (kT es) := ⟨_, rfl⟩
  rw [← hq] at htk K
  -- the tokens behind the first ones
  have at1 : ∀ {es3}, paHP R n cn es es3 → zPs (zR R) n (kT es3) = zNn (zR R) n q := fun {es3} p3 => by rw [p3.2.2.2.1, zPs_nn, hq]
  have at2 : ∀ {x es3 es6 es7}, paHP R n cn es es3 → emHP R n cn x es3 es6 → paHP R n cn es6 es7 → zPs (zR R) n (kT es7) = zNn (zR R) n (zNn (zR R) n q) ∧ kT es7 = kT es + 2 ∧ kpH es es7 := fun {x es3 es6 es7} p3 p6 p7 => by
    refine ⟨by rw [p7.2.2.2.1, p6.2.2.2.1, zPs_nn, at1 p3], by have := p7.2.2.2.1; have := p6.2.2.2.1; have := p3.2.2.2.1; omega, kpH_t p3.2.2.2.2.1 (kpH_t p6.2.2.2.2.1 p7.2.2.2.2.1)⟩
  have at3 : ∀ {x es3 es6 es7 es13}, paHP R n cn es es3 → emHP R n cn x es3 es6 → paHP R n cn es6 es7 → paHP R n cn es7 es13 → zPs (zR R) n (kT es13) = zNn (zR R) n (zNn (zR R) n (zNn (zR R) n q)) ∧ kT es13 = kT es + 3 ∧ kpH es es13 := fun {x es3 es6 es7 es13} p3 p6 p7 p13 => by
    obtain ⟨a1, a2, a3⟩ := at2 p3 p6 p7
    exact ⟨by rw [p13.2.2.2.1, zPs_nn, a1], by have := p13.2.2.2.1; omega, kpH_t a3 p13.2.2.2.2.1⟩
  have at4 : ∀ {x y z es3 es6 es7 es13 es21 es22 es23}, paHP R n cn es es3 → emHP R n cn x es3 es6 → paHP R n cn es6 es7 → paHP R n cn es7 es13 → emHP R n cn y es13 es21 → emHP R n cn z es21 es22 → paHP R n cn es22 es23 → zPs (zR R) n (kT es23) = zNn (zR R) n (zNn (zR R) n (zNn (zR R) n (zNn (zR R) n q))) ∧ kT es23 = kT es + 4 ∧ kpH es es23 := fun {x y z es3 es6 es7 es13 es21 es22 es23} p3 p6 p7 p13 p21 p22 p23 => by
    obtain ⟨a1, a2, a3⟩ := at3 p3 p6 p7 p13
    exact ⟨by rw [p23.2.2.2.1, p22.2.2.2.1, p21.2.2.2.1, zPs_nn, a1], by have := p23.2.2.2.1; have := p22.2.2.2.1; have := p21.2.2.2.1; omega, kpH_t a3 (kpH_t p21.2.2.2.2.1 (kpH_t p22.2.2.2.2.1 p23.2.2.2.2.1))⟩
  -- the end without a C, and with one
  have endA : ∀ {x} es7 es11 b, tkH R n cn es7 → zPs (zR R) n (kT es7) = b → kpH es es7 → kT es ≤ kT es7 → zMl (zR R) n F q = zMi (zR R) n F b → ¬ (gI es7 3 8).toInt = -11 → emHP R n cn x es7 es11 → Q (.inl (some (.int (zI 1))), es11, kc, ks) := by
    intro x es7 es11 b ht7 hb hkp hle hX hne p
    have htk7 := tkH_tok ht7
    rw [hb] at htk7
    exact K es11 1 (mrP_ok (hX.trans (zMi_n (by omega))) p.2.1 p.2.2.1 (by rw [p.2.2.2.1, hb]) (kpH_t hkp p.2.2.2.2.1) (by have := p.2.2.2.1; omega))
  have endB : ∀ es7 es12 b, tkH R n cn es7 → zPs (zR R) n (kT es7) = b → kpH es es7 → kT es ≤ kT es7 → zMl (zR R) n F q = zMi (zR R) n F b → (gI es7 3 8).toInt = -11 → paHP R n cn es7 es12 → aW O (d + 23) 87 kc ks Q (102, [some (.ref 67)], [.int (zI 0), .ref 67], es12) := by
    intro es7 es12 b ht7 hb hkp hle hX hne p
    have htk7 := tkH_tok ht7
    rw [hb] at htk7
    have hX2 := hX.trans (zMi_y (by omega))
    have hz : zPs (zR R) n (kT es12) = zNn (zR R) n b := by rw [p.2.2.2.1, zPs_nn, hb]
    refine x_call (vs := [.ref 67, .int (zI 0)]) (rs := []) i_87_102 rfl (fun _ => rfl) rfl rfl rfl rfl rfl (pCall_v (p := 3) p.1 rfl rfl rfl rfl rfl (by decide) rfl rfl rfl rfl rfl) ?_
    show aW _ _ _ _ _ _ (0, [some (.ref 67), some (.int (zI 0)), none, none, none], [], es12)
    refine mc_all (d := d) hF p.2.1 p.2.2.1 (fun es5 v5 p5 => ?_)
    show aW _ _ _ _ _ _ (105, [some (.ref 67)], [.int (zI v5)], es5)
    rw [hz, ← hX2] at p5
    refine s_ml105 (d := d + 21) (sh_of p5.1) (mrP_v p5) (tkH_bd p5.2.1) p5.1 p5.2.1 (fun hv es6 p6 es7 p7 => ?_) (fun hv => ?_)
    · obtain ⟨z1, z2, z3, z4⟩ := mrP_y p5 hv
      exact K es7 1 ⟨p7.2.1, p7.2.2.1, Or.inl ⟨rfl, z1, by rw [p7.2.2.2.1, p6.2.2.2.1]; exact z2, kpH_t hkp (kpH_t p.2.2.2.2.1 (kpH_t z3 (kpH_t p6.2.2.2.2.1 p7.2.2.2.2.1))), by rw [p7.2.2.2.1, p6.2.2.2.1]; have := p.2.2.2.1; omega⟩⟩
    · obtain ⟨z1, z2⟩ := mrP_n p5 (by omega)
      exact K es5 0 ⟨p5.1, p5.2.1, Or.inr ⟨rfl, z1, z2⟩⟩
  refine s_ml0 (d := d + 21) (sh_of hT) (tkH_bd ht) hT ht (fun v1 e1 c2 es3 p3 v4 e4 c5 es6 p6 es7 p7 v8 e8 c9 c10 es11 p11 => ?_) (fun v1 e1 c2 es3 p3 v4 e4 c5 es6 p6 es7 p7 v8 e8 c9 c10 es12 p12 => ?_) (fun v1 e1 c2 es3 p3 v4 e4 c5 es6 p6 es7 p7 v8 e8 c9 es13 p13 v14 e14 c15 es16 v17 p17 => ?_) (fun v1 e1 c2 es3 p3 v4 e4 c5 es6 p6 es7 p7 v8 e8 c9 es13 p13 v14 e14 c15 c18 es19 v20 p20 => ?_) (fun v1 e1 c2 es3 p3 v4 e4 c5 es6 p6 es7 p7 v8 e8 c9 es13 p13 v14 e14 c15 c18 es21 p21 es22 p22 es23 p23 v24 e24 c25 es26 p26 => ?_) (fun v1 e1 c2 es3 p3 v4 e4 c5 es6 p6 es7 p7 v8 e8 c9 es13 p13 v14 e14 c15 c18 es21 p21 es22 p22 es23 p23 v24 e24 c25 es27 p27 => ?_) (fun v1 e1 c2 es3 p3 v4 e4 c5 es28 v29 p29 => ?_) (fun v1 e1 c2 es30 v31 p31 => ?_)
  · obtain ⟨a1, a2, a3⟩ := at2 p3 p6 p7
    have t3 := tkH_tok p3.2.2.1
    have t7 := tkH_tok p7.2.2.1
    rw [at1 p3] at t3
    rw [a1] at t7
    have hf := zMf_n (c := zR R) (n := n) (q := zNn (zR R) n (zNn (zR R) n q)) (by omega)
    exact endA es7 es11 _ p7.2.2.1 a1 a3 (by omega) (by rw [zMl_d (by omega) (by omega) (by rw [hf]), hf]) (by omega) p11
  · obtain ⟨a1, a2, a3⟩ := at2 p3 p6 p7
    have t3 := tkH_tok p3.2.2.1
    have t7 := tkH_tok p7.2.2.1
    rw [at1 p3] at t3
    rw [a1] at t7
    have hf := zMf_n (c := zR R) (n := n) (q := zNn (zR R) n (zNn (zR R) n q)) (by omega)
    exact endB es7 es12 _ p7.2.2.1 a1 a3 (by omega) (by rw [zMl_d (by omega) (by omega) (by rw [hf]), hf]) (by omega) p12
  · obtain ⟨a1, a2, a3⟩ := at2 p3 p6 p7
    obtain ⟨b1, b2, b3⟩ := at3 p3 p6 p7 p13
    have t3 := tkH_tok p3.2.2.1
    have t7 := tkH_tok p7.2.2.1
    have t13 := tkH_tok p13.2.2.1
    rw [at1 p3] at t3
    rw [a1] at t7
    rw [b1] at t13
    have hf := zMf_w (c := zR R) (n := n) (q := zNn (zR R) n (zNn (zR R) n q)) (by omega) (by omega)
    exact K es16 v17 (mrP_no ((zMl_c (by omega) (by omega) (by rw [hf])).trans (by rw [hf])) p17 b1.symm)
  · obtain ⟨a1, a2, a3⟩ := at2 p3 p6 p7
    obtain ⟨b1, b2, b3⟩ := at3 p3 p6 p7 p13
    have t3 := tkH_tok p3.2.2.1
    have t7 := tkH_tok p7.2.2.1
    have t13 := tkH_tok p13.2.2.1
    rw [at1 p3] at t3
    rw [a1] at t7
    rw [b1] at t13
    have hf := zMf_w (c := zR R) (n := n) (q := zNn (zR R) n (zNn (zR R) n q)) (by omega) (by omega)
    exact K es19 v20 (mrP_no ((zMl_c (by omega) (by omega) (by rw [hf])).trans (by rw [hf])) p20 b1.symm)
  · obtain ⟨a1, a2, a3⟩ := at2 p3 p6 p7
    obtain ⟨b1, b2, b3⟩ := at3 p3 p6 p7 p13
    obtain ⟨f1, f2, f3⟩ := at4 p3 p6 p7 p13 p21 p22 p23
    have t3 := tkH_tok p3.2.2.1
    have t7 := tkH_tok p7.2.2.1
    have t13 := tkH_tok p13.2.2.1
    rw [at1 p3] at t3
    rw [a1] at t7
    rw [b1] at t13
    have hf := zMf_y (c := zR R) (n := n) (q := zNn (zR R) n (zNn (zR R) n q)) (by omega) (by omega)
    exact endA es23 es26 _ p23.2.2.1 f1 f3 (by omega) (by rw [zMl_d (by omega) (by omega) (by rw [hf]), hf]) (by omega) p26
  · obtain ⟨a1, a2, a3⟩ := at2 p3 p6 p7
    obtain ⟨b1, b2, b3⟩ := at3 p3 p6 p7 p13
    obtain ⟨f1, f2, f3⟩ := at4 p3 p6 p7 p13 p21 p22 p23
    have t3 := tkH_tok p3.2.2.1
    have t7 := tkH_tok p7.2.2.1
    have t13 := tkH_tok p13.2.2.1
    rw [at1 p3] at t3
    rw [a1] at t7
    rw [b1] at t13
    have hf := zMf_y (c := zR R) (n := n) (q := zNn (zR R) n (zNn (zR R) n q)) (by omega) (by omega)
    exact endB es23 es27 _ p23.2.2.1 f1 f3 (by omega) (by rw [zMl_d (by omega) (by omega) (by rw [hf]), hf]) (by omega) p27
  · have t3 := tkH_tok p3.2.2.1
    rw [at1 p3] at t3
    exact K es28 v29 (mrP_no (zMl_b (by omega) (by omega)) p29 (at1 p3).symm)
  · exact K es30 v31 (mrP_no (zMl_a (by omega)) p31 hq)
/-- reads, of MEASURE's text -/
theorem mrd_loop {F : Nat} (hF : 400 ≤ F)
    (K0 : ∀ es', hOK tT es' → (zMt (zR R) n F).2 = none → (gI es' 3 4).toInt = ((zMt (zR R) n F).1 : Nat) → Q (.inl (some (.int (zI 0))), es', kc, ks))
    (K1 : ∀ es' (j : Nat), hOK tT es' → (zMt (zR R) n F).2 = some j → (gI es' 3 4).toInt = -1 → (gI es' 3 3).toInt = 10 - (j : Int) → Q (.inl (some (.int (zI 1))), es', kc, ks)) :
    ∀ (N : Nat) (l : Int) (x4 : Option Value) (es1 : PH), l + (N : Int) = 10 → 0 ≤ l → hOK tT es1 → tkH R n cn es1 → (gI es1 3 4).toInt = -1 → (gI es1 3 3).toInt = l → zMtF (zR R) n F N (zPs (zR R) n (kT es1)) = zMt (zR R) n F → aW O (d + 24) 79 kc ks Q (45, [some (.ref 67), some (.int (zI 1)), some (.int (zI 10)), some (.int (zI l)), x4], [], es1) := by
  intro N
  induction N with
  | zero =>
    intro l x4 es1 hl h0 hT h hw hli hx
    refine s_mrd45 (l := l) (sh_of hT) ⟨h0, by omega⟩ hT (fun h1 => ?_) (fun h1 => by omega)
    rw [zMtF_z] at hx
    refine x_call (vs := [.ref 67]) (rs := []) i_79_122 rfl (fun _ => rfl) rfl rfl rfl rfl rfl (pCall_v (p := 3) (sh_of hT) rfl rfl rfl rfl rfl (by decide) rfl rfl rfl rfl rfl) ?_
    show aW _ _ _ _ _ _ (0, [some (.ref 67)], [], es1)
    refine flH (d := d + 22) (sh_of hT) hT h (fun es' v p => ?_)
    show aW _ _ _ _ _ _ (125, [some (.ref 67), some (.int (zI 1)), some (.int (zI 10)), some (.int (zI l)), x4], [.int (zI v)], es')
    obtain ⟨a1, a2, a3, rfl, a5⟩ := p
    exact s_mrd125 a1 rfl a2 (K0 es' a2 (by rw [← hx]) (by rw [← hx]; exact a5))
  | succ N ih =>
    intro l x4 es1 hl h0 hT h hw hli hx
    refine s_mrd45 (l := l) (sh_of hT) ⟨h0, by omega⟩ hT (fun h1 => by omega) (fun h1 => ?_)
    refine x_call (vs := [.ref 67]) (rs := []) i_79_55 rfl (fun _ => rfl) rfl rfl rfl rfl rfl (pCall_v (p := 3) (sh_of hT) rfl rfl rfl rfl rfl (by decide) rfl rfl rfl rfl rfl) ?_
    show aW _ _ _ _ _ _ (0, [some (.ref 67)], [], es1)
    refine ml_spec (d := d) hF hT h (fun es2 v p2 => ?_)
    show aW _ _ _ _ _ _ (58, [some (.ref 67), some (.int (zI 1)), some (.int (zI 10)), some (.int (zI l)), x4], [.int (zI v)], es2)
    obtain ⟨a1, a2, hp⟩ := p2
    rcases hp with ⟨rfl, y1, y2, y3, y4⟩ | ⟨rfl, y1, y2⟩
    · refine s_mrd58 (l := l) (sh_of a1) ⟨h0, by omega⟩ (Or.inr rfl) a1 (fun h2 v2 e2 es3 e3 => ?_) (fun h2 => absurd (show (1 : Int) ≠ 0 by omega) h2)
      have hT3 : hOK tT es3 := by rw [e3]; exact hOK_sI a1 (p := 3) (b := 3) (lo := iLO) (hi := iHI) rfl rfl (i32_rng _)
      have q3 : qS es2 es3 := ⟨hT3, fun q b hqb => by rw [e3, gI_sI_ne (by omega)], by rw [e3, gA_sI], by rw [e3, gA_sI]⟩
      have t3s := tkS_q a2.2 q3
      have t3 := tkH_of a2.1 t3s
      have hk3 := tkS_k t3s
      have hw3 : (gI es3 3 4).toInt = -1 := by rw [q3.2.1 3 4 (Or.inr (by decide)), y3.2]; exact hw
      have hl3 : (gI es3 3 3).toInt = l + 1 := by
        rw [e3, gI_sI (sh_of a1) (p := 3) (b := 3) rfl (by decide), e2, y3.1, hli]
        exact zI_toInt (by unfold i32 iLO iHI; omega)
      have htk := tkH_tok t3
      have hle := tkS_le t3.2 t3.2.2.2.2.2.1
      rw [zMtF_yes y1, y2, ← hk3] at hx
      have hend : (gI es3 3 8).toInt = -2000 ↔ n ≤ zPs (zR R) n (kT es3) := by
        rw [htk]
        rcases zCod_cases (c := zR R) (n := n) (q := zPs (zR R) n (kT es3)) (fun k hk => a2.1.1 k (by have := a2.1.2; omega)) with g | g | g | g
        · constructor <;> intro g2 <;> omega
        · constructor <;> intro g2 <;> omega
        · constructor <;> intro g2 <;> omega
        · constructor <;> intro g2 <;> omega
      refine s_mrd84 (l := l) (sh_of hT3) ⟨h0, by omega⟩ (tkH_bd t3) hT3 (fun v4 e4 h4 v5 e5 h5 => ?_) (fun v4 e4 h4 v5 e5 h5 => ?_) (fun v4 e4 h4 => ?_)
      · have hne : ¬ n ≤ zPs (zR R) n (kT es3) := fun g => h4 (by rw [e4]; exact hend.mpr g)
        rw [if_neg hne, if_pos (by rw [← htk, ← e5]; exact h5)] at hx
        refine x_call (vs := [.ref 67]) (rs := []) i_79_112 rfl (fun _ => rfl) rfl rfl rfl rfl rfl (pCall_v (p := 3) (sh_of hT3) rfl rfl rfl rfl rfl (by decide) rfl rfl rfl rfl rfl) ?_
        show aW _ _ _ _ _ _ (0, [some (.ref 67)], [], es3)
        refine paH (d := d + 22) (sh_of hT3) hT3 t3 (by omega) (fun es4 p4 => ?_)
        show aW _ _ _ _ _ _ (115, [some (.ref 67), some (.int (zI 1)), some (.int (zI 10)), some (.int (zI l)), some (.int (zI 1))], [], es4)
        obtain ⟨b1, b2, b3, b4, b5, b6⟩ := p4
        exact s_mrd115 b1 b2 (ih (l + 1) (some (.int (zI 1))) es4 (by omega) (by omega) b2 b3 (by rw [b5.2]; exact hw3) (by rw [b5.1]; exact hl3) (by rw [b4, zPs_nn]; exact hx))
      · have hne : ¬ n ≤ zPs (zR R) n (kT es3) := fun g => h4 (by rw [e4]; exact hend.mpr g)
        rw [if_neg hne, if_neg (by rw [← htk, ← e5]; exact h5)] at hx
        refine x_call (vs := [.ref 67]) (rs := []) i_79_107 rfl (fun _ => rfl) rfl rfl rfl rfl rfl (pCall_v (p := 3) (sh_of hT3) rfl rfl rfl rfl rfl (by decide) rfl rfl rfl rfl rfl) ?_
        show aW _ _ _ _ _ _ (0, [some (.ref 67)], [], es3)
        refine flH (d := d + 22) (sh_of hT3) hT3 t3 (fun es' v p => ?_)
        show aW _ _ _ _ _ _ (110, [some (.ref 67), some (.int (zI 1)), some (.int (zI 10)), some (.int (zI l)), some (.int (zI 1))], [.int (zI v)], es')
        obtain ⟨b1, b2, b3, rfl, b5⟩ := p
        exact s_mrd110 b1 rfl b2 (K0 es' b2 (by rw [← hx]) (by rw [← hx]; exact b5))
      · have hle2 : n ≤ zPs (zR R) n (kT es3) := hend.mp (by omega)
        rw [if_pos hle2] at hx
        exact K1 es3 N hT3 (by rw [← hx]) hw3 (by omega)
    · rw [zMtF_no y1] at hx
      exact s_mrd58 (l := l) (sh_of a1) ⟨h0, by omega⟩ (Or.inl rfl) a1 (fun h2 => absurd rfl h2) (fun h2 => K0 es2 a1 (by rw [← hx]) (by rw [← hx]; exact y2))
end
/-- what reads says of MEASURE's text -/
def mrdP (F : Nat) (R : Nat → Int32) (n : Nat) (r : Option Value ⊕ Nat) (es1 : PH) : Prop := hOK tT es1 ∧ ((r = .inl (some (.int (zI 0))) ∧ (zMt (zR R) n F).2 = none ∧ (gI es1 3 4).toInt = ((zMt (zR R) n F).1 : Nat)) ∨ (r = .inl (some (.int (zI 1))) ∧ ∃ j : Nat, (zMt (zR R) n F).2 = some j ∧ (gI es1 3 4).toInt = -1 ∧ (gI es1 3 3).toInt = 10 - (j : Int)))
theorem sp_fr {xs : Nat → Int32} {N d : Nat} {es : PH} (hN : N ≤ 3584) (hd : 3 ≤ d) (hT : hOK tT es) : aW (pO0 xs N) d 80 0 0 (fun o => fr kc_12.2.2.2.2.2.1 es o.2.1) (0, [some (.ref 67), none, none, none, none], [], es) := by
  have h := cp_of (c := kc_12) (ρ := []) (vs := [.ref 67]) (d := d) (I := fun _ => True) (es := es) (kv_12 (aWd_T (xs := xs) hN)) rfl hd gE_nil' rfl (gS_consr gS_nil') hT trivial rfl
  exact aW_mono (Nat.le_refl _) (fun o ho => ho.2.2.1) h
section
variable {d : Nat} {es : PH} {R : Nat → Int32} {n : Nat} {xs : Nat → Int32} {N : Nat}
theorem sp_fn {O : pOut} (hT : hOK tT es) (hj : jB R n es) (hw : (gI es 3 4).toInt = -1) : aW O (d + 3) 80 0 0 (fun o => ∃ cn, o.1 = .inl none ∧ hOK tT o.2.1 ∧ tkS R n cn 0 o.2.1 ∧ (gI o.2.1 3 4).toInt = -1) (0, [some (.ref 67), none, none, none, none], [], es) := sp_spec (d := d) hT hj hw (fun es' cn a b c => ⟨cn, rfl, a, b, c⟩)
theorem mrd_fn {F : Nat} (hN : N ≤ 3584) (hF : 400 ≤ F) (hT : hOK tT es) (hj : jB R n es) : aW (pO0 xs N) (d + 24) 79 0 0 (fun o => mrdP F R n o.1 o.2.1) (0, [some (.ref 67), some (.int (zI 1)), none, none, none], [], es) := by
  have hc := hj.2.1
  have hn := hj.2.2.2
  refine s_mrd0 (sh_of hT) hT (fun es1 e1 es2 e2 es3 e3 => ?_)
  have hT1 : hOK tT es1 := by rw [e1]; exact hOK_sI hT (p := 3) (b := 2) (lo := iLO) (hi := iHI) rfl rfl (i32_rng _)
  have hT2 : hOK tT es2 := by rw [e2]; exact hOK_sI hT1 (p := 3) (b := 3) (lo := iLO) (hi := iHI) rfl rfl (i32_rng _)
  have hT3 : hOK tT es3 := by rw [e3]; exact hOK_sI hT2 (p := 3) (b := 4) (lo := iLO) (hi := iHI) rfl rfl (i32_rng _)
  have hj3 : jB R n es3 := by rw [e3, e2, e1]; exact jB_sI (jB_sI (jB_sI hj (by decide)) (by decide)) (by decide)
  have hw3 : (gI es3 3 4).toInt = -1 := by rw [e3, gI_sI (sh_of hT2) (p := 3) (b := 4) rfl (by decide)]; rfl
  have hl3 : (gI es3 3 3).toInt = 0 := by rw [e3, gI_sI_ne (Or.inr (by decide)), e2, gI_sI (sh_of hT1) (p := 3) (b := 3) rfl (by decide)]; rfl
  refine x_call (vs := [.ref 67]) (rs := []) i_79_28 rfl (fun _ => rfl) rfl rfl rfl rfl rfl (pCall_v (p := 3) (sh_of hT3) rfl rfl rfl rfl rfl (by decide) rfl rfl rfl rfl rfl) ?_
  show aW _ _ _ _ _ _ (0, [some (.ref 67), none, none, none, none], [], es3)
  refine aW_sh (aW_and (sp_fr (d := d + 23) hN (by omega) hT3) (sp_fn (d := d + 20) hT3 hj3 hw3)) (fun r es4 c1 k1 hp => ?_)
  obtain ⟨hf4, cn, rfl, hT4, t4s, hw4⟩ : fr kc_12.2.2.2.2.2.1 es3 es4 ∧ ∃ cn, r = .inl none ∧ hOK tT es4 ∧ tkS R n cn 0 es4 ∧ (gI es4 3 4).toInt = -1 := hp
  refine aK_nil ?_
  show aW _ _ _ _ _ _ (31, [some (.ref 67), some (.int (zI 1)), some (.int (zI 10)), none, none], [], es4)
  have t4 := tkH_of ⟨hc, hn⟩ t4s
  have hk4 := tkS_k t4s
  have hl4 : (gI es4 3 3).toInt = 0 := by rw [keepI hf4 (sh_of hT3) (p := 3) (b := 3) rfl (by decide)]; exact hl3
  have htk := tkH_tok t4
  have hp0 : zPs (zR R) n 0 = zNx (zR R) n 0 := rfl
  rw [hk4, hp0] at htk
  refine s_mrd31 (sh_of hT4) (tkH_bd t4) hT4 (fun v1 e5 h1 => ?_) (fun v1 e5 h1 => ?_)
  · have hlt : zNx (zR R) n 0 < n := cod_lt (c := zR R) (by rw [← htk, ← e5]; exact h1)
    refine mrd_loop (d := d) hF (fun es' a b c => ⟨a, Or.inl ⟨rfl, b, c⟩⟩) (fun es' j a b c e => ⟨a, Or.inr ⟨rfl, j, b, c, e⟩⟩) 10 0 none es4 (by omega) (by omega) hT4 t4 hw4 hl4 ?_
    rw [hk4, hp0]
    unfold zMt
    rw [if_neg (by omega)]
  · have hge : n ≤ zNx (zR R) n 0 := by
      rcases zCod_cases (c := zR R) (n := n) (q := zNx (zR R) n 0) (fun k hk => hc k (by omega)) with g | g | g | g <;> omega
    have e : zMt (zR R) n F = (zNx (zR R) n 0, some 10) := by unfold zMt; rw [if_pos hge]
    exact ⟨hT4, Or.inr ⟨rfl, 10, by rw [e], hw4, hl4.trans rfl⟩⟩
end
