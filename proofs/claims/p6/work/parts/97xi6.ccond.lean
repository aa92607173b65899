/-! MEASURE, by the document's tokens; printed by wip/rel/meas.py -/
theorem s_ma0 {O : pOut} {d kc ks : Nat} {Q : pRes → Prop} {es : PH} {R : Nat → Int32} {n0 cn : Nat} {dp : Int} (hs_es : sh es) (hd : 0 ≤ dp ∧ dp ≤ 6) (ht : -3000 ≤ (gI es 3 8).toInt ∧ (gI es 3 8).toInt ≤ 999) (hT_es : hOK tT es) (hr_es : tkH R n0 cn es)
    (K1 : ∀ v1 : Int, v1 = (gI es 3 8).toInt → v1 = (-7) → 6 ≤ dp → ∀ es4 : PH, ∀ v5 : Int, flHP R n0 cn  es es4 v5 → Q (.inl (some (.int (zI v5))), es4, kc, ks))
    (K2 : ∀ v1 : Int, v1 = (gI es 3 8).toInt → v1 = (-7) → ¬ (6 ≤ dp) → aW O (d + 2) 93 kc ks Q (29, [some (.ref 67), some (.int (zI dp)), none], [.int (zI (dp + 1)), .ref 67], es))
    (K3 : ∀ v1 : Int, v1 = (gI es 3 8).toInt → ¬ (v1 = (-7)) → v1 ≠ (-1040) → v1 = (-5) → ∀ es8 : PH, emHP R n0 cn v1 es es8 → ∀ es9 : PH, paHP R n0 cn  es8 es9 → Q (.inl (some (.int (zI 1))), es9, kc, ks))
    (K4 : ∀ v1 : Int, v1 = (gI es 3 8).toInt → ¬ (v1 = (-7)) → v1 ≠ (-1040) → ¬ (v1 = (-5)) → v1 ≠ (-6) → aW O (d + 2) 93 kc ks Q (73, [some (.ref 67), some (.int (zI dp)), none], [.ref 67], es))
    (K5 : ∀ v1 : Int, v1 = (gI es 3 8).toInt → ¬ (v1 = (-7)) → v1 ≠ (-1040) → ¬ (v1 = (-5)) → ¬ (v1 ≠ (-6)) → ∀ es11 : PH, emHP R n0 cn v1 es es11 → ∀ es12 : PH, paHP R n0 cn  es11 es12 → Q (.inl (some (.int (zI 1))), es12, kc, ks))
    (K6 : ∀ v1 : Int, v1 = (gI es 3 8).toInt → ¬ (v1 = (-7)) → ¬ (v1 ≠ (-1040)) → 6 ≤ dp → ∀ es14 : PH, ∀ v15 : Int, flHP R n0 cn  es es14 v15 → Q (.inl (some (.int (zI v15))), es14, kc, ks))
    (K7 : ∀ v1 : Int, v1 = (gI es 3 8).toInt → ¬ (v1 = (-7)) → ¬ (v1 ≠ (-1040)) → ¬ (6 ≤ dp) → aW O (d + 2) 93 kc ks Q (29, [some (.ref 67), some (.int (zI dp)), none], [.int (zI (dp + 1)), .ref 67], es)) :
    aW O (d + 2) 93 kc ks Q (0, [some (.ref 67), some (.int (zI dp)), none], [], es) := by
  refine x0 (r := (1, [some (.ref 67), some (.int (zI dp)), none], [.ref 67], es)) i_93_0 rfl ?_
  refine x_geti (p := 3) i_93_1 hs_es rfl rfl ?_
  obtain ⟨v1, e_v1⟩ : ∃ z : Int, z = (gI es 3 8).toInt := ⟨_, rfl⟩
  rw [← e_v1]
  have r_v1 : iLO ≤ v1 ∧ v1 ≤ iHI := by rw [e_v1]; exact i32_rng _
  unfold iLO iHI at r_v1
  refine x0 (r := (6, [some (.ref 67), some (.int (zI dp)), none], [.int (zI (-7)), .int (zI v1)], es)) i_93_4 (by rfl) ?_
  by_cases c2 : v1 = (-7)
  · refine x_cmpT i_93_6 (by unfold i32 iLO iHI; omega) (by unfold i32 iLO iHI; omega) rfl (by simp only [zC, cR]; omega) ?_
    refine x0 (r := (20, [some (.ref 67), some (.int (zI dp)), none], [.int (zI dp)], es)) i_93_19 rfl ?_
    refine x0 (r := (22, [some (.ref 67), some (.int (zI dp)), none], [.int (zI 6), .int (zI dp)], es)) i_93_20 (by rfl) ?_
    by_cases c3 : 6 ≤ dp
    · refine x_cmpT i_93_22 (by unfold i32 iLO iHI; omega) (by unfold i32 iLO iHI; omega) rfl (by simp only [zC, cR]; omega) ?_
      refine x0 (r := (36, [some (.ref 67), some (.int (zI dp)), none], [.ref 67], es)) i_93_35 rfl ?_
      refine x_call (vs := [.ref 67]) (rs := []) i_93_36 rfl (fun _ => rfl) rfl rfl rfl rfl rfl (pCall_v (p := 3) hs_es rfl rfl rfl rfl rfl (by decide) rfl rfl rfl rfl rfl) ?_
      show aW _ _ _ _ _ _ (0, [some (.ref 67)], [], es)
      refine flH hs_es hT_es hr_es (fun es4 v5 p_es4 => ?_)
      have hs_es4 : sh es4 := p_es4.1
      have hT_es4 : hOK tT es4 := p_es4.2.1
      have hr_es4 : tkH R n0 cn es4 := p_es4.2.2.1
      have r_v5 := flH_v p_es4
      show aW _ _ _ _ _ _ (39, [some (.ref 67), some (.int (zI dp)), none], [.int (zI v5)], es4)
      refine x_ret (v := some (.int (zI v5))) i_93_39 rfl (fun _ => rfl) rfl rfl (pFin_b (by omega)) ?_
      exact K1 v1 e_v1 c2 c3 es4 v5 p_es4
    · refine x_cmpF i_93_22 (by unfold i32 iLO iHI; omega) (by unfold i32 iLO iHI; omega) rfl (by simp only [zC, cR]; omega) ?_
      refine x0 (r := (26, [some (.ref 67), some (.int (zI dp)), none], [.ref 67], es)) i_93_25 rfl ?_
      refine x0 (r := (27, [some (.ref 67), some (.int (zI dp)), none], [.int (zI dp), .ref 67], es)) i_93_26 rfl ?_
      refine x0 (r := (28, [some (.ref 67), some (.int (zI dp)), none], [.int (zI 1), .int (zI dp), .ref 67], es)) i_93_27 (by rfl) ?_
      refine x_iadd i_93_28 ?_
      exact K2 v1 e_v1 c2 c3
  · refine x_cmpF i_93_6 (by unfold i32 iLO iHI; omega) (by unfold i32 iLO iHI; omega) rfl (by simp only [zC, cR]; omega) ?_
    refine x0 (r := (10, [some (.ref 67), some (.int (zI dp)), none], [.ref 67], es)) i_93_9 rfl ?_
    refine x_geti (p := 3) i_93_10 hs_es rfl rfl ?_
    rw [show (gI es 3 8).toInt = v1 from e_v1.symm]
    refine x0 (r := (16, [some (.ref 67), some (.int (zI dp)), none], [.int (zI (-1040)), .int (zI v1)], es)) i_93_13 (by rfl) ?_
    by_cases c6 : v1 ≠ (-1040)
    · refine x_cmpT i_93_16 (by unfold i32 iLO iHI; omega) (by unfold i32 iLO iHI; omega) rfl (by simp only [zC, cR]; omega) ?_
      refine x0 (r := (41, [some (.ref 67), some (.int (zI dp)), none], [.ref 67], es)) i_93_40 rfl ?_
      refine x_geti (p := 3) i_93_41 hs_es rfl rfl ?_
      rw [show (gI es 3 8).toInt = v1 from e_v1.symm]
      refine x0 (r := (46, [some (.ref 67), some (.int (zI dp)), none], [.int (zI (-5)), .int (zI v1)], es)) i_93_44 (by rfl) ?_
      by_cases c7 : v1 = (-5)
      · refine x_cmpT i_93_46 (by unfold i32 iLO iHI; omega) (by unfold i32 iLO iHI; omega) rfl (by simp only [zC, cR]; omega) ?_
        refine x0 (r := (59, [some (.ref 67), some (.int (zI dp)), none], [.ref 67], es)) i_93_58 rfl ?_
        refine x0 (r := (60, [some (.ref 67), some (.int (zI dp)), none], [.ref 67, .ref 67], es)) i_93_59 rfl ?_
        refine x_geti (p := 3) i_93_60 hs_es rfl rfl ?_
        rw [show (gI es 3 8).toInt = v1 from e_v1.symm]
        refine x_call (vs := [.ref 67, .int (zI v1)]) (rs := []) i_93_63 rfl (fun _ => rfl) rfl rfl rfl rfl rfl (pCall_v (p := 3) hs_es rfl rfl rfl rfl rfl (by decide) rfl rfl rfl rfl rfl) ?_
        show aW _ _ _ _ _ _ (0, [some (.ref 67), some (.int (zI v1))], [], es)
        refine emH hs_es hT_es hr_es (fun es8 p_es8 => ?_)
        have hs_es8 : sh es8 := p_es8.1
        have hT_es8 : hOK tT es8 := p_es8.2.1
        have f_es8 := emH_f p_es8
        have hr_es8 : tkH R n0 cn es8 := p_es8.2.2.1
        show aW _ _ _ _ _ _ (66, [some (.ref 67), some (.int (zI dp)), none], [], es8)
        refine x0 (r := (67, [some (.ref 67), some (.int (zI dp)), none], [.ref 67], es8)) i_93_66 rfl ?_
        refine x_call (vs := [.ref 67]) (rs := []) i_93_67 rfl (fun _ => rfl) rfl rfl rfl rfl rfl (pCall_v (p := 3) hs_es8 rfl rfl rfl rfl rfl (by decide) rfl rfl rfl rfl rfl) ?_
        show aW _ _ _ _ _ _ (0, [some (.ref 67)], [], es8)
        refine paH hs_es8 hT_es8 hr_es8 (by omega) (fun es9 p_es9 => ?_)
        have hs_es9 : sh es9 := p_es9.1
        have hT_es9 : hOK tT es9 := p_es9.2.1
        have f_es9 := paH_f p_es9
        have hr_es9 : tkH R n0 cn es9 := p_es9.2.2.1
        show aW _ _ _ _ _ _ (70, [some (.ref 67), some (.int (zI dp)), none], [], es9)
        refine x0 (r := (71, [some (.ref 67), some (.int (zI dp)), none], [.int (zI 1)], es9)) i_93_70 (by rfl) ?_
        refine x_ret (v := some (.int (zI 1))) i_93_71 rfl (fun _ => rfl) rfl rfl (pFin_b (by omega)) ?_
        exact K3 v1 e_v1 c2 c6 c7 es8 p_es8 es9 p_es9
      · refine x_cmpF i_93_46 (by unfold i32 iLO iHI; omega) (by unfold i32 iLO iHI; omega) rfl (by simp only [zC, cR]; omega) ?_
        refine x0 (r := (50, [some (.ref 67), some (.int (zI dp)), none], [.ref 67], es)) i_93_49 rfl ?_
        refine x_geti (p := 3) i_93_50 hs_es rfl rfl ?_
        rw [show (gI es 3 8).toInt = v1 from e_v1.symm]
        refine x0 (r := (55, [some (.ref 67), some (.int (zI dp)), none], [.int (zI (-6)), .int (zI v1)], es)) i_93_53 (by rfl) ?_
        by_cases c10 : v1 ≠ (-6)
        · refine x_cmpT i_93_55 (by unfold i32 iLO iHI; omega) (by unfold i32 iLO iHI; omega) rfl (by simp only [zC, cR]; omega) ?_
          refine x0 (r := (73, [some (.ref 67), some (.int (zI dp)), none], [.ref 67], es)) i_93_72 rfl ?_
          exact K4 v1 e_v1 c2 c6 c7 c10
        · refine x_cmpF i_93_55 (by unfold i32 iLO iHI; omega) (by unfold i32 iLO iHI; omega) rfl (by simp only [zC, cR]; omega) ?_
          refine x0 (r := (59, [some (.ref 67), some (.int (zI dp)), none], [.ref 67], es)) i_93_58 rfl ?_
          refine x0 (r := (60, [some (.ref 67), some (.int (zI dp)), none], [.ref 67, .ref 67], es)) i_93_59 rfl ?_
          refine x_geti (p := 3) i_93_60 hs_es rfl rfl ?_
          rw [show (gI es 3 8).toInt = v1 from e_v1.symm]
          refine x_call (vs := [.ref 67, .int (zI v1)]) (rs := []) i_93_63 rfl (fun _ => rfl) rfl rfl rfl rfl rfl (pCall_v (p := 3) hs_es rfl rfl rfl rfl rfl (by decide) rfl rfl rfl rfl rfl) ?_
          show aW _ _ _ _ _ _ (0, [some (.ref 67), some (.int (zI v1))], [], es)
          refine emH hs_es hT_es hr_es (fun es11 p_es11 => ?_)
          have hs_es11 : sh es11 := p_es11.1
          have hT_es11 : hOK tT es11 := p_es11.2.1
          have f_es11 := emH_f p_es11
          have hr_es11 : tkH R n0 cn es11 := p_es11.2.2.1
          show aW _ _ _ _ _ _ (66, [some (.ref 67), some (.int (zI dp)), none], [], es11)
          refine x0 (r := (67, [some (.ref 67), some (.int (zI dp)), none], [.ref 67], es11)) i_93_66 rfl ?_
          refine x_call (vs := [.ref 67]) (rs := []) i_93_67 rfl (fun _ => rfl) rfl rfl rfl rfl rfl (pCall_v (p := 3) hs_es11 rfl rfl rfl rfl rfl (by decide) rfl rfl rfl rfl rfl) ?_
          show aW _ _ _ _ _ _ (0, [some (.ref 67)], [], es11)
          refine paH hs_es11 hT_es11 hr_es11 (by omega) (fun es12 p_es12 => ?_)
          have hs_es12 : sh es12 := p_es12.1
          have hT_es12 : hOK tT es12 := p_es12.2.1
          have f_es12 := paH_f p_es12
          have hr_es12 : tkH R n0 cn es12 := p_es12.2.2.1
          show aW _ _ _ _ _ _ (70, [some (.ref 67), some (.int (zI dp)), none], [], es12)
          refine x0 (r := (71, [some (.ref 67), some (.int (zI dp)), none], [.int (zI 1)], es12)) i_93_70 (by rfl) ?_
          refine x_ret (v := some (.int (zI 1))) i_93_71 rfl (fun _ => rfl) rfl rfl (pFin_b (by omega)) ?_
          exact K5 v1 e_v1 c2 c6 c7 c10 es11 p_es11 es12 p_es12
    · refine x_cmpF i_93_16 (by unfold i32 iLO iHI; omega) (by unfold i32 iLO iHI; omega) rfl (by simp only [zC, cR]; omega) ?_
      refine x0 (r := (20, [some (.ref 67), some (.int (zI dp)), none], [.int (zI dp)], es)) i_93_19 rfl ?_
      refine x0 (r := (22, [some (.ref 67), some (.int (zI dp)), none], [.int (zI 6), .int (zI dp)], es)) i_93_20 (by rfl) ?_
      by_cases c13 : 6 ≤ dp
      · refine x_cmpT i_93_22 (by unfold i32 iLO iHI; omega) (by unfold i32 iLO iHI; omega) rfl (by simp only [zC, cR]; omega) ?_
        refine x0 (r := (36, [some (.ref 67), some (.int (zI dp)), none], [.ref 67], es)) i_93_35 rfl ?_
        refine x_call (vs := [.ref 67]) (rs := []) i_93_36 rfl (fun _ => rfl) rfl rfl rfl rfl rfl (pCall_v (p := 3) hs_es rfl rfl rfl rfl rfl (by decide) rfl rfl rfl rfl rfl) ?_
        show aW _ _ _ _ _ _ (0, [some (.ref 67)], [], es)
        refine flH hs_es hT_es hr_es (fun es14 v15 p_es14 => ?_)
        have hs_es14 : sh es14 := p_es14.1
        have hT_es14 : hOK tT es14 := p_es14.2.1
        have hr_es14 : tkH R n0 cn es14 := p_es14.2.2.1
        have r_v15 := flH_v p_es14
        show aW _ _ _ _ _ _ (39, [some (.ref 67), some (.int (zI dp)), none], [.int (zI v15)], es14)
        refine x_ret (v := some (.int (zI v15))) i_93_39 rfl (fun _ => rfl) rfl rfl (pFin_b (by omega)) ?_
        exact K6 v1 e_v1 c2 c6 c13 es14 v15 p_es14
      · refine x_cmpF i_93_22 (by unfold i32 iLO iHI; omega) (by unfold i32 iLO iHI; omega) rfl (by simp only [zC, cR]; omega) ?_
        refine x0 (r := (26, [some (.ref 67), some (.int (zI dp)), none], [.ref 67], es)) i_93_25 rfl ?_
        refine x0 (r := (27, [some (.ref 67), some (.int (zI dp)), none], [.int (zI dp), .ref 67], es)) i_93_26 rfl ?_
        refine x0 (r := (28, [some (.ref 67), some (.int (zI dp)), none], [.int (zI 1), .int (zI dp), .ref 67], es)) i_93_27 (by rfl) ?_
        refine x_iadd i_93_28 ?_
        exact K7 v1 e_v1 c2 c6 c13
theorem s_ma32 {O : pOut} {d kc ks : Nat} {Q : pRes → Prop} {es : PH} {R : Nat → Int32} {n0 cn : Nat} {dp v : Int} (hs_es : sh es) (hd : 0 ≤ dp ∧ dp ≤ 6) (hv : v = 0 ∨ v = 1) (ht : -3000 ≤ (gI es 3 8).toInt ∧ (gI es 3 8).toInt ≤ 999) (hT_es : hOK tT es) (hr_es : tkH R n0 cn es)
    (K1 : Q (.inl (some (.int (zI v))), es, kc, ks)) :
    aW O d 93 kc ks Q (32, [some (.ref 67), some (.int (zI dp)), none], [.int (zI v)], es) := by
  refine x0 (r := (39, [some (.ref 67), some (.int (zI dp)), none], [.int (zI v)], es)) i_93_32 rfl ?_
  refine x_ret (v := some (.int (zI v))) i_93_39 rfl (fun _ => rfl) rfl rfl (pFin_b (by omega)) ?_
  exact K1
theorem s_ma76 {O : pOut} {d kc ks : Nat} {Q : pRes → Prop} {es : PH} {R : Nat → Int32} {n0 cn : Nat} {dp v : Int} (hs_es : sh es) (hd : 0 ≤ dp ∧ dp ≤ 6) (hv : v = 0 ∨ v = 1) (ht : -3000 ≤ (gI es 3 8).toInt ∧ (gI es 3 8).toInt ≤ 999) (hT_es : hOK tT es) (hr_es : tkH R n0 cn es)
    (K1 : v ≠ 0 → ∀ v2 : Int, v2 = (gI es 3 8).toInt → v2 = (-1060) → ∀ es4 : PH, paHP R n0 cn  es es4 → aW O (d + 2) 93 kc ks Q (110, [some (.ref 67), some (.int (zI dp)), some (.int (zI v2))], [.ref 67], es4))
    (K2 : v ≠ 0 → ∀ v2 : Int, v2 = (gI es 3 8).toInt → ¬ (v2 = (-1060)) → v2 = (-1062) → ∀ es6 : PH, paHP R n0 cn  es es6 → aW O (d + 2) 93 kc ks Q (110, [some (.ref 67), some (.int (zI dp)), some (.int (zI v2))], [.ref 67], es6))
    (K3 : v ≠ 0 → ∀ v2 : Int, v2 = (gI es 3 8).toInt → ¬ (v2 = (-1060)) → ¬ (v2 = (-1062)) → ∀ es7 : PH, ∀ v8 : Int, flHP R n0 cn  es es7 v8 → Q (.inl (some (.int (zI v8))), es7, kc, ks))
    (K4 : ¬ (v ≠ 0) → Q (.inl (some (.int (zI 0))), es, kc, ks)) :
    aW O (d + 2) 93 kc ks Q (76, [some (.ref 67), some (.int (zI dp)), none], [.int (zI v)], es) := by
  by_cases c1 : v ≠ 0
  · refine x_ifT i_93_76 (by unfold i32 iLO iHI; omega) rfl (by simp only [zC, cR]; omega) ?_
    refine x0 (r := (82, [some (.ref 67), some (.int (zI dp)), none], [.ref 67], es)) i_93_81 rfl ?_
    refine x_geti (p := 3) i_93_82 hs_es rfl rfl ?_
    obtain ⟨v2, e_v2⟩ : ∃ z : Int, z = (gI es 3 8).toInt := ⟨_, rfl⟩
    rw [← e_v2]
    have r_v2 : iLO ≤ v2 ∧ v2 ≤ iHI := by rw [e_v2]; exact i32_rng _
    unfold iLO iHI at r_v2
    refine x0 (r := (86, [some (.ref 67), some (.int (zI dp)), some (.int (zI v2))], [], es)) i_93_85 rfl ?_
    refine x0 (r := (87, [some (.ref 67), some (.int (zI dp)), some (.int (zI v2))], [.int (zI v2)], es)) i_93_86 rfl ?_
    refine x0 (r := (90, [some (.ref 67), some (.int (zI dp)), some (.int (zI v2))], [.int (zI (-1060)), .int (zI v2)], es)) i_93_87 (by rfl) ?_
    by_cases c3 : v2 = (-1060)
    · refine x_cmpT i_93_90 (by unfold i32 iLO iHI; omega) (by unfold i32 iLO iHI; omega) rfl (by simp only [zC, cR]; omega) ?_
      refine x0 (r := (106, [some (.ref 67), some (.int (zI dp)), some (.int (zI v2))], [.ref 67], es)) i_93_105 rfl ?_
      refine x_call (vs := [.ref 67]) (rs := []) i_93_106 rfl (fun _ => rfl) rfl rfl rfl rfl rfl (pCall_v (p := 3) hs_es rfl rfl rfl rfl rfl (by decide) rfl rfl rfl rfl rfl) ?_
      show aW _ _ _ _ _ _ (0, [some (.ref 67)], [], es)
      refine paH hs_es hT_es hr_es (by omega) (fun es4 p_es4 => ?_)
      have hs_es4 : sh es4 := p_es4.1
      have hT_es4 : hOK tT es4 := p_es4.2.1
      have f_es4 := paH_f p_es4
      have hr_es4 : tkH R n0 cn es4 := p_es4.2.2.1
      show aW _ _ _ _ _ _ (109, [some (.ref 67), some (.int (zI dp)), some (.int (zI v2))], [], es4)
      refine x0 (r := (110, [some (.ref 67), some (.int (zI dp)), some (.int (zI v2))], [.ref 67], es4)) i_93_109 rfl ?_
      exact K1 c1 v2 e_v2 c3 es4 p_es4
    · refine x_cmpF i_93_90 (by unfold i32 iLO iHI; omega) (by unfold i32 iLO iHI; omega) rfl (by simp only [zC, cR]; omega) ?_
      refine x0 (r := (94, [some (.ref 67), some (.int (zI dp)), some (.int (zI v2))], [.int (zI v2)], es)) i_93_93 rfl ?_
      refine x0 (r := (97, [some (.ref 67), some (.int (zI dp)), some (.int (zI v2))], [.int (zI (-1062)), .int (zI v2)], es)) i_93_94 (by rfl) ?_
      by_cases c5 : v2 = (-1062)
      · refine x_cmpT i_93_97 (by unfold i32 iLO iHI; omega) (by unfold i32 iLO iHI; omega) rfl (by simp only [zC, cR]; omega) ?_
        refine x0 (r := (106, [some (.ref 67), some (.int (zI dp)), some (.int (zI v2))], [.ref 67], es)) i_93_105 rfl ?_
        refine x_call (vs := [.ref 67]) (rs := []) i_93_106 rfl (fun _ => rfl) rfl rfl rfl rfl rfl (pCall_v (p := 3) hs_es rfl rfl rfl rfl rfl (by decide) rfl rfl rfl rfl rfl) ?_
        show aW _ _ _ _ _ _ (0, [some (.ref 67)], [], es)
        refine paH hs_es hT_es hr_es (by omega) (fun es6 p_es6 => ?_)
        have hs_es6 : sh es6 := p_es6.1
        have hT_es6 : hOK tT es6 := p_es6.2.1
        have f_es6 := paH_f p_es6
        have hr_es6 : tkH R n0 cn es6 := p_es6.2.2.1
        show aW _ _ _ _ _ _ (109, [some (.ref 67), some (.int (zI dp)), some (.int (zI v2))], [], es6)
        refine x0 (r := (110, [some (.ref 67), some (.int (zI dp)), some (.int (zI v2))], [.ref 67], es6)) i_93_109 rfl ?_
        exact K2 c1 v2 e_v2 c3 c5 es6 p_es6
      · refine x_cmpF i_93_97 (by unfold i32 iLO iHI; omega) (by unfold i32 iLO iHI; omega) rfl (by simp only [zC, cR]; omega) ?_
        refine x0 (r := (101, [some (.ref 67), some (.int (zI dp)), some (.int (zI v2))], [.ref 67], es)) i_93_100 rfl ?_
        refine x_call (vs := [.ref 67]) (rs := []) i_93_101 rfl (fun _ => rfl) rfl rfl rfl rfl rfl (pCall_v (p := 3) hs_es rfl rfl rfl rfl rfl (by decide) rfl rfl rfl rfl rfl) ?_
        show aW _ _ _ _ _ _ (0, [some (.ref 67)], [], es)
        refine flH hs_es hT_es hr_es (fun es7 v8 p_es7 => ?_)
        have hs_es7 : sh es7 := p_es7.1
        have hT_es7 : hOK tT es7 := p_es7.2.1
        have hr_es7 : tkH R n0 cn es7 := p_es7.2.2.1
        have r_v8 := flH_v p_es7
        show aW _ _ _ _ _ _ (104, [some (.ref 67), some (.int (zI dp)), some (.int (zI v2))], [.int (zI v8)], es7)
        refine x_ret (v := some (.int (zI v8))) i_93_104 rfl (fun _ => rfl) rfl rfl (pFin_b (by omega)) ?_
        exact K3 c1 v2 e_v2 c3 c5 es7 v8 p_es7
  · refine x_ifF i_93_76 (by unfold i32 iLO iHI; omega) rfl (by simp only [zC, cR]; omega) ?_
    refine x0 (r := (80, [some (.ref 67), some (.int (zI dp)), none], [.int (zI 0)], es)) i_93_79 (by rfl) ?_
    refine x_ret (v := some (.int (zI 0))) i_93_80 rfl (fun _ => rfl) rfl rfl (pFin_b (by omega)) ?_
    exact K4 c1
theorem s_ma113 {O : pOut} {d kc ks : Nat} {Q : pRes → Prop} {es : PH} {R : Nat → Int32} {n0 cn : Nat} {dp t v : Int} (hs_es : sh es) (hd : 0 ≤ dp ∧ dp ≤ 6) (hv : v = 0 ∨ v = 1) (ht : -3000 ≤ (gI es 3 8).toInt ∧ (gI es 3 8).toInt ≤ 999) (hT_es : hOK tT es) (hr_es : tkH R n0 cn es)
    (K1 : v ≠ 0 → ∀ es2 : PH, emHP R n0 cn t es es2 → Q (.inl (some (.int (zI 1))), es2, kc, ks))
    (K2 : ¬ (v ≠ 0) → Q (.inl (some (.int (zI 0))), es, kc, ks)) :
    aW O (d + 2) 93 kc ks Q (113, [some (.ref 67), some (.int (zI dp)), some (.int (zI t))], [.int (zI v)], es) := by
  by_cases c1 : v ≠ 0
  · refine x_ifT i_93_113 (by unfold i32 iLO iHI; omega) rfl (by simp only [zC, cR]; omega) ?_
    refine x0 (r := (119, [some (.ref 67), some (.int (zI dp)), some (.int (zI t))], [.ref 67], es)) i_93_118 rfl ?_
    refine x0 (r := (120, [some (.ref 67), some (.int (zI dp)), some (.int (zI t))], [.int (zI t), .ref 67], es)) i_93_119 rfl ?_
    refine x_call (vs := [.ref 67, .int (zI t)]) (rs := []) i_93_120 rfl (fun _ => rfl) rfl rfl rfl rfl rfl (pCall_v (p := 3) hs_es rfl rfl rfl rfl rfl (by decide) rfl rfl rfl rfl rfl) ?_
    show aW _ _ _ _ _ _ (0, [some (.ref 67), some (.int (zI t))], [], es)
    refine emH hs_es hT_es hr_es (fun es2 p_es2 => ?_)
    have hs_es2 : sh es2 := p_es2.1
    have hT_es2 : hOK tT es2 := p_es2.2.1
    have f_es2 := emH_f p_es2
    have hr_es2 : tkH R n0 cn es2 := p_es2.2.2.1
    show aW _ _ _ _ _ _ (123, [some (.ref 67), some (.int (zI dp)), some (.int (zI t))], [], es2)
    refine x0 (r := (124, [some (.ref 67), some (.int (zI dp)), some (.int (zI t))], [.int (zI 1)], es2)) i_93_123 (by rfl) ?_
    refine x_ret (v := some (.int (zI 1))) i_93_124 rfl (fun _ => rfl) rfl rfl (pFin_b (by omega)) ?_
    exact K1 c1 es2 p_es2
  · refine x_ifF i_93_113 (by unfold i32 iLO iHI; omega) rfl (by simp only [zC, cR]; omega) ?_
    refine x0 (r := (117, [some (.ref 67), some (.int (zI dp)), some (.int (zI t))], [.int (zI 0)], es)) i_93_116 (by rfl) ?_
    refine x_ret (v := some (.int (zI 0))) i_93_117 rfl (fun _ => rfl) rfl rfl (pFin_b (by omega)) ?_
    exact K2 c1
theorem s_mn0 {O : pOut} {d kc ks : Nat} {Q : pRes → Prop} {es : PH} {R : Nat → Int32} {n0 cn : Nat} {dp : Int} (hs_es : sh es) (hd : 0 ≤ dp ∧ dp ≤ 6) (hq : (gI es 3 8).toInt = -7 ∨ (gI es 3 8).toInt = -1040) (ht : -3000 ≤ (gI es 3 8).toInt ∧ (gI es 3 8).toInt ≤ 999) (hT_es : hOK tT es) (hr_es : tkH R n0 cn es)
    (K1 : ∀ v1 : Int, v1 = (gI es 3 8).toInt → v1 ≠ (-7) → ∀ es3 : PH, paHP R n0 cn  es es3 → aW O (d + 2) 94 kc ks Q (36, [some (.ref 67), some (.int (zI dp)), some (.int (zI 0))], [.int (zI dp), .ref 67], es3))
    (K2 : ∀ v1 : Int, v1 = (gI es 3 8).toInt → ¬ (v1 ≠ (-7)) → ∀ es4 : PH, paHP R n0 cn  es es4 → aW O (d + 2) 94 kc ks Q (25, [some (.ref 67), some (.int (zI dp)), some (.int (zI 1))], [.int (zI dp), .ref 67], es4)) :
    aW O (d + 2) 94 kc ks Q (0, [some (.ref 67), some (.int (zI dp)), none], [], es) := by
  refine x0 (r := (1, [some (.ref 67), some (.int (zI dp)), none], [.ref 67], es)) i_94_0 rfl ?_
  refine x_geti (p := 3) i_94_1 hs_es rfl rfl ?_
  obtain ⟨v1, e_v1⟩ : ∃ z : Int, z = (gI es 3 8).toInt := ⟨_, rfl⟩
  rw [← e_v1]
  have r_v1 : iLO ≤ v1 ∧ v1 ≤ iHI := by rw [e_v1]; exact i32_rng _
  unfold iLO iHI at r_v1
  refine x0 (r := (6, [some (.ref 67), some (.int (zI dp)), none], [.int (zI (-7)), .int (zI v1)], es)) i_94_4 (by rfl) ?_
  by_cases c2 : v1 ≠ (-7)
  · refine x_cmpT i_94_6 (by unfold i32 iLO iHI; omega) (by unfold i32 iLO iHI; omega) rfl (by simp only [zC, cR]; omega) ?_
    refine x0 (r := (14, [some (.ref 67), some (.int (zI dp)), none], [.int (zI 0)], es)) i_94_13 (by rfl) ?_
    refine x0 (r := (15, [some (.ref 67), some (.int (zI dp)), some (.int (zI 0))], [], es)) i_94_14 rfl ?_
    refine x0 (r := (16, [some (.ref 67), some (.int (zI dp)), some (.int (zI 0))], [.ref 67], es)) i_94_15 rfl ?_
    refine x_call (vs := [.ref 67]) (rs := []) i_94_16 rfl (fun _ => rfl) rfl rfl rfl rfl rfl (pCall_v (p := 3) hs_es rfl rfl rfl rfl rfl (by decide) rfl rfl rfl rfl rfl) ?_
    show aW _ _ _ _ _ _ (0, [some (.ref 67)], [], es)
    refine paH hs_es hT_es hr_es (by omega) (fun es3 p_es3 => ?_)
    have hs_es3 : sh es3 := p_es3.1
    have hT_es3 : hOK tT es3 := p_es3.2.1
    have f_es3 := paH_f p_es3
    have hr_es3 : tkH R n0 cn es3 := p_es3.2.2.1
    show aW _ _ _ _ _ _ (19, [some (.ref 67), some (.int (zI dp)), some (.int (zI 0))], [], es3)
    refine x0 (r := (20, [some (.ref 67), some (.int (zI dp)), some (.int (zI 0))], [.int (zI 0)], es3)) i_94_19 rfl ?_
    refine x_ifT i_94_20 (by unfold i32 iLO iHI; omega) rfl (by simp only [zC, cR]; omega) ?_
    refine x0 (r := (35, [some (.ref 67), some (.int (zI dp)), some (.int (zI 0))], [.ref 67], es3)) i_94_34 rfl ?_
    refine x0 (r := (36, [some (.ref 67), some (.int (zI dp)), some (.int (zI 0))], [.int (zI dp), .ref 67], es3)) i_94_35 rfl ?_
    exact K1 v1 e_v1 c2 es3 p_es3
  · refine x_cmpF i_94_6 (by unfold i32 iLO iHI; omega) (by unfold i32 iLO iHI; omega) rfl (by simp only [zC, cR]; omega) ?_
    refine x0 (r := (10, [some (.ref 67), some (.int (zI dp)), none], [.int (zI 1)], es)) i_94_9 (by rfl) ?_
    refine x0 (r := (14, [some (.ref 67), some (.int (zI dp)), none], [.int (zI 1)], es)) i_94_10 rfl ?_
    refine x0 (r := (15, [some (.ref 67), some (.int (zI dp)), some (.int (zI 1))], [], es)) i_94_14 rfl ?_
    refine x0 (r := (16, [some (.ref 67), some (.int (zI dp)), some (.int (zI 1))], [.ref 67], es)) i_94_15 rfl ?_
    refine x_call (vs := [.ref 67]) (rs := []) i_94_16 rfl (fun _ => rfl) rfl rfl rfl rfl rfl (pCall_v (p := 3) hs_es rfl rfl rfl rfl rfl (by decide) rfl rfl rfl rfl rfl) ?_
    show aW _ _ _ _ _ _ (0, [some (.ref 67)], [], es)
    refine paH hs_es hT_es hr_es (by omega) (fun es4 p_es4 => ?_)
    have hs_es4 : sh es4 := p_es4.1
    have hT_es4 : hOK tT es4 := p_es4.2.1
    have f_es4 := paH_f p_es4
    have hr_es4 : tkH R n0 cn es4 := p_es4.2.2.1
    show aW _ _ _ _ _ _ (19, [some (.ref 67), some (.int (zI dp)), some (.int (zI 1))], [], es4)
    refine x0 (r := (20, [some (.ref 67), some (.int (zI dp)), some (.int (zI 1))], [.int (zI 1)], es4)) i_94_19 rfl ?_
    refine x_ifF i_94_20 (by unfold i32 iLO iHI; omega) rfl (by simp only [zC, cR]; omega) ?_
    refine x0 (r := (24, [some (.ref 67), some (.int (zI dp)), some (.int (zI 1))], [.ref 67], es4)) i_94_23 rfl ?_
    refine x0 (r := (25, [some (.ref 67), some (.int (zI dp)), some (.int (zI 1))], [.int (zI dp), .ref 67], es4)) i_94_24 rfl ?_
    exact K2 v1 e_v1 c2 es4 p_es4
theorem s_mn28 {O : pOut} {d kc ks : Nat} {Q : pRes → Prop} {es : PH} {R : Nat → Int32} {n0 cn : Nat} {dp v : Int} (hs_es : sh es) (hd : 0 ≤ dp ∧ dp ≤ 6) (hv : v = 0 ∨ v = 1) (ht : -3000 ≤ (gI es 3 8).toInt ∧ (gI es 3 8).toInt ≤ 999) (hT_es : hOK tT es) (hr_es : tkH R n0 cn es)
    (K1 : v ≠ 0 → ∀ es2 : PH, emHP R n0 cn (-7) es es2 → Q (.inl (some (.int (zI 1))), es2, kc, ks))
    (K2 : ¬ (v ≠ 0) → Q (.inl (some (.int (zI 0))), es, kc, ks)) :
    aW O (d + 2) 94 kc ks Q (28, [some (.ref 67), some (.int (zI dp)), some (.int (zI 1))], [.int (zI v)], es) := by
  by_cases c1 : v ≠ 0
  · refine x_ifT i_94_28 (by unfold i32 iLO iHI; omega) rfl (by simp only [zC, cR]; omega) ?_
    refine x0 (r := (45, [some (.ref 67), some (.int (zI dp)), some (.int (zI 1))], [.int (zI 1)], es)) i_94_44 rfl ?_
    refine x_ifF i_94_45 (by unfold i32 iLO iHI; omega) rfl (by simp only [zC, cR]; omega) ?_
    refine x0 (r := (49, [some (.ref 67), some (.int (zI dp)), some (.int (zI 1))], [.ref 67], es)) i_94_48 rfl ?_
    refine x0 (r := (51, [some (.ref 67), some (.int (zI dp)), some (.int (zI 1))], [.int (zI (-7)), .ref 67], es)) i_94_49 (by rfl) ?_
    refine x_call (vs := [.ref 67, .int (zI (-7))]) (rs := []) i_94_51 rfl (fun _ => rfl) rfl rfl rfl rfl rfl (pCall_v (p := 3) hs_es rfl rfl rfl rfl rfl (by decide) rfl rfl rfl rfl rfl) ?_
    show aW _ _ _ _ _ _ (0, [some (.ref 67), some (.int (zI (-7)))], [], es)
    refine emH hs_es hT_es hr_es (fun es2 p_es2 => ?_)
    have hs_es2 : sh es2 := p_es2.1
    have hT_es2 : hOK tT es2 := p_es2.2.1
    have f_es2 := emH_f p_es2
    have hr_es2 : tkH R n0 cn es2 := p_es2.2.2.1
    show aW _ _ _ _ _ _ (54, [some (.ref 67), some (.int (zI dp)), some (.int (zI 1))], [], es2)
    refine x0 (r := (55, [some (.ref 67), some (.int (zI dp)), some (.int (zI 1))], [.int (zI 1)], es2)) i_94_54 (by rfl) ?_
    refine x_ret (v := some (.int (zI 1))) i_94_55 rfl (fun _ => rfl) rfl rfl (pFin_b (by omega)) ?_
    exact K1 c1 es2 p_es2
  · refine x_ifF i_94_28 (by unfold i32 iLO iHI; omega) rfl (by simp only [zC, cR]; omega) ?_
    refine x0 (r := (42, [some (.ref 67), some (.int (zI dp)), some (.int (zI 1))], [], es)) i_94_31 rfl ?_
    refine x0 (r := (43, [some (.ref 67), some (.int (zI dp)), some (.int (zI 1))], [.int (zI 0)], es)) i_94_42 (by rfl) ?_
    refine x_ret (v := some (.int (zI 0))) i_94_43 rfl (fun _ => rfl) rfl rfl (pFin_b (by omega)) ?_
    exact K2 c1
theorem s_mn39 {O : pOut} {d kc ks : Nat} {Q : pRes → Prop} {es : PH} {R : Nat → Int32} {n0 cn : Nat} {dp v : Int} (hs_es : sh es) (hd : 0 ≤ dp ∧ dp ≤ 6) (hv : v = 0 ∨ v = 1) (ht : -3000 ≤ (gI es 3 8).toInt ∧ (gI es 3 8).toInt ≤ 999) (hT_es : hOK tT es) (hr_es : tkH R n0 cn es)
    (K1 : v ≠ 0 → ∀ v2 : Int, v2 = (gI es 3 8).toInt → v2 = (-1041) → ∀ es4 : PH, paHP R n0 cn  es es4 → Q (.inl (some (.int (zI 1))), es4, kc, ks))
    (K2 : v ≠ 0 → ∀ v2 : Int, v2 = (gI es 3 8).toInt → ¬ (v2 = (-1041)) → ∀ es5 : PH, ∀ v6 : Int, flHP R n0 cn  es es5 v6 → Q (.inl (some (.int (zI v6))), es5, kc, ks))
    (K3 : ¬ (v ≠ 0) → Q (.inl (some (.int (zI 0))), es, kc, ks)) :
    aW O (d + 2) 94 kc ks Q (39, [some (.ref 67), some (.int (zI dp)), some (.int (zI 0))], [.int (zI v)], es) := by
  by_cases c1 : v ≠ 0
  · refine x_ifT i_94_39 (by unfold i32 iLO iHI; omega) rfl (by simp only [zC, cR]; omega) ?_
    refine x0 (r := (45, [some (.ref 67), some (.int (zI dp)), some (.int (zI 0))], [.int (zI 0)], es)) i_94_44 rfl ?_
    refine x_ifT i_94_45 (by unfold i32 iLO iHI; omega) rfl (by simp only [zC, cR]; omega) ?_
    refine x0 (r := (57, [some (.ref 67), some (.int (zI dp)), some (.int (zI 0))], [.ref 67], es)) i_94_56 rfl ?_
    refine x_geti (p := 3) i_94_57 hs_es rfl rfl ?_
    obtain ⟨v2, e_v2⟩ : ∃ z : Int, z = (gI es 3 8).toInt := ⟨_, rfl⟩
    rw [← e_v2]
    have r_v2 : iLO ≤ v2 ∧ v2 ≤ iHI := by rw [e_v2]; exact i32_rng _
    unfold iLO iHI at r_v2
    refine x0 (r := (63, [some (.ref 67), some (.int (zI dp)), some (.int (zI 0))], [.int (zI (-1041)), .int (zI v2)], es)) i_94_60 (by rfl) ?_
    by_cases c3 : v2 = (-1041)
    · refine x_cmpT i_94_63 (by unfold i32 iLO iHI; omega) (by unfold i32 iLO iHI; omega) rfl (by simp only [zC, cR]; omega) ?_
      refine x0 (r := (72, [some (.ref 67), some (.int (zI dp)), some (.int (zI 0))], [.ref 67], es)) i_94_71 rfl ?_
      refine x_call (vs := [.ref 67]) (rs := []) i_94_72 rfl (fun _ => rfl) rfl rfl rfl rfl rfl (pCall_v (p := 3) hs_es rfl rfl rfl rfl rfl (by decide) rfl rfl rfl rfl rfl) ?_
      show aW _ _ _ _ _ _ (0, [some (.ref 67)], [], es)
      refine paH hs_es hT_es hr_es (by omega) (fun es4 p_es4 => ?_)
      have hs_es4 : sh es4 := p_es4.1
      have hT_es4 : hOK tT es4 := p_es4.2.1
      have f_es4 := paH_f p_es4
      have hr_es4 : tkH R n0 cn es4 := p_es4.2.2.1
      show aW _ _ _ _ _ _ (75, [some (.ref 67), some (.int (zI dp)), some (.int (zI 0))], [], es4)
      refine x0 (r := (76, [some (.ref 67), some (.int (zI dp)), some (.int (zI 0))], [.int (zI 1)], es4)) i_94_75 (by rfl) ?_
      refine x_ret (v := some (.int (zI 1))) i_94_76 rfl (fun _ => rfl) rfl rfl (pFin_b (by omega)) ?_
      exact K1 c1 v2 e_v2 c3 es4 p_es4
    · refine x_cmpF i_94_63 (by unfold i32 iLO iHI; omega) (by unfold i32 iLO iHI; omega) rfl (by simp only [zC, cR]; omega) ?_
      refine x0 (r := (67, [some (.ref 67), some (.int (zI dp)), some (.int (zI 0))], [.ref 67], es)) i_94_66 rfl ?_
      refine x_call (vs := [.ref 67]) (rs := []) i_94_67 rfl (fun _ => rfl) rfl rfl rfl rfl rfl (pCall_v (p := 3) hs_es rfl rfl rfl rfl rfl (by decide) rfl rfl rfl rfl rfl) ?_
      show aW _ _ _ _ _ _ (0, [some (.ref 67)], [], es)
      refine flH hs_es hT_es hr_es (fun es5 v6 p_es5 => ?_)
      have hs_es5 : sh es5 := p_es5.1
      have hT_es5 : hOK tT es5 := p_es5.2.1
      have hr_es5 : tkH R n0 cn es5 := p_es5.2.2.1
      have r_v6 := flH_v p_es5
      show aW _ _ _ _ _ _ (70, [some (.ref 67), some (.int (zI dp)), some (.int (zI 0))], [.int (zI v6)], es5)
      refine x_ret (v := some (.int (zI v6))) i_94_70 rfl (fun _ => rfl) rfl rfl (pFin_b (by omega)) ?_
      exact K2 c1 v2 e_v2 c3 es5 v6 p_es5
  · refine x_ifF i_94_39 (by unfold i32 iLO iHI; omega) rfl (by simp only [zC, cR]; omega) ?_
    refine x0 (r := (43, [some (.ref 67), some (.int (zI dp)), some (.int (zI 0))], [.int (zI 0)], es)) i_94_42 (by rfl) ?_
    refine x_ret (v := some (.int (zI 0))) i_94_43 rfl (fun _ => rfl) rfl rfl (pFin_b (by omega)) ?_
    exact K3 c1
theorem s_mc0 {O : pOut} {d kc ks : Nat} {Q : pRes → Prop} {es : PH} {R : Nat → Int32} {n0 cn : Nat} {dp : Int} (hs_es : sh es) (hd : 0 ≤ dp ∧ dp ≤ 6) (ht : -3000 ≤ (gI es 3 8).toInt ∧ (gI es 3 8).toInt ≤ 999) (hT_es : hOK tT es) (hr_es : tkH R n0 cn es)
    (K1 : aW O d 92 kc ks Q (2, [some (.ref 67), some (.int (zI dp)), none, none, none], [.int (zI dp), .ref 67], es)) :
    aW O d 92 kc ks Q (0, [some (.ref 67), some (.int (zI dp)), none, none, none], [], es) := by
  refine x0 (r := (1, [some (.ref 67), some (.int (zI dp)), none, none, none], [.ref 67], es)) i_92_0 rfl ?_
  refine x0 (r := (2, [some (.ref 67), some (.int (zI dp)), none, none, none], [.int (zI dp), .ref 67], es)) i_92_1 rfl ?_
  exact K1
theorem s_mc5 {O : pOut} {d kc ks : Nat} {Q : pRes → Prop} {es : PH} {R : Nat → Int32} {n0 cn : Nat} {dp v : Int} (hs_es : sh es) (hd : 0 ≤ dp ∧ dp ≤ 6) (hv : v = 0 ∨ v = 1) (ht : -3000 ≤ (gI es 3 8).toInt ∧ (gI es 3 8).toInt ≤ 999) (hT_es : hOK tT es) (hr_es : tkH R n0 cn es)
    (K1 : v ≠ 0 → aW O d 92 kc ks Q (14, [some (.ref 67), some (.int (zI dp)), some (.int (zI 0)), some (.int (zI 0)), none], [], es))
    (K2 : ¬ (v ≠ 0) → Q (.inl (some (.int (zI 0))), es, kc, ks)) :
    aW O d 92 kc ks Q (5, [some (.ref 67), some (.int (zI dp)), none, none, none], [.int (zI v)], es) := by
  by_cases c1 : v ≠ 0
  · refine x_ifT i_92_5 (by unfold i32 iLO iHI; omega) rfl (by simp only [zC, cR]; omega) ?_
    refine x0 (r := (11, [some (.ref 67), some (.int (zI dp)), none, none, none], [.int (zI 0)], es)) i_92_10 (by rfl) ?_
    refine x0 (r := (12, [some (.ref 67), some (.int (zI dp)), some (.int (zI 0)), none, none], [], es)) i_92_11 rfl ?_
    refine x0 (r := (13, [some (.ref 67), some (.int (zI dp)), some (.int (zI 0)), none, none], [.int (zI 0)], es)) i_92_12 (by rfl) ?_
    refine x0 (r := (14, [some (.ref 67), some (.int (zI dp)), some (.int (zI 0)), some (.int (zI 0)), none], [], es)) i_92_13 rfl ?_
    exact K1 c1
  · refine x_ifF i_92_5 (by unfold i32 iLO iHI; omega) rfl (by simp only [zC, cR]; omega) ?_
    refine x0 (r := (9, [some (.ref 67), some (.int (zI dp)), none, none, none], [.int (zI 0)], es)) i_92_8 (by rfl) ?_
    refine x_ret (v := some (.int (zI 0))) i_92_9 rfl (fun _ => rfl) rfl rfl (pFin_b (by omega)) ?_
    exact K2 c1
theorem s_mc14 {O : pOut} {d kc ks : Nat} {Q : pRes → Prop} {es : PH} {R : Nat → Int32} {n0 cn : Nat} {dp o k : Int} {x4 : Option Value} (hs_es : sh es) (hd : 0 ≤ dp ∧ dp ≤ 6) (ho : o = 0 ∨ o = 1) (hk : 0 ≤ k ∧ k ≤ 400) (ht : -3000 ≤ (gI es 3 8).toInt ∧ (gI es 3 8).toInt ≤ 999) (hT_es : hOK tT es) (hr_es : tkH R n0 cn es)
    (K1 : 400 ≤ k → o = 0 → Q (.inl (some (.int (zI 1))), es, kc, ks))
    (K2 : 400 ≤ k → ¬ (o = 0) → ∀ es3 : PH, emHP R n0 cn (-9) es es3 → Q (.inl (some (.int (zI 1))), es3, kc, ks))
    (K3 : ¬ (400 ≤ k) → ∀ v4 : Int, v4 = (gI es 3 8).toInt → v4 = (-8) → o ≠ 0 → ∀ es7 : PH, paHP R n0 cn  es es7 → aW O (d + 2) 92 kc ks Q (91, [some (.ref 67), some (.int (zI dp)), some (.int (zI 1)), some (.int (zI k)), some (.int (zI 1))], [.int (zI dp), .ref 67], es7))
    (K4 : ¬ (400 ≤ k) → ∀ v4 : Int, v4 = (gI es 3 8).toInt → v4 = (-8) → ¬ (o ≠ 0) → ∀ es8 : PH, paHP R n0 cn  es es8 → aW O (d + 2) 92 kc ks Q (91, [some (.ref 67), some (.int (zI dp)), some (.int (zI 0)), some (.int (zI k)), some (.int (zI 1))], [.int (zI dp), .ref 67], es8))
    (K5 : ¬ (400 ≤ k) → ∀ v4 : Int, v4 = (gI es 3 8).toInt → ¬ (v4 = (-8)) → v4 ≠ (-9) → o = 0 → Q (.inl (some (.int (zI 1))), es, kc, ks))
    (K6 : ¬ (400 ≤ k) → ∀ v4 : Int, v4 = (gI es 3 8).toInt → ¬ (v4 = (-8)) → v4 ≠ (-9) → ¬ (o = 0) → ∀ es11 : PH, emHP R n0 cn (-9) es es11 → Q (.inl (some (.int (zI 1))), es11, kc, ks))
    (K7 : ¬ (400 ≤ k) → ∀ v4 : Int, v4 = (gI es 3 8).toInt → ¬ (v4 = (-8)) → ¬ (v4 ≠ (-9)) → o = 0 → ∀ es13 : PH, paHP R n0 cn  es es13 → aW O (d + 2) 92 kc ks Q (91, [some (.ref 67), some (.int (zI dp)), some (.int (zI 1)), some (.int (zI k)), some (.int (zI 0))], [.int (zI dp), .ref 67], es13))
    (K8 : ¬ (400 ≤ k) → ∀ v4 : Int, v4 = (gI es 3 8).toInt → ¬ (v4 = (-8)) → ¬ (v4 ≠ (-9)) → ¬ (o = 0) → ∀ es14 : PH, emHP R n0 cn (-9) es es14 → ∀ es15 : PH, paHP R n0 cn  es14 es15 → aW O (d + 2) 92 kc ks Q (91, [some (.ref 67), some (.int (zI dp)), some (.int (zI 1)), some (.int (zI k)), some (.int (zI 0))], [.int (zI dp), .ref 67], es15)) :
    aW O (d + 2) 92 kc ks Q (14, [some (.ref 67), some (.int (zI dp)), some (.int (zI o)), some (.int (zI k)), x4], [], es) := by
  refine x0 (r := (15, [some (.ref 67), some (.int (zI dp)), some (.int (zI o)), some (.int (zI k)), x4], [.int (zI k)], es)) i_92_14 rfl ?_
  refine x0 (r := (18, [some (.ref 67), some (.int (zI dp)), some (.int (zI o)), some (.int (zI k)), x4], [.int (zI 400), .int (zI k)], es)) i_92_15 (by rfl) ?_
  by_cases c1 : 400 ≤ k
  · refine x_cmpT i_92_18 (by unfold i32 iLO iHI; omega) (by unfold i32 iLO iHI; omega) rfl (by simp only [zC, cR]; omega) ?_
    refine x0 (r := (117, [some (.ref 67), some (.int (zI dp)), some (.int (zI o)), some (.int (zI k)), x4], [.int (zI o)], es)) i_92_116 rfl ?_
    by_cases c2 : o = 0
    · refine x_ifT i_92_117 (by unfold i32 iLO iHI; omega) rfl (by simp only [zC, cR]; omega) ?_
      refine x0 (r := (127, [some (.ref 67), some (.int (zI dp)), some (.int (zI o)), some (.int (zI k)), x4], [.int (zI 1)], es)) i_92_126 (by rfl) ?_
      refine x_ret (v := some (.int (zI 1))) i_92_127 rfl (fun _ => rfl) rfl rfl (pFin_b (by omega)) ?_
      exact K1 c1 c2
    · refine x_ifF i_92_117 (by unfold i32 iLO iHI; omega) rfl (by simp only [zC, cR]; omega) ?_
      refine x0 (r := (121, [some (.ref 67), some (.int (zI dp)), some (.int (zI o)), some (.int (zI k)), x4], [.ref 67], es)) i_92_120 rfl ?_
      refine x0 (r := (123, [some (.ref 67), some (.int (zI dp)), some (.int (zI o)), some (.int (zI k)), x4], [.int (zI (-9)), .ref 67], es)) i_92_121 (by rfl) ?_
      refine x_call (vs := [.ref 67, .int (zI (-9))]) (rs := []) i_92_123 rfl (fun _ => rfl) rfl rfl rfl rfl rfl (pCall_v (p := 3) hs_es rfl rfl rfl rfl rfl (by decide) rfl rfl rfl rfl rfl) ?_
      show aW _ _ _ _ _ _ (0, [some (.ref 67), some (.int (zI (-9)))], [], es)
      refine emH hs_es hT_es hr_es (fun es3 p_es3 => ?_)
      have hs_es3 : sh es3 := p_es3.1
      have hT_es3 : hOK tT es3 := p_es3.2.1
      have f_es3 := emH_f p_es3
      have hr_es3 : tkH R n0 cn es3 := p_es3.2.2.1
      show aW _ _ _ _ _ _ (126, [some (.ref 67), some (.int (zI dp)), some (.int (zI o)), some (.int (zI k)), x4], [], es3)
      refine x0 (r := (127, [some (.ref 67), some (.int (zI dp)), some (.int (zI o)), some (.int (zI k)), x4], [.int (zI 1)], es3)) i_92_126 (by rfl) ?_
      refine x_ret (v := some (.int (zI 1))) i_92_127 rfl (fun _ => rfl) rfl rfl (pFin_b (by omega)) ?_
      exact K2 c1 c2 es3 p_es3
  · refine x_cmpF i_92_18 (by unfold i32 iLO iHI; omega) (by unfold i32 iLO iHI; omega) rfl (by simp only [zC, cR]; omega) ?_
    refine x0 (r := (22, [some (.ref 67), some (.int (zI dp)), some (.int (zI o)), some (.int (zI k)), x4], [.ref 67], es)) i_92_21 rfl ?_
    refine x_geti (p := 3) i_92_22 hs_es rfl rfl ?_
    obtain ⟨v4, e_v4⟩ : ∃ z : Int, z = (gI es 3 8).toInt := ⟨_, rfl⟩
    rw [← e_v4]
    have r_v4 : iLO ≤ v4 ∧ v4 ≤ iHI := by rw [e_v4]; exact i32_rng _
    unfold iLO iHI at r_v4
    refine x0 (r := (27, [some (.ref 67), some (.int (zI dp)), some (.int (zI o)), some (.int (zI k)), x4], [.int (zI (-8)), .int (zI v4)], es)) i_92_25 (by rfl) ?_
    by_cases c5 : v4 = (-8)
    · refine x_cmpT i_92_27 (by unfold i32 iLO iHI; omega) (by unfold i32 iLO iHI; omega) rfl (by simp only [zC, cR]; omega) ?_
      refine x0 (r := (40, [some (.ref 67), some (.int (zI dp)), some (.int (zI o)), some (.int (zI k)), x4], [.ref 67], es)) i_92_39 rfl ?_
      refine x_geti (p := 3) i_92_40 hs_es rfl rfl ?_
      rw [show (gI es 3 8).toInt = v4 from e_v4.symm]
      refine x0 (r := (45, [some (.ref 67), some (.int (zI dp)), some (.int (zI o)), some (.int (zI k)), x4], [.int (zI (-8)), .int (zI v4)], es)) i_92_43 (by rfl) ?_
      refine x_cmpF i_92_45 (by unfold i32 iLO iHI; omega) (by unfold i32 iLO iHI; omega) rfl (by simp only [zC, cR]; omega) ?_
      refine x0 (r := (49, [some (.ref 67), some (.int (zI dp)), some (.int (zI o)), some (.int (zI k)), x4], [.int (zI 1)], es)) i_92_48 (by rfl) ?_
      refine x0 (r := (53, [some (.ref 67), some (.int (zI dp)), some (.int (zI o)), some (.int (zI k)), x4], [.int (zI 1)], es)) i_92_49 rfl ?_
      refine x0 (r := (55, [some (.ref 67), some (.int (zI dp)), some (.int (zI o)), some (.int (zI k)), some (.int (zI 1))], [], es)) i_92_53 rfl ?_
      refine x0 (r := (57, [some (.ref 67), some (.int (zI dp)), some (.int (zI o)), some (.int (zI k)), some (.int (zI 1))], [.int (zI 1)], es)) i_92_55 rfl ?_
      refine x_ifT i_92_57 (by unfold i32 iLO iHI; omega) rfl (by simp only [zC, cR]; omega) ?_
      refine x0 (r := (71, [some (.ref 67), some (.int (zI dp)), some (.int (zI o)), some (.int (zI k)), some (.int (zI 1))], [.int (zI o)], es)) i_92_70 rfl ?_
      by_cases c6 : o ≠ 0
      · refine x_ifT i_92_71 (by unfold i32 iLO iHI; omega) rfl (by simp only [zC, cR]; omega) ?_
        refine x0 (r := (80, [some (.ref 67), some (.int (zI dp)), some (.int (zI o)), some (.int (zI k)), some (.int (zI 1))], [.int (zI 1)], es)) i_92_79 (by rfl) ?_
        refine x0 (r := (84, [some (.ref 67), some (.int (zI dp)), some (.int (zI o)), some (.int (zI k)), some (.int (zI 1))], [.int (zI 1)], es)) i_92_80 rfl ?_
        refine x0 (r := (85, [some (.ref 67), some (.int (zI dp)), some (.int (zI 1)), some (.int (zI k)), some (.int (zI 1))], [], es)) i_92_84 rfl ?_
        refine x0 (r := (86, [some (.ref 67), some (.int (zI dp)), some (.int (zI 1)), some (.int (zI k)), some (.int (zI 1))], [.ref 67], es)) i_92_85 rfl ?_
        refine x_call (vs := [.ref 67]) (rs := []) i_92_86 rfl (fun _ => rfl) rfl rfl rfl rfl rfl (pCall_v (p := 3) hs_es rfl rfl rfl rfl rfl (by decide) rfl rfl rfl rfl rfl) ?_
        show aW _ _ _ _ _ _ (0, [some (.ref 67)], [], es)
        refine paH hs_es hT_es hr_es (by omega) (fun es7 p_es7 => ?_)
        have hs_es7 : sh es7 := p_es7.1
        have hT_es7 : hOK tT es7 := p_es7.2.1
        have f_es7 := paH_f p_es7
        have hr_es7 : tkH R n0 cn es7 := p_es7.2.2.1
        show aW _ _ _ _ _ _ (89, [some (.ref 67), some (.int (zI dp)), some (.int (zI 1)), some (.int (zI k)), some (.int (zI 1))], [], es7)
        refine x0 (r := (90, [some (.ref 67), some (.int (zI dp)), some (.int (zI 1)), some (.int (zI k)), some (.int (zI 1))], [.ref 67], es7)) i_92_89 rfl ?_
        refine x0 (r := (91, [some (.ref 67), some (.int (zI dp)), some (.int (zI 1)), some (.int (zI k)), some (.int (zI 1))], [.int (zI dp), .ref 67], es7)) i_92_90 rfl ?_
        exact K3 c1 v4 e_v4 c5 c6 es7 p_es7
      · refine x_ifF i_92_71 (by unfold i32 iLO iHI; omega) rfl (by simp only [zC, cR]; omega) ?_
        refine x0 (r := (76, [some (.ref 67), some (.int (zI dp)), some (.int (zI o)), some (.int (zI k)), some (.int (zI 1))], [.int (zI 1)], es)) i_92_74 rfl ?_
        refine x_ifT i_92_76 (by unfold i32 iLO iHI; omega) rfl (by simp only [zC, cR]; omega) ?_
        refine x0 (r := (84, [some (.ref 67), some (.int (zI dp)), some (.int (zI o)), some (.int (zI k)), some (.int (zI 1))], [.int (zI 0)], es)) i_92_83 (by rfl) ?_
        refine x0 (r := (85, [some (.ref 67), some (.int (zI dp)), some (.int (zI 0)), some (.int (zI k)), some (.int (zI 1))], [], es)) i_92_84 rfl ?_
        refine x0 (r := (86, [some (.ref 67), some (.int (zI dp)), some (.int (zI 0)), some (.int (zI k)), some (.int (zI 1))], [.ref 67], es)) i_92_85 rfl ?_
        refine x_call (vs := [.ref 67]) (rs := []) i_92_86 rfl (fun _ => rfl) rfl rfl rfl rfl rfl (pCall_v (p := 3) hs_es rfl rfl rfl rfl rfl (by decide) rfl rfl rfl rfl rfl) ?_
        show aW _ _ _ _ _ _ (0, [some (.ref 67)], [], es)
        refine paH hs_es hT_es hr_es (by omega) (fun es8 p_es8 => ?_)
        have hs_es8 : sh es8 := p_es8.1
        have hT_es8 : hOK tT es8 := p_es8.2.1
        have f_es8 := paH_f p_es8
        have hr_es8 : tkH R n0 cn es8 := p_es8.2.2.1
        show aW _ _ _ _ _ _ (89, [some (.ref 67), some (.int (zI dp)), some (.int (zI 0)), some (.int (zI k)), some (.int (zI 1))], [], es8)
        refine x0 (r := (90, [some (.ref 67), some (.int (zI dp)), some (.int (zI 0)), some (.int (zI k)), some (.int (zI 1))], [.ref 67], es8)) i_92_89 rfl ?_
        refine x0 (r := (91, [some (.ref 67), some (.int (zI dp)), some (.int (zI 0)), some (.int (zI k)), some (.int (zI 1))], [.int (zI dp), .ref 67], es8)) i_92_90 rfl ?_
        exact K4 c1 v4 e_v4 c5 c6 es8 p_es8
    · refine x_cmpF i_92_27 (by unfold i32 iLO iHI; omega) (by unfold i32 iLO iHI; omega) rfl (by simp only [zC, cR]; omega) ?_
      refine x0 (r := (31, [some (.ref 67), some (.int (zI dp)), some (.int (zI o)), some (.int (zI k)), x4], [.ref 67], es)) i_92_30 rfl ?_
      refine x_geti (p := 3) i_92_31 hs_es rfl rfl ?_
      rw [show (gI es 3 8).toInt = v4 from e_v4.symm]
      refine x0 (r := (36, [some (.ref 67), some (.int (zI dp)), some (.int (zI o)), some (.int (zI k)), x4], [.int (zI (-9)), .int (zI v4)], es)) i_92_34 (by rfl) ?_
      by_cases c9 : v4 ≠ (-9)
      · refine x_cmpT i_92_36 (by unfold i32 iLO iHI; omega) (by unfold i32 iLO iHI; omega) rfl (by simp only [zC, cR]; omega) ?_
        refine x0 (r := (117, [some (.ref 67), some (.int (zI dp)), some (.int (zI o)), some (.int (zI k)), x4], [.int (zI o)], es)) i_92_116 rfl ?_
        by_cases c10 : o = 0
        · refine x_ifT i_92_117 (by unfold i32 iLO iHI; omega) rfl (by simp only [zC, cR]; omega) ?_
          refine x0 (r := (127, [some (.ref 67), some (.int (zI dp)), some (.int (zI o)), some (.int (zI k)), x4], [.int (zI 1)], es)) i_92_126 (by rfl) ?_
          refine x_ret (v := some (.int (zI 1))) i_92_127 rfl (fun _ => rfl) rfl rfl (pFin_b (by omega)) ?_
          exact K5 c1 v4 e_v4 c5 c9 c10
        · refine x_ifF i_92_117 (by unfold i32 iLO iHI; omega) rfl (by simp only [zC, cR]; omega) ?_
          refine x0 (r := (121, [some (.ref 67), some (.int (zI dp)), some (.int (zI o)), some (.int (zI k)), x4], [.ref 67], es)) i_92_120 rfl ?_
          refine x0 (r := (123, [some (.ref 67), some (.int (zI dp)), some (.int (zI o)), some (.int (zI k)), x4], [.int (zI (-9)), .ref 67], es)) i_92_121 (by rfl) ?_
          refine x_call (vs := [.ref 67, .int (zI (-9))]) (rs := []) i_92_123 rfl (fun _ => rfl) rfl rfl rfl rfl rfl (pCall_v (p := 3) hs_es rfl rfl rfl rfl rfl (by decide) rfl rfl rfl rfl rfl) ?_
          show aW _ _ _ _ _ _ (0, [some (.ref 67), some (.int (zI (-9)))], [], es)
          refine emH hs_es hT_es hr_es (fun es11 p_es11 => ?_)
          have hs_es11 : sh es11 := p_es11.1
          have hT_es11 : hOK tT es11 := p_es11.2.1
          have f_es11 := emH_f p_es11
          have hr_es11 : tkH R n0 cn es11 := p_es11.2.2.1
          show aW _ _ _ _ _ _ (126, [some (.ref 67), some (.int (zI dp)), some (.int (zI o)), some (.int (zI k)), x4], [], es11)
          refine x0 (r := (127, [some (.ref 67), some (.int (zI dp)), some (.int (zI o)), some (.int (zI k)), x4], [.int (zI 1)], es11)) i_92_126 (by rfl) ?_
          refine x_ret (v := some (.int (zI 1))) i_92_127 rfl (fun _ => rfl) rfl rfl (pFin_b (by omega)) ?_
          exact K6 c1 v4 e_v4 c5 c9 c10 es11 p_es11
      · refine x_cmpF i_92_36 (by unfold i32 iLO iHI; omega) (by unfold i32 iLO iHI; omega) rfl (by simp only [zC, cR]; omega) ?_
        refine x0 (r := (40, [some (.ref 67), some (.int (zI dp)), some (.int (zI o)), some (.int (zI k)), x4], [.ref 67], es)) i_92_39 rfl ?_
        refine x_geti (p := 3) i_92_40 hs_es rfl rfl ?_
        rw [show (gI es 3 8).toInt = v4 from e_v4.symm]
        refine x0 (r := (45, [some (.ref 67), some (.int (zI dp)), some (.int (zI o)), some (.int (zI k)), x4], [.int (zI (-8)), .int (zI v4)], es)) i_92_43 (by rfl) ?_
        refine x_cmpT i_92_45 (by unfold i32 iLO iHI; omega) (by unfold i32 iLO iHI; omega) rfl (by simp only [zC, cR]; omega) ?_
        refine x0 (r := (53, [some (.ref 67), some (.int (zI dp)), some (.int (zI o)), some (.int (zI k)), x4], [.int (zI 0)], es)) i_92_52 (by rfl) ?_
        refine x0 (r := (55, [some (.ref 67), some (.int (zI dp)), some (.int (zI o)), some (.int (zI k)), some (.int (zI 0))], [], es)) i_92_53 rfl ?_
        refine x0 (r := (57, [some (.ref 67), some (.int (zI dp)), some (.int (zI o)), some (.int (zI k)), some (.int (zI 0))], [.int (zI 0)], es)) i_92_55 rfl ?_
        refine x_ifF i_92_57 (by unfold i32 iLO iHI; omega) rfl (by simp only [zC, cR]; omega) ?_
        refine x0 (r := (61, [some (.ref 67), some (.int (zI dp)), some (.int (zI o)), some (.int (zI k)), some (.int (zI 0))], [.int (zI o)], es)) i_92_60 rfl ?_
        by_cases c12 : o = 0
        · refine x_ifT i_92_61 (by unfold i32 iLO iHI; omega) rfl (by simp only [zC, cR]; omega) ?_
          refine x0 (r := (71, [some (.ref 67), some (.int (zI dp)), some (.int (zI o)), some (.int (zI k)), some (.int (zI 0))], [.int (zI o)], es)) i_92_70 rfl ?_
          refine x_ifF i_92_71 (by unfold i32 iLO iHI; omega) rfl (by simp only [zC, cR]; omega) ?_
          refine x0 (r := (76, [some (.ref 67), some (.int (zI dp)), some (.int (zI o)), some (.int (zI k)), some (.int (zI 0))], [.int (zI 0)], es)) i_92_74 rfl ?_
          refine x_ifF i_92_76 (by unfold i32 iLO iHI; omega) rfl (by simp only [zC, cR]; omega) ?_
          refine x0 (r := (80, [some (.ref 67), some (.int (zI dp)), some (.int (zI o)), some (.int (zI k)), some (.int (zI 0))], [.int (zI 1)], es)) i_92_79 (by rfl) ?_
          refine x0 (r := (84, [some (.ref 67), some (.int (zI dp)), some (.int (zI o)), some (.int (zI k)), some (.int (zI 0))], [.int (zI 1)], es)) i_92_80 rfl ?_
          refine x0 (r := (85, [some (.ref 67), some (.int (zI dp)), some (.int (zI 1)), some (.int (zI k)), some (.int (zI 0))], [], es)) i_92_84 rfl ?_
          refine x0 (r := (86, [some (.ref 67), some (.int (zI dp)), some (.int (zI 1)), some (.int (zI k)), some (.int (zI 0))], [.ref 67], es)) i_92_85 rfl ?_
          refine x_call (vs := [.ref 67]) (rs := []) i_92_86 rfl (fun _ => rfl) rfl rfl rfl rfl rfl (pCall_v (p := 3) hs_es rfl rfl rfl rfl rfl (by decide) rfl rfl rfl rfl rfl) ?_
          show aW _ _ _ _ _ _ (0, [some (.ref 67)], [], es)
          refine paH hs_es hT_es hr_es (by omega) (fun es13 p_es13 => ?_)
          have hs_es13 : sh es13 := p_es13.1
          have hT_es13 : hOK tT es13 := p_es13.2.1
          have f_es13 := paH_f p_es13
          have hr_es13 : tkH R n0 cn es13 := p_es13.2.2.1
          show aW _ _ _ _ _ _ (89, [some (.ref 67), some (.int (zI dp)), some (.int (zI 1)), some (.int (zI k)), some (.int (zI 0))], [], es13)
          refine x0 (r := (90, [some (.ref 67), some (.int (zI dp)), some (.int (zI 1)), some (.int (zI k)), some (.int (zI 0))], [.ref 67], es13)) i_92_89 rfl ?_
          refine x0 (r := (91, [some (.ref 67), some (.int (zI dp)), some (.int (zI 1)), some (.int (zI k)), some (.int (zI 0))], [.int (zI dp), .ref 67], es13)) i_92_90 rfl ?_
          exact K7 c1 v4 e_v4 c5 c9 c12 es13 p_es13
        · refine x_ifF i_92_61 (by unfold i32 iLO iHI; omega) rfl (by simp only [zC, cR]; omega) ?_
          refine x0 (r := (65, [some (.ref 67), some (.int (zI dp)), some (.int (zI o)), some (.int (zI k)), some (.int (zI 0))], [.ref 67], es)) i_92_64 rfl ?_
          refine x0 (r := (67, [some (.ref 67), some (.int (zI dp)), some (.int (zI o)), some (.int (zI k)), some (.int (zI 0))], [.int (zI (-9)), .ref 67], es)) i_92_65 (by rfl) ?_
          refine x_call (vs := [.ref 67, .int (zI (-9))]) (rs := []) i_92_67 rfl (fun _ => rfl) rfl rfl rfl rfl rfl (pCall_v (p := 3) hs_es rfl rfl rfl rfl rfl (by decide) rfl rfl rfl rfl rfl) ?_
          show aW _ _ _ _ _ _ (0, [some (.ref 67), some (.int (zI (-9)))], [], es)
          refine emH hs_es hT_es hr_es (fun es14 p_es14 => ?_)
          have hs_es14 : sh es14 := p_es14.1
          have hT_es14 : hOK tT es14 := p_es14.2.1
          have f_es14 := emH_f p_es14
          have hr_es14 : tkH R n0 cn es14 := p_es14.2.2.1
          show aW _ _ _ _ _ _ (70, [some (.ref 67), some (.int (zI dp)), some (.int (zI o)), some (.int (zI k)), some (.int (zI 0))], [], es14)
          refine x0 (r := (71, [some (.ref 67), some (.int (zI dp)), some (.int (zI o)), some (.int (zI k)), some (.int (zI 0))], [.int (zI o)], es14)) i_92_70 rfl ?_
          refine x_ifT i_92_71 (by unfold i32 iLO iHI; omega) rfl (by simp only [zC, cR]; omega) ?_
          refine x0 (r := (80, [some (.ref 67), some (.int (zI dp)), some (.int (zI o)), some (.int (zI k)), some (.int (zI 0))], [.int (zI 1)], es14)) i_92_79 (by rfl) ?_
          refine x0 (r := (84, [some (.ref 67), some (.int (zI dp)), some (.int (zI o)), some (.int (zI k)), some (.int (zI 0))], [.int (zI 1)], es14)) i_92_80 rfl ?_
          refine x0 (r := (85, [some (.ref 67), some (.int (zI dp)), some (.int (zI 1)), some (.int (zI k)), some (.int (zI 0))], [], es14)) i_92_84 rfl ?_
          refine x0 (r := (86, [some (.ref 67), some (.int (zI dp)), some (.int (zI 1)), some (.int (zI k)), some (.int (zI 0))], [.ref 67], es14)) i_92_85 rfl ?_
          refine x_call (vs := [.ref 67]) (rs := []) i_92_86 rfl (fun _ => rfl) rfl rfl rfl rfl rfl (pCall_v (p := 3) hs_es14 rfl rfl rfl rfl rfl (by decide) rfl rfl rfl rfl rfl) ?_
          show aW _ _ _ _ _ _ (0, [some (.ref 67)], [], es14)
          refine paH hs_es14 hT_es14 hr_es14 (by omega) (fun es15 p_es15 => ?_)
          have hs_es15 : sh es15 := p_es15.1
          have hT_es15 : hOK tT es15 := p_es15.2.1
          have f_es15 := paH_f p_es15
          have hr_es15 : tkH R n0 cn es15 := p_es15.2.2.1
          show aW _ _ _ _ _ _ (89, [some (.ref 67), some (.int (zI dp)), some (.int (zI 1)), some (.int (zI k)), some (.int (zI 0))], [], es15)
          refine x0 (r := (90, [some (.ref 67), some (.int (zI dp)), some (.int (zI 1)), some (.int (zI k)), some (.int (zI 0))], [.ref 67], es15)) i_92_89 rfl ?_
          refine x0 (r := (91, [some (.ref 67), some (.int (zI dp)), some (.int (zI 1)), some (.int (zI k)), some (.int (zI 0))], [.int (zI dp), .ref 67], es15)) i_92_90 rfl ?_
          exact K8 c1 v4 e_v4 c5 c9 c12 es14 p_es14 es15 p_es15
theorem s_mc94 {O : pOut} {d kc ks : Nat} {Q : pRes → Prop} {es : PH} {R : Nat → Int32} {n0 cn : Nat} {dp o k a v : Int} (hs_es : sh es) (hd : 0 ≤ dp ∧ dp ≤ 6) (ho : o = 0 ∨ o = 1) (hk : 0 ≤ k ∧ k ≤ 399) (ha : a = 0 ∨ a = 1) (hv : v = 0 ∨ v = 1) (ht : -3000 ≤ (gI es 3 8).toInt ∧ (gI es 3 8).toInt ≤ 999) (hT_es : hOK tT es) (hr_es : tkH R n0 cn es)
    (K1 : v ≠ 0 → a = 0 → aW O (d + 2) 92 kc ks Q (14, [some (.ref 67), some (.int (zI dp)), some (.int (zI o)), some (.int (zI (k + 1))), some (.int (zI a))], [], es))
    (K2 : v ≠ 0 → ¬ (a = 0) → ∀ es3 : PH, emHP R n0 cn (-8) es es3 → aW O (d + 2) 92 kc ks Q (14, [some (.ref 67), some (.int (zI dp)), some (.int (zI o)), some (.int (zI (k + 1))), some (.int (zI a))], [], es3))
    (K3 : ¬ (v ≠ 0) → Q (.inl (some (.int (zI 0))), es, kc, ks)) :
    aW O (d + 2) 92 kc ks Q (94, [some (.ref 67), some (.int (zI dp)), some (.int (zI o)), some (.int (zI k)), some (.int (zI a))], [.int (zI v)], es) := by
  by_cases c1 : v ≠ 0
  · refine x_ifT i_92_94 (by unfold i32 iLO iHI; omega) rfl (by simp only [zC, cR]; omega) ?_
    refine x0 (r := (101, [some (.ref 67), some (.int (zI dp)), some (.int (zI o)), some (.int (zI k)), some (.int (zI a))], [.int (zI a)], es)) i_92_99 rfl ?_
    by_cases c2 : a = 0
    · refine x_ifT i_92_101 (by unfold i32 iLO iHI; omega) rfl (by simp only [zC, cR]; omega) ?_
      refine x_iinc (x := k) i_92_110 rfl (by show 3 < 5; decide) ?_
      show aW _ _ _ _ _ _ (113, [some (.ref 67), some (.int (zI dp)), some (.int (zI o)), some (.int (zI (k + 1))), some (.int (zI a))], [], es)
      refine x0 (r := (14, [some (.ref 67), some (.int (zI dp)), some (.int (zI o)), some (.int (zI (k + 1))), some (.int (zI a))], [], es)) i_92_113 rfl ?_
      exact K1 c1 c2
    · refine x_ifF i_92_101 (by unfold i32 iLO iHI; omega) rfl (by simp only [zC, cR]; omega) ?_
      refine x0 (r := (105, [some (.ref 67), some (.int (zI dp)), some (.int (zI o)), some (.int (zI k)), some (.int (zI a))], [.ref 67], es)) i_92_104 rfl ?_
      refine x0 (r := (107, [some (.ref 67), some (.int (zI dp)), some (.int (zI o)), some (.int (zI k)), some (.int (zI a))], [.int (zI (-8)), .ref 67], es)) i_92_105 (by rfl) ?_
      refine x_call (vs := [.ref 67, .int (zI (-8))]) (rs := []) i_92_107 rfl (fun _ => rfl) rfl rfl rfl rfl rfl (pCall_v (p := 3) hs_es rfl rfl rfl rfl rfl (by decide) rfl rfl rfl rfl rfl) ?_
      show aW _ _ _ _ _ _ (0, [some (.ref 67), some (.int (zI (-8)))], [], es)
      refine emH hs_es hT_es hr_es (fun es3 p_es3 => ?_)
      have hs_es3 : sh es3 := p_es3.1
      have hT_es3 : hOK tT es3 := p_es3.2.1
      have f_es3 := emH_f p_es3
      have hr_es3 : tkH R n0 cn es3 := p_es3.2.2.1
      show aW _ _ _ _ _ _ (110, [some (.ref 67), some (.int (zI dp)), some (.int (zI o)), some (.int (zI k)), some (.int (zI a))], [], es3)
      refine x_iinc (x := k) i_92_110 rfl (by show 3 < 5; decide) ?_
      show aW _ _ _ _ _ _ (113, [some (.ref 67), some (.int (zI dp)), some (.int (zI o)), some (.int (zI (k + 1))), some (.int (zI a))], [], es3)
      refine x0 (r := (14, [some (.ref 67), some (.int (zI dp)), some (.int (zI o)), some (.int (zI (k + 1))), some (.int (zI a))], [], es3)) i_92_113 rfl ?_
      exact K2 c1 c2 es3 p_es3
  · refine x_ifF i_92_94 (by unfold i32 iLO iHI; omega) rfl (by simp only [zC, cR]; omega) ?_
    refine x0 (r := (98, [some (.ref 67), some (.int (zI dp)), some (.int (zI o)), some (.int (zI k)), some (.int (zI a))], [.int (zI 0)], es)) i_92_97 (by rfl) ?_
    refine x_ret (v := some (.int (zI 0))) i_92_98 rfl (fun _ => rfl) rfl rfl (pFin_b (by omega)) ?_
    exact K3 c1
section
variable {O : pOut} {d kc ks : Nat} {Q : pRes → Prop} {es : PH} {R : Nat → Int32} {n cn : Nat}
/-- an ATOM, with so many levels left -/
theorem ma_step {D F : Nat} {dp : Int} (hF : 400 ≤ F) (hd : dp + (D : Int) = 6) (h0 : 0 ≤ dp) (hT : hOK tT es) (ht : tkH R n cn es)
    (hN : ∀ D', D = D' + 1 → (gI es 3 8).toInt = -7 ∨ (gI es 3 8).toInt = -1040 → ∀ (kc ks : Nat) (Q : pRes → Prop), (∀ es' v, mrP (zAt (zR R) n F D (zPs (zR R) n (kT es))) R n cn es es' v → Q (.inl (some (.int (zI v))), es', kc, ks)) → aW O (d + 2) 94 kc ks Q (0, [some (.ref 67), some (.int (zI (dp + 1))), none], [], es))
    (K : ∀ es' v, mrP (zAt (zR R) n F D (zPs (zR R) n (kT es))) R n cn es es' v → Q (.inl (some (.int (zI v))), es', kc, ks)) : aW O (d + 3) 93 kc ks Q (0, [some (.ref 67), some (.int (zI dp)), none], [], es) := by
  have htk := tkH_tok ht
  have hdd : 0 ≤ dp ∧ dp ≤ 6 := ⟨by omega, by omega⟩
  obtain ⟨q, hq⟩ : ∃ q, q = zPs (zR R) n (kT es) := ⟨_, rfl⟩
  rw [← hq] at htk K
  have deep : ∀ es2 v, zCod (zR R) n q = -7 ∨ zCod (zR R) n q = -1040 → 6 ≤ dp → flHP R n cn es es2 v → Q (.inl (some (.int (zI v))), es2, kc, ks) := by
    intro es2 v hc h6 p
    obtain rfl : D = 0 := by omega
    exact K es2 v (mrP_no (zAt_d0 hc) p hq)
  have nest : zCod (zR R) n q = -7 ∨ zCod (zR R) n q = -1040 → ¬ 6 ≤ dp → aW O (d + 3) 93 kc ks Q (29, [some (.ref 67), some (.int (zI dp)), none], [.int (zI (dp + 1)), .ref 67], es) := by
    intro hc h6
    refine x_call (vs := [.ref 67, .int (zI (dp + 1))]) (rs := []) i_93_29 rfl (fun _ => rfl) rfl rfl rfl rfl rfl (pCall_v (p := 3) (sh_of hT) rfl rfl rfl rfl rfl (by decide) rfl rfl rfl rfl rfl) ?_
    show aW _ _ _ _ _ _ (0, [some (.ref 67), some (.int (zI (dp + 1))), none], [], es)
    refine hN (D - 1) (by omega) (by omega) _ _ _ (fun es' v p => ?_)
    show aW _ _ _ _ _ _ (32, [some (.ref 67), some (.int (zI dp)), none], [.int (zI v)], es')
    rw [← hq] at p
    exact s_ma32 (d := d + 3) (sh_of p.1) hdd (mrP_v p) (tkH_bd p.2.1) p.1 p.2.1 (K es' v p)
  have tag : ∀ x es2 es3, ¬ zCod (zR R) n q = -7 → ¬ zCod (zR R) n q = -1040 → zCod (zR R) n q = -5 ∨ zCod (zR R) n q = -6 → emHP R n cn x es es2 → paHP R n cn es2 es3 → Q (.inl (some (.int (zI 1))), es3, kc, ks) := by
    intro x es2 es3 h1 h2 h3 p2 p3
    have hk3 : kT es3 = kT es + 1 := by rw [p3.2.2.2.1, p2.2.2.2.1]
    exact K es3 1 (mrP_ok (b := zNn (zR R) n q) (by rw [zAt_a1 h1 h2, zA1_t h3]) p3.2.1 p3.2.2.1 (by rw [hk3, zPs_nn, hq]) (kpH_t p2.2.2.2.2.1 p3.2.2.2.2.1) (by omega))
  refine s_ma0 (d := d + 1) (sh_of hT) hdd (tkH_bd ht) hT ht (fun v1 e1 c2 c3 es4 v5 p5 => deep es4 v5 (by omega) c3 p5) (fun v1 e1 c2 c3 => nest (by omega) c3) (fun v1 e1 c2 c6 c7 es8 p8 es9 p9 => tag v1 es8 es9 (by omega) (by omega) (by omega) p8 p9) (fun v1 e1 c2 c6 c7 c10 => ?_) (fun v1 e1 c2 c6 c7 c10 es11 p11 es12 p12 => tag v1 es11 es12 (by omega) (by omega) (by omega) p11 p12) (fun v1 e1 c2 c6 c13 es14 v15 p15 => deep es14 v15 (by omega) c13 p15) (fun v1 e1 c2 c6 c13 => nest (by omega) c13)
  -- two sums
  have hX0 : zAt (zR R) n F D q = zA1 (zR R) n F q := zAt_a1 (by omega) (by omega)
  have hnt : ¬ (zCod (zR R) n q = -5 ∨ zCod (zR R) n q = -6) := by omega
  refine c_ms (d := d) i_93_73 (F := F) hF hT ht (fun es2 v2 p2 => ?_)
  rw [← hq] at p2
  have second : ∀ es4 (t : Int), ¬ v2 = 0 → paHP R n cn es2 es4 → (gI es2 3 8).toInt = -1060 ∨ (gI es2 3 8).toInt = -1062 → aW O (d + 3) 93 kc ks Q (110, [some (.ref 67), some (.int (zI dp)), some (.int (zI t))], [.ref 67], es4) := by
    intro es4 t hv p4 hs
    obtain ⟨y1, y2, y3, y4⟩ := mrP_y p2 hv
    have htk2 := tkH_tok p2.2.1
    rw [← y2] at htk2
    have hX := hX0.trans (zA1_c hnt y1 (by omega))
    have hz4 : zPs (zR R) n (kT es4) = zNn (zR R) n (zSu (zR R) n F q).1 := by rw [p4.2.2.2.1, zPs_nn, y2]
    refine c_ms (d := d) i_93_110 (F := F) hF p4.2.1 p4.2.2.1 (fun es5 v5 p5 => ?_)
    rw [hz4, ← hX] at p5
    refine s_ma113 (d := d + 1) (sh_of p5.1) hdd (mrP_v p5) (tkH_bd p5.2.1) p5.1 p5.2.1 (fun hv5 es6 p6 => ?_) (fun hv5 => ?_)
    · obtain ⟨z1, z2, z3, z4⟩ := mrP_y p5 hv5
      exact K es6 1 ⟨p6.2.1, p6.2.2.1, Or.inl ⟨rfl, z1, by rw [p6.2.2.2.1]; exact z2, kpH_t y3 (kpH_t p4.2.2.2.2.1 (kpH_t z3 p6.2.2.2.2.1)), by rw [p6.2.2.2.1]; have := p4.2.2.2.1; omega⟩⟩
    · obtain ⟨z1, z2⟩ := mrP_n p5 (by omega)
      exact K es5 0 ⟨p5.1, p5.2.1, Or.inr ⟨rfl, z1, z2⟩⟩
  refine s_ma76 (d := d + 1) (sh_of p2.1) hdd (mrP_v p2) (tkH_bd p2.2.1) p2.1 p2.2.1 (fun hv v3 e3 c3 es4 p4 => second es4 v3 hv p4 (by omega)) (fun hv v3 e3 c3 c5 es6 p6 => second es6 v3 hv p6 (by omega)) (fun hv v3 e3 c3 c5 es7 v8 p8 => ?_) (fun hv => ?_)
  · obtain ⟨y1, y2, y3, y4⟩ := mrP_y p2 hv
    have htk2 := tkH_tok p2.2.1
    rw [← y2] at htk2
    exact K es7 v8 (mrP_no (hX0.trans (zA1_w hnt y1 (by omega))) p8 y2)
  · obtain ⟨z1, z2⟩ := mrP_n p2 (by omega)
    have hX := hX0.trans (zA1_n hnt z1)
    refine K es2 0 ⟨p2.1, p2.2.1, Or.inr ⟨rfl, by rw [hX], by rw [hX]; exact z2⟩⟩
/-- not ATOM, ( C ) -/
theorem mn_step {D F : Nat} {dp : Int} (hd : dp + (D : Int) = 6) (h0 : 0 ≤ dp) (hT : hOK tT es) (ht : tkH R n cn es) (hc : (gI es 3 8).toInt = -7 ∨ (gI es 3 8).toInt = -1040)
    (hA : ∀ (kc ks : Nat) (Q : pRes → Prop) (es1 : PH), hOK tT es1 → tkH R n cn es1 → (∀ es' v, mrP (zAt (zR R) n F D (zPs (zR R) n (kT es1))) R n cn es1 es' v → Q (.inl (some (.int (zI v))), es', kc, ks)) → aW O (d + 1) 93 kc ks Q (0, [some (.ref 67), some (.int (zI dp)), none], [], es1))
    (hC : ∀ (kc ks : Nat) (Q : pRes → Prop) (es1 : PH), hOK tT es1 → tkH R n cn es1 → (∀ es' v, mrP (zCo (zR R) n F (zAt (zR R) n F D) (zPs (zR R) n (kT es1))) R n cn es1 es' v → Q (.inl (some (.int (zI v))), es', kc, ks)) → aW O (d + 1) 92 kc ks Q (0, [some (.ref 67), some (.int (zI dp)), none, none, none], [], es1))
    (K : ∀ es' v, mrP (zAt (zR R) n F (D + 1) (zPs (zR R) n (kT es))) R n cn es es' v → Q (.inl (some (.int (zI v))), es', kc, ks)) : aW O (d + 2) 94 kc ks Q (0, [some (.ref 67), some (.int (zI dp)), none], [], es) := by
  have htk := tkH_tok ht
  have hdd : 0 ≤ dp ∧ dp ≤ 6 := ⟨by omega, by omega⟩
  obtain ⟨q, hq⟩ : ∃ q, q = zPs (zR R) n (kT es) := ⟨_, rfl⟩
  rw [← hq] at htk K
  refine s_mn0 (d := d) (sh_of hT) hdd hc (tkH_bd ht) hT ht (fun v1 e1 c1 es3 p3 => ?_) (fun v1 e1 c1 es4 p4 => ?_)
  · have hX : zAt (zR R) n F (D + 1) q = zPa (zR R) n (zCo (zR R) n F (zAt (zR R) n F D) (zNn (zR R) n q)) := zAt_par (by omega)
    have hz3 : zPs (zR R) n (kT es3) = zNn (zR R) n q := by rw [p3.2.2.2.1, zPs_nn, hq]
    refine x_call (vs := [.ref 67, .int (zI dp)]) (rs := []) i_94_36 rfl (fun _ => rfl) rfl rfl rfl rfl rfl (pCall_v (p := 3) p3.1 rfl rfl rfl rfl rfl (by decide) rfl rfl rfl rfl rfl) ?_
    show aW _ _ _ _ _ _ (0, [some (.ref 67), some (.int (zI dp)), none, none, none], [], es3)
    refine hC _ _ _ es3 p3.2.1 p3.2.2.1 (fun es5 v5 p5 => ?_)
    show aW _ _ _ _ _ _ (39, [some (.ref 67), some (.int (zI dp)), some (.int (zI 0))], [.int (zI v5)], es5)
    rw [hz3] at p5
    refine s_mn39 (d := d) (sh_of p5.1) hdd (mrP_v p5) (tkH_bd p5.2.1) p5.1 p5.2.1 (fun hv v6 e6 c6 es7 p7 => ?_) (fun hv v6 e6 c6 es7 v8 p8 => ?_) (fun hv => ?_)
    · obtain ⟨y1, y2, y3, y4⟩ := mrP_y p5 hv
      have htk5 := tkH_tok p5.2.1
      rw [← y2] at htk5
      exact K es7 1 (mrP_ok (hX.trans (zPa_y y1 (by omega))) p7.2.1 p7.2.2.1 (by rw [p7.2.2.2.1, zPs_nn, y2]) (kpH_t p3.2.2.2.2.1 (kpH_t y3 p7.2.2.2.2.1)) (by have := p3.2.2.2.1; have := p7.2.2.2.1; omega))
    · obtain ⟨y1, y2, y3, y4⟩ := mrP_y p5 hv
      have htk5 := tkH_tok p5.2.1
      rw [← y2] at htk5
      exact K es7 v8 (mrP_no (hX.trans (zPa_w y1 (by omega))) p8 y2)
    · obtain ⟨z1, z2⟩ := mrP_n p5 (by omega)
      have hX2 := hX.trans (zPa_n z1)
      exact K es5 0 ⟨p5.1, p5.2.1, Or.inr ⟨rfl, by rw [hX2], by rw [hX2]; exact z2⟩⟩
  · have hX : zAt (zR R) n F (D + 1) q = zAt (zR R) n F D (zNn (zR R) n q) := zAt_not (by omega)
    have hz3 : zPs (zR R) n (kT es4) = zNn (zR R) n q := by rw [p4.2.2.2.1, zPs_nn, hq]
    refine x_call (vs := [.ref 67, .int (zI dp)]) (rs := []) i_94_25 rfl (fun _ => rfl) rfl rfl rfl rfl rfl (pCall_v (p := 3) p4.1 rfl rfl rfl rfl rfl (by decide) rfl rfl rfl rfl rfl) ?_
    show aW _ _ _ _ _ _ (0, [some (.ref 67), some (.int (zI dp)), none], [], es4)
    refine hA _ _ _ es4 p4.2.1 p4.2.2.1 (fun es5 v5 p5 => ?_)
    show aW _ _ _ _ _ _ (28, [some (.ref 67), some (.int (zI dp)), some (.int (zI 1))], [.int (zI v5)], es5)
    rw [hz3, ← hX] at p5
    refine s_mn28 (d := d) (sh_of p5.1) hdd (mrP_v p5) (tkH_bd p5.2.1) p5.1 p5.2.1 (fun hv es6 p6 => ?_) (fun hv => ?_)
    · obtain ⟨z1, z2, z3, z4⟩ := mrP_y p5 hv
      exact K es6 1 ⟨p6.2.1, p6.2.2.1, Or.inl ⟨rfl, z1, by rw [p6.2.2.2.1]; exact z2, kpH_t p4.2.2.2.2.1 (kpH_t z3 p6.2.2.2.2.1), by rw [p6.2.2.2.1]; have := p4.2.2.2.1; omega⟩⟩
    · obtain ⟨z1, z2⟩ := mrP_n p5 (by omega)
      exact K es5 0 ⟨p5.1, p5.2.1, Or.inr ⟨rfl, z1, z2⟩⟩
/-- C -/
theorem mc_step {A : Nat → Nat × Bool} {F : Nat} {dp : Int} (hF : 400 ≤ F) (hdd : 0 ≤ dp ∧ dp ≤ 6) (hT : hOK tT es) (ht : tkH R n cn es)
    (hA : ∀ (kc ks : Nat) (Q : pRes → Prop) (es1 : PH), hOK tT es1 → tkH R n cn es1 → (∀ es' v, mrP (A (zPs (zR R) n (kT es1))) R n cn es1 es' v → Q (.inl (some (.int (zI v))), es', kc, ks)) → aW O (d + 1) 93 kc ks Q (0, [some (.ref 67), some (.int (zI dp)), none], [], es1))
    (K : ∀ es' v, mrP (zCo (zR R) n F A (zPs (zR R) n (kT es))) R n cn es es' v → Q (.inl (some (.int (zI v))), es', kc, ks)) : aW O (d + 2) 92 kc ks Q (0, [some (.ref 67), some (.int (zI dp)), none, none, none], [], es) := by
  obtain ⟨X, hXX⟩ : ∃ X, X = zCo (zR R) n F A (zPs (zR R) n (kT es)) := ⟨_, rfl⟩
  rw [← hXX] at K
  have loop : ∀ (N f : Nat) (o k : Int) (x4 : Option Value) (es1 : PH), cn - kT es1 < N → cn - kT es1 ≤ f → o = 0 ∨ o = 1 → 0 ≤ k → k ≤ kT es1 → hOK tT es1 → tkH R n cn es1 → kpH es es1 → kT es ≤ kT es1 → zCoL (zR R) n A f (zPs (zR R) n (kT es1)) = X → aW O (d + 2) 92 kc ks Q (14, [some (.ref 67), some (.int (zI dp)), some (.int (zI o)), some (.int (zI k)), x4], [], es1) := by
    intro N
    induction N with
    | zero => intro f o k x4 es1 hN; omega
    | succ N ih =>
      intro f o k x4 es1 hN hf ho h0 hk hT1 ht1 hkp hle hX
      have htk := tkH_tok ht1
      have hcl := tkH_le ht1
      have fin : ∀ es2, ¬ (zCod (zR R) n (zPs (zR R) n (kT es1)) = -8 ∨ zCod (zR R) n (zPs (zR R) n (kT es1)) = -9) → hOK tT es2 → tkH R n cn es2 → kT es2 = kT es1 → kpH es1 es2 → Q (.inl (some (.int (zI 1))), es2, kc, ks) := by
        intro es2 hc hT2 ht2 hk2 hkp2
        rw [zCoL_end hc] at hX
        exact K es2 1 (mrP_ok hX.symm hT2 ht2 (by rw [hk2]) (kpH_t hkp hkp2) (by omega))
      have goA : ∀ es2 (o2 a : Int), ¬ 400 ≤ k → zCod (zR R) n (zPs (zR R) n (kT es1)) = -8 ∨ zCod (zR R) n (zPs (zR R) n (kT es1)) = -9 → o2 = 0 ∨ o2 = 1 → a = 0 ∨ a = 1 → hOK tT es2 → tkH R n cn es2 → kT es2 = kT es1 + 1 → kpH es1 es2 → aW O (d + 2) 92 kc ks Q (91, [some (.ref 67), some (.int (zI dp)), some (.int (zI o2)), some (.int (zI k)), some (.int (zI a))], [.int (zI dp), .ref 67], es2) := by
        intro es2 o2 a hk4 hc ho2 ha hT2 ht2 hk2 hkp2
        have hlt := tkH_lt ht1 (by omega)
        obtain ⟨f', rfl⟩ : ∃ f', f = f' + 1 := ⟨f - 1, by omega⟩
        rw [zCoL_co hc, ← zPs_nn, ← hk2] at hX
        refine x_call (vs := [.ref 67, .int (zI dp)]) (rs := []) i_92_91 rfl (fun _ => rfl) rfl rfl rfl rfl rfl (pCall_v (p := 3) (sh_of hT2) rfl rfl rfl rfl rfl (by decide) rfl rfl rfl rfl rfl) ?_
        show aW _ _ _ _ _ _ (0, [some (.ref 67), some (.int (zI dp)), none], [], es2)
        refine hA _ _ _ es2 hT2 ht2 (fun es3 v p3 => ?_)
        show aW _ _ _ _ _ _ (94, [some (.ref 67), some (.int (zI dp)), some (.int (zI o2)), some (.int (zI k)), some (.int (zI a))], [.int (zI v)], es3)
        have goB : ∀ es4 (x5 : Option Value), ¬ v = 0 → hOK tT es4 → tkH R n cn es4 → kT es4 = kT es3 → kpH es3 es4 → aW O (d + 2) 92 kc ks Q (14, [some (.ref 67), some (.int (zI dp)), some (.int (zI o2)), some (.int (zI (k + 1))), x5], [], es4) := by
          intro es4 x5 hv hT4 ht4 hk4' hkp4
          obtain ⟨y1, y2, y3, y4⟩ := mrP_y p3 hv
          rw [zCo_y y1, y2, ← hk4'] at hX
          exact ih f' o2 (k + 1) x5 es4 (by omega) (by omega) ho2 (by omega) (by omega) hT4 ht4 (kpH_t hkp (kpH_t hkp2 (kpH_t y3 hkp4))) (by omega) hX
        refine s_mc94 (d := d) (sh_of p3.1) hdd ho2 ⟨h0, by omega⟩ ha (mrP_v p3) (tkH_bd p3.2.1) p3.1 p3.2.1 (fun hv c => goB es3 _ hv p3.1 p3.2.1 rfl (kpH_r _)) (fun hv c es4 p4 => goB es4 _ hv p4.2.1 p4.2.2.1 p4.2.2.2.1 p4.2.2.2.2.1) (fun hv => ?_)
        obtain ⟨z1, z2⟩ := mrP_n p3 (by omega)
        rw [zCo_n z1] at hX
        exact K es3 0 ⟨p3.1, p3.2.1, Or.inr ⟨rfl, by rw [← hX], by rw [← hX]; exact z2⟩⟩
      have e400 : 400 ≤ k → zCod (zR R) n (zPs (zR R) n (kT es1)) = -2000 := fun h => by have := tkH_end ht1 (by omega); omega
      exact s_mc14 (d := d) (sh_of hT1) hdd ho ⟨h0, by omega⟩ (tkH_bd ht1) hT1 ht1 (fun c1 c2 => fin es1 (by have := e400 c1; omega) hT1 ht1 rfl (kpH_r _)) (fun c1 c2 es3 p3 => fin es3 (by have := e400 c1; omega) p3.2.1 p3.2.2.1 p3.2.2.2.1 p3.2.2.2.2.1) (fun c1 v4 e4 c5 c6 es7 p7 => goA es7 1 1 c1 (by omega) (Or.inr rfl) (Or.inr rfl) p7.2.1 p7.2.2.1 p7.2.2.2.1 p7.2.2.2.2.1) (fun c1 v4 e4 c5 c6 es8 p8 => goA es8 0 1 c1 (by omega) (Or.inl rfl) (Or.inr rfl) p8.2.1 p8.2.2.1 p8.2.2.2.1 p8.2.2.2.2.1) (fun c1 v4 e4 c5 c9 c10 => fin es1 (by omega) hT1 ht1 rfl (kpH_r _)) (fun c1 v4 e4 c5 c9 c10 es11 p11 => fin es11 (by omega) p11.2.1 p11.2.2.1 p11.2.2.2.1 p11.2.2.2.2.1) (fun c1 v4 e4 c5 c9 c12 es13 p13 => goA es13 1 0 c1 (by omega) (Or.inr rfl) (Or.inl rfl) p13.2.1 p13.2.2.1 p13.2.2.2.1 p13.2.2.2.2.1) (fun c1 v4 e4 c5 c9 c12 es14 p14 es15 p15 => goA es15 1 0 c1 (by omega) (Or.inr rfl) (Or.inl rfl) p15.2.1 p15.2.2.1 (by rw [p15.2.2.2.1, p14.2.2.2.1]) (kpH_t p14.2.2.2.2.1 p15.2.2.2.2.1))
  refine s_mc0 (d := d + 2) (sh_of hT) hdd (tkH_bd ht) hT ht ?_
  refine x_call (vs := [.ref 67, .int (zI dp)]) (rs := []) i_92_2 rfl (fun _ => rfl) rfl rfl rfl rfl rfl (pCall_v (p := 3) (sh_of hT) rfl rfl rfl rfl rfl (by decide) rfl rfl rfl rfl rfl) ?_
  show aW _ _ _ _ _ _ (0, [some (.ref 67), some (.int (zI dp)), none], [], es)
  refine hA _ _ _ es hT ht (fun es3 v p3 => ?_)
  show aW _ _ _ _ _ _ (5, [some (.ref 67), some (.int (zI dp)), none, none, none], [.int (zI v)], es3)
  refine s_mc5 (d := d + 2) (sh_of p3.1) hdd (mrP_v p3) (tkH_bd p3.2.1) p3.1 p3.2.1 (fun hv => ?_) (fun hv => ?_)
  · obtain ⟨y1, y2, y3, y4⟩ := mrP_y p3 hv
    have hcl := tkH_le p3.2.1
    rw [zCo_y y1, y2] at hXX
    exact loop _ F 0 0 none es3 (Nat.lt_succ_self _) (by omega) (Or.inl rfl) (by omega) (by omega) p3.1 p3.2.1 y3 y4 hXX.symm
  · obtain ⟨z1, z2⟩ := mrP_n p3 (by omega)
    rw [zCo_n z1] at hXX
    exact K es3 0 ⟨p3.1, p3.2.1, Or.inr ⟨rfl, by rw [hXX], by rw [hXX]; exact z2⟩⟩
end
theorem md_ind {O : pOut} {R : Nat → Int32} {n cn F : Nat} (hF : 400 ≤ F) : ∀ D : Nat,
    (∀ (d kc ks : Nat) (Q : pRes → Prop) (es : PH) (dp : Int), dp + (D : Int) = 6 → 0 ≤ dp → hOK tT es → tkH R n cn es → (∀ es' v, mrP (zAt (zR R) n F D (zPs (zR R) n (kT es))) R n cn es es' v → Q (.inl (some (.int (zI v))), es', kc, ks)) → aW O (d + (3 + 3 * D)) 93 kc ks Q (0, [some (.ref 67), some (.int (zI dp)), none], [], es)) ∧
    (∀ (d kc ks : Nat) (Q : pRes → Prop) (es : PH) (dp : Int), dp + (D : Int) = 6 → 0 ≤ dp → hOK tT es → tkH R n cn es → (∀ es' v, mrP (zCo (zR R) n F (zAt (zR R) n F D) (zPs (zR R) n (kT es))) R n cn es es' v → Q (.inl (some (.int (zI v))), es', kc, ks)) → aW O (d + (4 + 3 * D)) 92 kc ks Q (0, [some (.ref 67), some (.int (zI dp)), none, none, none], [], es)) := by
  have cond : ∀ D : Nat, (∀ (d kc ks : Nat) (Q : pRes → Prop) (es : PH) (dp : Int), dp + (D : Int) = 6 → 0 ≤ dp → hOK tT es → tkH R n cn es → (∀ es' v, mrP (zAt (zR R) n F D (zPs (zR R) n (kT es))) R n cn es es' v → Q (.inl (some (.int (zI v))), es', kc, ks)) → aW O (d + (3 + 3 * D)) 93 kc ks Q (0, [some (.ref 67), some (.int (zI dp)), none], [], es)) →
      (∀ (d kc ks : Nat) (Q : pRes → Prop) (es : PH) (dp : Int), dp + (D : Int) = 6 → 0 ≤ dp → hOK tT es → tkH R n cn es → (∀ es' v, mrP (zCo (zR R) n F (zAt (zR R) n F D) (zPs (zR R) n (kT es))) R n cn es es' v → Q (.inl (some (.int (zI v))), es', kc, ks)) → aW O (d + (4 + 3 * D)) 92 kc ks Q (0, [some (.ref 67), some (.int (zI dp)), none, none, none], [], es)) := by
    intro D hA d kc ks Q es dp h6 h0 hT ht K
    have e1 : d + (4 + 3 * D) = (d + (2 + 3 * D)) + 2 := by omega
    rw [e1]
    refine mc_step (d := d + (2 + 3 * D)) hF ⟨by omega, by omega⟩ hT ht (fun kc ks Q es1 hT1 ht1 K1 => ?_) K
    have e2 : d + (2 + 3 * D) + 1 = d + (3 + 3 * D) := by omega
    rw [e2]
    exact hA d kc ks Q es1 dp h6 h0 hT1 ht1 K1
  intro D
  induction D with
  | zero =>
    have hA : (∀ (d kc ks : Nat) (Q : pRes → Prop) (es : PH) (dp : Int), dp + ((0 : Nat) : Int) = 6 → 0 ≤ dp → hOK tT es → tkH R n cn es → (∀ es' v, mrP (zAt (zR R) n F 0 (zPs (zR R) n (kT es))) R n cn es es' v → Q (.inl (some (.int (zI v))), es', kc, ks)) → aW O (d + (3 + 3 * 0)) 93 kc ks Q (0, [some (.ref 67), some (.int (zI dp)), none], [], es)) := by
      intro d kc ks Q es dp h6 h0 hT ht K
      exact ma_step (d := d) hF h6 h0 hT ht (fun D' h => absurd h (by omega)) K
    exact ⟨hA, cond 0 hA⟩
  | succ D ih =>
    have hA : (∀ (d kc ks : Nat) (Q : pRes → Prop) (es : PH) (dp : Int), dp + ((D + 1 : Nat) : Int) = 6 → 0 ≤ dp → hOK tT es → tkH R n cn es → (∀ es' v, mrP (zAt (zR R) n F (D + 1) (zPs (zR R) n (kT es))) R n cn es es' v → Q (.inl (some (.int (zI v))), es', kc, ks)) → aW O (d + (3 + 3 * (D + 1))) 93 kc ks Q (0, [some (.ref 67), some (.int (zI dp)), none], [], es)) := by
      intro d kc ks Q es dp h6 h0 hT ht K
      have e1 : d + (3 + 3 * (D + 1)) = (d + (3 + 3 * D)) + 3 := by omega
      rw [e1]
      refine ma_step (d := d + (3 + 3 * D)) hF h6 h0 hT ht (fun D' hD hc kc ks Q K1 => ?_) K
      refine mn_step (d := d + (3 + 3 * D)) (D := D) (F := F) (dp := dp + 1) (by omega) (by omega) hT ht hc (fun kc ks Q es1 hT1 ht1 K2 => ?_) (fun kc ks Q es1 hT1 ht1 K2 => ?_) K1
      · have e2 : d + (3 + 3 * D) + 1 = (d + 1) + (3 + 3 * D) := by omega
        rw [e2]
        exact ih.1 (d + 1) kc ks Q es1 (dp + 1) (by omega) (by omega) hT1 ht1 K2
      · have e2 : d + (3 + 3 * D) + 1 = d + (4 + 3 * D) := by omega
        rw [e2]
        exact ih.2 d kc ks Q es1 (dp + 1) (by omega) (by omega) hT1 ht1 K2
    exact ⟨hA, cond (D + 1) hA⟩
theorem mc_all {O : pOut} {d kc ks : Nat} {Q : pRes → Prop} {es : PH} {R : Nat → Int32} {n cn F : Nat} (hF : 400 ≤ F) (hT : hOK tT es) (ht : tkH R n cn es) (K : ∀ es' v, mrP (zCo (zR R) n F (zAt (zR R) n F 6) (zPs (zR R) n (kT es))) R n cn es es' v → Q (.inl (some (.int (zI v))), es', kc, ks)) : aW O (d + 22) 92 kc ks Q (0, [some (.ref 67), some (.int (zI 0)), none, none, none], [], es) :=
  (md_ind hF 6).2 d kc ks Q es 0 (by omega) (by omega) hT ht K
