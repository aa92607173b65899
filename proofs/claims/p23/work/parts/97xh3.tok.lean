theorem s_tk0 {O : pOut} {d kc ks : Nat} {Q : pRes → Prop} {es : PH} {R : Nat → Int32} {n0 : Nat} {b e : Int} (hs_es : sh es) (hb : 0 ≤ b ∧ b ≤ 399) (he : b + 1 ≤ e ∧ e ≤ 400) (hT_es : hOK tT es) (hr_es : jB R n0 es)
    (K1 : ∀ v1 : Int, lrP R b es v1 → v1 = 0 → ∀ v3 : Int, dgP R b es v3 → v3 = 0 → ∀ v5 : Int, atP 2 b es v5 → Q (.inl (some (.int (zI ((-1000) - v5)))), es, kc, ks))
    (K2 : ∀ v1 : Int, lrP R b es v1 → v1 = 0 → ∀ v3 : Int, dgP R b es v3 → ¬ (v3 = 0) → aW O (d + 2) 84 kc ks Q (26, [some (.ref 67), some (.int (zI b)), some (.int (zI e))], [.int (zI e), .int (zI b), .ref 67], es))
    (K3 : ∀ v1 : Int, lrP R b es v1 → ¬ (v1 = 0) → ∀ v6 : Int, woP R b e es v6 → Q (.inl (some (.int (zI v6))), es, kc, ks)) :
    aW O (d + 2) 84 kc ks Q (0, [some (.ref 67), some (.int (zI b)), some (.int (zI e))], [], es) := by
  refine x0 (r := (1, [some (.ref 67), some (.int (zI b)), some (.int (zI e))], [.ref 67], es)) i_84_0 rfl ?_
  refine x0 (r := (2, [some (.ref 67), some (.int (zI b)), some (.int (zI e))], [.int (zI b), .ref 67], es)) i_84_1 rfl ?_
  refine x_call (vs := [.ref 67, .int (zI b)]) (rs := []) i_84_2 rfl (fun _ => rfl) rfl rfl rfl rfl rfl (pCall_v (p := 3) hs_es rfl rfl rfl rfl rfl (by decide) rfl rfl rfl rfl rfl) ?_
  show aW _ _ _ _ _ _ (0, [some (.ref 67), some (.int (zI b))], [], es)
  refine lr_spec hs_es hT_es hr_es (by omega) (fun v1 p_v1 => ?_)
  have r_v1 := p_v1.1
  show aW _ _ _ _ _ _ (5, [some (.ref 67), some (.int (zI b)), some (.int (zI e))], [.int (zI v1)], es)
  by_cases c2 : v1 = 0
  · refine x_ifT i_84_5 (by unfold i32 iLO iHI; omega) rfl (by simp only [zC, cR]; omega) ?_
    refine x0 (r := (16, [some (.ref 67), some (.int (zI b)), some (.int (zI e))], [.ref 67], es)) i_84_15 rfl ?_
    refine x0 (r := (17, [some (.ref 67), some (.int (zI b)), some (.int (zI e))], [.int (zI b), .ref 67], es)) i_84_16 rfl ?_
    refine x_call (vs := [.ref 67, .int (zI b)]) (rs := []) i_84_17 rfl (fun _ => rfl) rfl rfl rfl rfl rfl (pCall_v (p := 3) hs_es rfl rfl rfl rfl rfl (by decide) rfl rfl rfl rfl rfl) ?_
    show aW _ _ _ _ _ _ (0, [some (.ref 67), some (.int (zI b))], [], es)
    refine dg_spec hs_es hT_es hr_es (by omega) (fun v3 p_v3 => ?_)
    have r_v3 := p_v3.1
    show aW _ _ _ _ _ _ (20, [some (.ref 67), some (.int (zI b)), some (.int (zI e))], [.int (zI v3)], es)
    by_cases c4 : v3 = 0
    · refine x_ifT i_84_20 (by unfold i32 iLO iHI; omega) rfl (by simp only [zC, cR]; omega) ?_
      refine x0 (r := (35, [some (.ref 67), some (.int (zI b)), some (.int (zI e))], [.int (zI (-1000))], es)) i_84_32 (by rfl) ?_
      refine x0 (r := (36, [some (.ref 67), some (.int (zI b)), some (.int (zI e))], [.ref 67, .int (zI (-1000))], es)) i_84_35 rfl ?_
      refine x_getr (p := 3) (k := 65) i_84_36 hs_es rfl rfl ?_
      show aW _ _ _ _ _ _ (39, [some (.ref 67), some (.int (zI b)), some (.int (zI e))], [.ref 65, .int (zI (-1000))], es)
      refine x_getr (p := 1) (k := 66) i_84_39 hs_es rfl rfl ?_
      show aW _ _ _ _ _ _ (42, [some (.ref 67), some (.int (zI b)), some (.int (zI e))], [.ref 66, .int (zI (-1000))], es)
      refine x0 (r := (43, [some (.ref 67), some (.int (zI b)), some (.int (zI e))], [.int (zI b), .ref 66, .int (zI (-1000))], es)) i_84_42 rfl ?_
      refine x_call (vs := [.ref 66, .int (zI b)]) (rs := [.int (zI (-1000))]) i_84_43 rfl (fun _ => rfl) rfl rfl rfl rfl rfl rfl ?_
      show aW _ _ _ _ _ _ (0, [some (.ref 66), some (.int (zI b))], [], es)
      refine at_sp (p := 2) rfl hs_es (by omega) (by omega) (by decide) (fun v5 p_v5 => ?_)
      have r_v5 := atP_rng p_v5
      show aW _ _ _ _ _ _ (46, [some (.ref 67), some (.int (zI b)), some (.int (zI e))], [.int (zI v5), .int (zI (-1000))], es)
      refine x_isub i_84_46 ?_
      refine x_ret (v := some (.int (zI ((-1000) - v5)))) i_84_47 rfl (fun _ => rfl) rfl rfl rfl ?_
      exact K1 v1 p_v1 c2 v3 p_v3 c4 v5 p_v5
    · refine x_ifF i_84_20 (by unfold i32 iLO iHI; omega) rfl (by simp only [zC, cR]; omega) ?_
      refine x0 (r := (24, [some (.ref 67), some (.int (zI b)), some (.int (zI e))], [.ref 67], es)) i_84_23 rfl ?_
      refine x0 (r := (25, [some (.ref 67), some (.int (zI b)), some (.int (zI e))], [.int (zI b), .ref 67], es)) i_84_24 rfl ?_
      refine x0 (r := (26, [some (.ref 67), some (.int (zI b)), some (.int (zI e))], [.int (zI e), .int (zI b), .ref 67], es)) i_84_25 rfl ?_
      exact K2 v1 p_v1 c2 v3 p_v3 c4
  · refine x_ifF i_84_5 (by unfold i32 iLO iHI; omega) rfl (by simp only [zC, cR]; omega) ?_
    refine x0 (r := (9, [some (.ref 67), some (.int (zI b)), some (.int (zI e))], [.ref 67], es)) i_84_8 rfl ?_
    refine x0 (r := (10, [some (.ref 67), some (.int (zI b)), some (.int (zI e))], [.int (zI b), .ref 67], es)) i_84_9 rfl ?_
    refine x0 (r := (11, [some (.ref 67), some (.int (zI b)), some (.int (zI e))], [.int (zI e), .int (zI b), .ref 67], es)) i_84_10 rfl ?_
    refine x_call (vs := [.ref 67, .int (zI b), .int (zI e)]) (rs := []) i_84_11 rfl (fun _ => rfl) rfl rfl rfl rfl rfl (pCall_v (p := 3) hs_es rfl rfl rfl rfl rfl (by decide) rfl rfl rfl rfl rfl) ?_
    show aW _ _ _ _ _ _ (0, [some (.ref 67), some (.int (zI b)), some (.int (zI e)), none, none, none], [], es)
    refine wo_spec hs_es hT_es hr_es (by omega) (by omega) (fun v6 p_v6 => ?_)
    have r_v6 := woP_rng p_v6
    show aW _ _ _ _ _ _ (14, [some (.ref 67), some (.int (zI b)), some (.int (zI e))], [.int (zI v6)], es)
    refine x_ret (v := some (.int (zI v6))) i_84_14 rfl (fun _ => rfl) rfl rfl rfl ?_
    exact K3 v1 p_v1 c2 v6 p_v6
theorem s_tk29 {O : pOut} {d kc ks : Nat} {Q : pRes → Prop} {es : PH} {b e v : Int} (hs_es : sh es) (hT_es : hOK tT es)
    (K1 : Q (.inl (some (.int (zI v))), es, kc, ks)) :
    aW O d 84 kc ks Q (29, [some (.ref 67), some (.int (zI b)), some (.int (zI e))], [.int (zI v)], es) := by
  refine x0 (r := (47, [some (.ref 67), some (.int (zI b)), some (.int (zI e))], [.int (zI v)], es)) i_84_29 rfl ?_
  refine x_ret (v := some (.int (zI v))) i_84_47 rfl (fun _ => rfl) rfl rfl rfl ?_
  exact K1
theorem s_sp0 {O : pOut} {d kc ks : Nat} {Q : pRes → Prop} {es : PH} {R : Nat → Int32} {n0 : Nat} (hs_es : sh es) (hT_es : hOK tT es) (hr_es : jB R n0 es)
    (K1 : aW O d 80 kc ks Q (6, [some (.ref 67), some (.int (zI 0)), some (.int (zI 0)), some (.int (zI 0)), none], [], es)) :
    aW O d 80 kc ks Q (0, [some (.ref 67), none, none, none, none], [], es) := by
  refine x0 (r := (1, [some (.ref 67), none, none, none, none], [.int (zI 0)], es)) i_80_0 (by rfl) ?_
  refine x0 (r := (2, [some (.ref 67), some (.int (zI 0)), none, none, none], [], es)) i_80_1 rfl ?_
  refine x0 (r := (3, [some (.ref 67), some (.int (zI 0)), none, none, none], [.int (zI 0)], es)) i_80_2 (by rfl) ?_
  refine x0 (r := (4, [some (.ref 67), some (.int (zI 0)), some (.int (zI 0)), none, none], [], es)) i_80_3 rfl ?_
  refine x0 (r := (5, [some (.ref 67), some (.int (zI 0)), some (.int (zI 0)), none, none], [.int (zI 0)], es)) i_80_4 (by rfl) ?_
  refine x0 (r := (6, [some (.ref 67), some (.int (zI 0)), some (.int (zI 0)), some (.int (zI 0)), none], [], es)) i_80_5 rfl ?_
  exact K1
theorem s_sp6 {O : pOut} {d kc ks : Nat} {Q : pRes → Prop} {es : PH} {R : Nat → Int32} {n0 : Nat} {m i k : Int} {x4 : Option Value} (hs_es : sh es) (hm : 0 ≤ m ∧ m ≤ 400) (hi : 0 ≤ i ∧ i ≤ 400) (hk : 0 ≤ k ∧ k ≤ 400) (hz : 0 ≤ (gI es 1 1).toInt ∧ (gI es 1 1).toInt ≤ 400) (hT_es : hOK tT es) (hr_es : jB R n0 es)
    (K1 : 400 ≤ k → aW O (d + 1) 80 kc ks Q (89, [some (.ref 67), some (.int (zI m)), some (.int (zI i)), some (.int (zI k)), x4], [], es))
    (K2 : ¬ (400 ≤ k) → ∀ v2 : Int, v2 = (gI es 1 1).toInt → v2 ≤ i → aW O (d + 1) 80 kc ks Q (89, [some (.ref 67), some (.int (zI m)), some (.int (zI i)), some (.int (zI k)), x4], [], es))
    (K3 : ¬ (400 ≤ k) → ∀ v2 : Int, v2 = (gI es 1 1).toInt → ¬ (v2 ≤ i) → ∀ v4 : Int, atP 2 i es v4 → v4 ≠ 32 → aW O (d + 1) 80 kc ks Q (48, [some (.ref 67), some (.int (zI m)), some (.int (zI i)), some (.int (zI k)), x4], [.int (zI i), .ref 67], es))
    (K4 : ¬ (400 ≤ k) → ∀ v2 : Int, v2 = (gI es 1 1).toInt → ¬ (v2 ≤ i) → ∀ v4 : Int, atP 2 i es v4 → ¬ (v4 ≠ 32) → aW O (d + 1) 80 kc ks Q (6, [some (.ref 67), some (.int (zI m)), some (.int (zI (i + 1))), some (.int (zI (k + 1))), x4], [], es)) :
    aW O (d + 1) 80 kc ks Q (6, [some (.ref 67), some (.int (zI m)), some (.int (zI i)), some (.int (zI k)), x4], [], es) := by
  refine x0 (r := (7, [some (.ref 67), some (.int (zI m)), some (.int (zI i)), some (.int (zI k)), x4], [.int (zI k)], es)) i_80_6 rfl ?_
  refine x0 (r := (10, [some (.ref 67), some (.int (zI m)), some (.int (zI i)), some (.int (zI k)), x4], [.int (zI 400), .int (zI k)], es)) i_80_7 (by rfl) ?_
  by_cases c1 : 400 ≤ k
  · refine x_cmpT i_80_10 (by unfold i32 iLO iHI; omega) (by unfold i32 iLO iHI; omega) rfl (by simp only [zC, cR]; omega) ?_
    exact K1 c1
  · refine x_cmpF i_80_10 (by unfold i32 iLO iHI; omega) (by unfold i32 iLO iHI; omega) rfl (by simp only [zC, cR]; omega) ?_
    refine x0 (r := (14, [some (.ref 67), some (.int (zI m)), some (.int (zI i)), some (.int (zI k)), x4], [.int (zI i)], es)) i_80_13 rfl ?_
    refine x0 (r := (15, [some (.ref 67), some (.int (zI m)), some (.int (zI i)), some (.int (zI k)), x4], [.ref 67, .int (zI i)], es)) i_80_14 rfl ?_
    refine x_getr (p := 3) (k := 65) i_80_15 hs_es rfl rfl ?_
    show aW _ _ _ _ _ _ (18, [some (.ref 67), some (.int (zI m)), some (.int (zI i)), some (.int (zI k)), x4], [.ref 65, .int (zI i)], es)
    refine x_geti (p := 1) i_80_18 hs_es rfl rfl ?_
    obtain ⟨v2, e_v2⟩ : ∃ z : Int, z = (gI es 1 1).toInt := ⟨_, rfl⟩
    rw [← e_v2]
    have r_v2 : iLO ≤ v2 ∧ v2 ≤ iHI := by rw [e_v2]; exact i32_rng _
    unfold iLO iHI at r_v2
    by_cases c3 : v2 ≤ i
    · refine x_cmpT i_80_21 (by unfold i32 iLO iHI; omega) (by unfold i32 iLO iHI; omega) rfl (by simp only [zC, cR]; omega) ?_
      exact K2 c1 v2 e_v2 c3
    · refine x_cmpF i_80_21 (by unfold i32 iLO iHI; omega) (by unfold i32 iLO iHI; omega) rfl (by simp only [zC, cR]; omega) ?_
      refine x0 (r := (25, [some (.ref 67), some (.int (zI m)), some (.int (zI i)), some (.int (zI k)), x4], [.ref 67], es)) i_80_24 rfl ?_
      refine x_getr (p := 3) (k := 65) i_80_25 hs_es rfl rfl ?_
      show aW _ _ _ _ _ _ (28, [some (.ref 67), some (.int (zI m)), some (.int (zI i)), some (.int (zI k)), x4], [.ref 65], es)
      refine x_getr (p := 1) (k := 66) i_80_28 hs_es rfl rfl ?_
      show aW _ _ _ _ _ _ (31, [some (.ref 67), some (.int (zI m)), some (.int (zI i)), some (.int (zI k)), x4], [.ref 66], es)
      refine x0 (r := (32, [some (.ref 67), some (.int (zI m)), some (.int (zI i)), some (.int (zI k)), x4], [.int (zI i), .ref 66], es)) i_80_31 rfl ?_
      refine x_call (vs := [.ref 66, .int (zI i)]) (rs := []) i_80_32 rfl (fun _ => rfl) rfl rfl rfl rfl rfl rfl ?_
      show aW _ _ _ _ _ _ (0, [some (.ref 66), some (.int (zI i))], [], es)
      refine at_sp (p := 2) rfl hs_es (by omega) (by omega) (by decide) (fun v4 p_v4 => ?_)
      have r_v4 := atP_rng p_v4
      show aW _ _ _ _ _ _ (35, [some (.ref 67), some (.int (zI m)), some (.int (zI i)), some (.int (zI k)), x4], [.int (zI v4)], es)
      refine x0 (r := (37, [some (.ref 67), some (.int (zI m)), some (.int (zI i)), some (.int (zI k)), x4], [.int (zI 32), .int (zI v4)], es)) i_80_35 (by rfl) ?_
      by_cases c5 : v4 ≠ 32
      · refine x_cmpT i_80_37 (by unfold i32 iLO iHI; omega) (by unfold i32 iLO iHI; omega) rfl (by simp only [zC, cR]; omega) ?_
        refine x0 (r := (47, [some (.ref 67), some (.int (zI m)), some (.int (zI i)), some (.int (zI k)), x4], [.ref 67], es)) i_80_46 rfl ?_
        refine x0 (r := (48, [some (.ref 67), some (.int (zI m)), some (.int (zI i)), some (.int (zI k)), x4], [.int (zI i), .ref 67], es)) i_80_47 rfl ?_
        exact K3 c1 v2 e_v2 c3 v4 p_v4 c5
      · refine x_cmpF i_80_37 (by unfold i32 iLO iHI; omega) (by unfold i32 iLO iHI; omega) rfl (by simp only [zC, cR]; omega) ?_
        refine x_iinc (x := i) i_80_40 rfl (by show 2 < 5; decide) ?_
        show aW _ _ _ _ _ _ (43, [some (.ref 67), some (.int (zI m)), some (.int (zI (i + 1))), some (.int (zI k)), x4], [], es)
        refine x0 (r := (83, [some (.ref 67), some (.int (zI m)), some (.int (zI (i + 1))), some (.int (zI k)), x4], [], es)) i_80_43 rfl ?_
        refine x_iinc (x := k) i_80_83 rfl (by show 3 < 5; decide) ?_
        show aW _ _ _ _ _ _ (86, [some (.ref 67), some (.int (zI m)), some (.int (zI (i + 1))), some (.int (zI (k + 1))), x4], [], es)
        refine x0 (r := (6, [some (.ref 67), some (.int (zI m)), some (.int (zI (i + 1))), some (.int (zI (k + 1))), x4], [], es)) i_80_86 rfl ?_
        exact K4 c1 v2 e_v2 c3 v4 p_v4 c5
theorem s_sp51 {O : pOut} {d kc ks : Nat} {Q : pRes → Prop} {es : PH} {R : Nat → Int32} {n0 : Nat} {m i k v : Int} {x4 : Option Value} (hs_es : sh es) (hm : 0 ≤ m ∧ m ≤ 400) (hi : 0 ≤ i ∧ i ≤ 400) (hk : 0 ≤ k ∧ k ≤ 400) (hz : 0 ≤ (gI es 1 1).toInt ∧ (gI es 1 1).toInt ≤ 400) (hv : 0 ≤ v ∧ v ≤ 400) (hm2 : m ≤ 399) (hT_es : hOK tT es) (hr_es : jB R n0 es)
    (K1 : ∀ es1 : PH, stP 6 m i es es1 → aW O (d + 1) 80 kc ks Q (71, [some (.ref 67), some (.int (zI m)), some (.int (zI i)), some (.int (zI k)), some (.int (zI v))], [.int (zI v), .int (zI i), .ref 67, .int (zI m), .ref 69], es1)) :
    aW O (d + 1) 80 kc ks Q (51, [some (.ref 67), some (.int (zI m)), some (.int (zI i)), some (.int (zI k)), x4], [.int (zI v)], es) := by
  refine x0 (r := (53, [some (.ref 67), some (.int (zI m)), some (.int (zI i)), some (.int (zI k)), some (.int (zI v))], [], es)) i_80_51 rfl ?_
  refine x0 (r := (54, [some (.ref 67), some (.int (zI m)), some (.int (zI i)), some (.int (zI k)), some (.int (zI v))], [.ref 67], es)) i_80_53 rfl ?_
  refine x_getr (p := 3) (k := 70) i_80_54 hs_es rfl rfl ?_
  show aW _ _ _ _ _ _ (57, [some (.ref 67), some (.int (zI m)), some (.int (zI i)), some (.int (zI k)), some (.int (zI v))], [.ref 70], es)
  refine x0 (r := (58, [some (.ref 67), some (.int (zI m)), some (.int (zI i)), some (.int (zI k)), some (.int (zI v))], [.int (zI m), .ref 70], es)) i_80_57 rfl ?_
  refine x0 (r := (59, [some (.ref 67), some (.int (zI m)), some (.int (zI i)), some (.int (zI k)), some (.int (zI v))], [.int (zI i), .int (zI m), .ref 70], es)) i_80_58 rfl ?_
  refine x_call (vs := [.ref 70, .int (zI m), .int (zI i)]) (rs := []) i_80_59 rfl (fun _ => rfl) rfl rfl rfl rfl rfl rfl ?_
  show aW _ _ _ _ _ _ (0, [some (.ref 70), some (.int (zI m)), some (.int (zI i))], [], es)
  refine set_sp (p := 6) rfl hs_es hT_es (fun _ => ⟨Int.le_refl _, Int.le_refl _⟩) (by omega) (by omega) (by decide) (fun es1 p_es1 => ?_)
  have hs_es1 : sh es1 := p_es1.1
  have hT_es1 : hOK tT es1 := p_es1.2.1
  have hr_es1 : jB R n0 es1 := jB_st hr_es p_es1 (by decide)
  show aW _ _ _ _ _ _ (62, [some (.ref 67), some (.int (zI m)), some (.int (zI i)), some (.int (zI k)), some (.int (zI v))], [], es1)
  refine x0 (r := (63, [some (.ref 67), some (.int (zI m)), some (.int (zI i)), some (.int (zI k)), some (.int (zI v))], [.ref 67], es1)) i_80_62 rfl ?_
  refine x_getr (p := 3) (k := 69) i_80_63 hs_es1 rfl rfl ?_
  show aW _ _ _ _ _ _ (66, [some (.ref 67), some (.int (zI m)), some (.int (zI i)), some (.int (zI k)), some (.int (zI v))], [.ref 69], es1)
  refine x0 (r := (67, [some (.ref 67), some (.int (zI m)), some (.int (zI i)), some (.int (zI k)), some (.int (zI v))], [.int (zI m), .ref 69], es1)) i_80_66 rfl ?_
  refine x0 (r := (68, [some (.ref 67), some (.int (zI m)), some (.int (zI i)), some (.int (zI k)), some (.int (zI v))], [.ref 67, .int (zI m), .ref 69], es1)) i_80_67 rfl ?_
  refine x0 (r := (69, [some (.ref 67), some (.int (zI m)), some (.int (zI i)), some (.int (zI k)), some (.int (zI v))], [.int (zI i), .ref 67, .int (zI m), .ref 69], es1)) i_80_68 rfl ?_
  refine x0 (r := (71, [some (.ref 67), some (.int (zI m)), some (.int (zI i)), some (.int (zI k)), some (.int (zI v))], [.int (zI v), .int (zI i), .ref 67, .int (zI m), .ref 69], es1)) i_80_69 rfl ?_
  exact K1 es1 p_es1
theorem s_sp74 {O : pOut} {d kc ks : Nat} {Q : pRes → Prop} {es : PH} {R : Nat → Int32} {n0 : Nat} {m i k b v : Int} (hs_es : sh es) (hm : 0 ≤ m ∧ m ≤ 400) (hi : 0 ≤ i ∧ i ≤ 400) (hk : 0 ≤ k ∧ k ≤ 400) (hz : 0 ≤ (gI es 1 1).toInt ∧ (gI es 1 1).toInt ≤ 400) (hb : 0 ≤ b ∧ b ≤ 400) (hm2 : m ≤ 399) (hT_es : hOK tT es) (hr_es : jB R n0 es)
    (K1 : ∀ es1 : PH, stP 5 m v es es1 → aW O (d + 1) 80 kc ks Q (6, [some (.ref 67), some (.int (zI (m + 1))), some (.int (zI b)), some (.int (zI (k + 1))), some (.int (zI b))], [], es1)) :
    aW O (d + 1) 80 kc ks Q (74, [some (.ref 67), some (.int (zI m)), some (.int (zI i)), some (.int (zI k)), some (.int (zI b))], [.int (zI v), .int (zI m), .ref 69], es) := by
  refine x_call (vs := [.ref 69, .int (zI m), .int (zI v)]) (rs := []) i_80_74 rfl (fun _ => rfl) rfl rfl rfl rfl rfl rfl ?_
  show aW _ _ _ _ _ _ (0, [some (.ref 69), some (.int (zI m)), some (.int (zI v))], [], es)
  refine set_sp (p := 5) rfl hs_es hT_es (fun _ => ⟨Int.le_refl _, Int.le_refl _⟩) (by omega) (by omega) (by decide) (fun es1 p_es1 => ?_)
  have hs_es1 : sh es1 := p_es1.1
  have hT_es1 : hOK tT es1 := p_es1.2.1
  have hr_es1 : jB R n0 es1 := jB_st hr_es p_es1 (by decide)
  show aW _ _ _ _ _ _ (77, [some (.ref 67), some (.int (zI m)), some (.int (zI i)), some (.int (zI k)), some (.int (zI b))], [], es1)
  refine x_iinc (x := m) i_80_77 rfl (by show 1 < 5; decide) ?_
  show aW _ _ _ _ _ _ (80, [some (.ref 67), some (.int (zI (m + 1))), some (.int (zI i)), some (.int (zI k)), some (.int (zI b))], [], es1)
  refine x0 (r := (82, [some (.ref 67), some (.int (zI (m + 1))), some (.int (zI i)), some (.int (zI k)), some (.int (zI b))], [.int (zI b)], es1)) i_80_80 rfl ?_
  refine x0 (r := (83, [some (.ref 67), some (.int (zI (m + 1))), some (.int (zI b)), some (.int (zI k)), some (.int (zI b))], [], es1)) i_80_82 rfl ?_
  refine x_iinc (x := k) i_80_83 rfl (by show 3 < 5; decide) ?_
  show aW _ _ _ _ _ _ (86, [some (.ref 67), some (.int (zI (m + 1))), some (.int (zI b)), some (.int (zI (k + 1))), some (.int (zI b))], [], es1)
  refine x0 (r := (6, [some (.ref 67), some (.int (zI (m + 1))), some (.int (zI b)), some (.int (zI (k + 1))), some (.int (zI b))], [], es1)) i_80_86 rfl ?_
  exact K1 es1 p_es1
theorem s_sp89 {O : pOut} {d kc ks : Nat} {Q : pRes → Prop} {es : PH} {R : Nat → Int32} {n0 : Nat} {m i k : Int} {x4 : Option Value} (hs_es : sh es) (hm : 0 ≤ m ∧ m ≤ 400) (hT_es : hOK tT es) (hr_es : jB R n0 es)
    (K1 : ∀ v1 : Int, v1 = (gI es 1 1).toInt → ∀ es2 : PH, stP 6 m v1 es es2 → ∀ es3 : PH, stP 5 m (-2000) es2 es3 → ∀ es4 : PH, es4 = sI es3 3 7 (.int (zI 0)) → ∀ v5 : Int, atP 5 0 es4 v5 → ∀ es6 : PH, es6 = sI es4 3 8 (.int (zI v5)) → Q (.inl (none), es6, kc, ks)) :
    aW O (d + 1) 80 kc ks Q (89, [some (.ref 67), some (.int (zI m)), some (.int (zI i)), some (.int (zI k)), x4], [], es) := by
  refine x0 (r := (90, [some (.ref 67), some (.int (zI m)), some (.int (zI i)), some (.int (zI k)), x4], [.ref 67], es)) i_80_89 rfl ?_
  refine x_getr (p := 3) (k := 70) i_80_90 hs_es rfl rfl ?_
  show aW _ _ _ _ _ _ (93, [some (.ref 67), some (.int (zI m)), some (.int (zI i)), some (.int (zI k)), x4], [.ref 70], es)
  refine x0 (r := (94, [some (.ref 67), some (.int (zI m)), some (.int (zI i)), some (.int (zI k)), x4], [.int (zI m), .ref 70], es)) i_80_93 rfl ?_
  refine x0 (r := (95, [some (.ref 67), some (.int (zI m)), some (.int (zI i)), some (.int (zI k)), x4], [.ref 67, .int (zI m), .ref 70], es)) i_80_94 rfl ?_
  refine x_getr (p := 3) (k := 65) i_80_95 hs_es rfl rfl ?_
  show aW _ _ _ _ _ _ (98, [some (.ref 67), some (.int (zI m)), some (.int (zI i)), some (.int (zI k)), x4], [.ref 65, .int (zI m), .ref 70], es)
  refine x_geti (p := 1) i_80_98 hs_es rfl rfl ?_
  obtain ⟨v1, e_v1⟩ : ∃ z : Int, z = (gI es 1 1).toInt := ⟨_, rfl⟩
  rw [← e_v1]
  have r_v1 : iLO ≤ v1 ∧ v1 ≤ iHI := by rw [e_v1]; exact i32_rng _
  unfold iLO iHI at r_v1
  refine x_call (vs := [.ref 70, .int (zI m), .int (zI v1)]) (rs := []) i_80_101 rfl (fun _ => rfl) rfl rfl rfl rfl rfl rfl ?_
  show aW _ _ _ _ _ _ (0, [some (.ref 70), some (.int (zI m)), some (.int (zI v1))], [], es)
  refine set_sp (p := 6) rfl hs_es hT_es (fun _ => ⟨Int.le_refl _, Int.le_refl _⟩) (by omega) (by omega) (by decide) (fun es2 p_es2 => ?_)
  have hs_es2 : sh es2 := p_es2.1
  have hT_es2 : hOK tT es2 := p_es2.2.1
  have hr_es2 : jB R n0 es2 := jB_st hr_es p_es2 (by decide)
  show aW _ _ _ _ _ _ (104, [some (.ref 67), some (.int (zI m)), some (.int (zI i)), some (.int (zI k)), x4], [], es2)
  refine x0 (r := (105, [some (.ref 67), some (.int (zI m)), some (.int (zI i)), some (.int (zI k)), x4], [.ref 67], es2)) i_80_104 rfl ?_
  refine x_getr (p := 3) (k := 69) i_80_105 hs_es2 rfl rfl ?_
  show aW _ _ _ _ _ _ (108, [some (.ref 67), some (.int (zI m)), some (.int (zI i)), some (.int (zI k)), x4], [.ref 69], es2)
  refine x0 (r := (109, [some (.ref 67), some (.int (zI m)), some (.int (zI i)), some (.int (zI k)), x4], [.int (zI m), .ref 69], es2)) i_80_108 rfl ?_
  refine x0 (r := (112, [some (.ref 67), some (.int (zI m)), some (.int (zI i)), some (.int (zI k)), x4], [.int (zI (-2000)), .int (zI m), .ref 69], es2)) i_80_109 (by rfl) ?_
  refine x_call (vs := [.ref 69, .int (zI m), .int (zI (-2000))]) (rs := []) i_80_112 rfl (fun _ => rfl) rfl rfl rfl rfl rfl rfl ?_
  show aW _ _ _ _ _ _ (0, [some (.ref 69), some (.int (zI m)), some (.int (zI (-2000)))], [], es2)
  refine set_sp (p := 5) rfl hs_es2 hT_es2 (fun _ => ⟨Int.le_refl _, Int.le_refl _⟩) (by omega) (by omega) (by decide) (fun es3 p_es3 => ?_)
  have hs_es3 : sh es3 := p_es3.1
  have hT_es3 : hOK tT es3 := p_es3.2.1
  have hr_es3 : jB R n0 es3 := jB_st hr_es2 p_es3 (by decide)
  show aW _ _ _ _ _ _ (115, [some (.ref 67), some (.int (zI m)), some (.int (zI i)), some (.int (zI k)), x4], [], es3)
  refine x0 (r := (116, [some (.ref 67), some (.int (zI m)), some (.int (zI i)), some (.int (zI k)), x4], [.ref 67], es3)) i_80_115 rfl ?_
  refine x0 (r := (117, [some (.ref 67), some (.int (zI m)), some (.int (zI i)), some (.int (zI k)), x4], [.int (zI 0), .ref 67], es3)) i_80_116 (by rfl) ?_
  refine x_puti (p := 3) (ty := .int) i_80_117 hs_es3 rfl rfl rfl (Or.inl rfl) ?_
  obtain ⟨es4, e_es4⟩ : ∃ z : PH, z = sI es3 3 7 (.int (zI 0)) := ⟨_, rfl⟩
  have hs_es4 : sh es4 := by rw [e_es4]; exact sh_sI hs_es3 (p := 3) (b := 7) rfl rfl
  have hT_es4 : hOK tT es4 := by rw [e_es4]; exact hOK_sI hT_es3 (p := 3) (b := 7) (lo := iLO) (hi := iHI) rfl rfl (i32_rng _)
  have hr_es4 : jB R n0 es4 := by rw [e_es4]; exact jB_sI hr_es3 (by decide)
  rw [← e_es4]
  refine x0 (r := (121, [some (.ref 67), some (.int (zI m)), some (.int (zI i)), some (.int (zI k)), x4], [.ref 67], es4)) i_80_120 rfl ?_
  refine x0 (r := (122, [some (.ref 67), some (.int (zI m)), some (.int (zI i)), some (.int (zI k)), x4], [.ref 67, .ref 67], es4)) i_80_121 rfl ?_
  refine x_getr (p := 3) (k := 69) i_80_122 hs_es4 rfl rfl ?_
  show aW _ _ _ _ _ _ (125, [some (.ref 67), some (.int (zI m)), some (.int (zI i)), some (.int (zI k)), x4], [.ref 69, .ref 67], es4)
  refine x0 (r := (126, [some (.ref 67), some (.int (zI m)), some (.int (zI i)), some (.int (zI k)), x4], [.int (zI 0), .ref 69, .ref 67], es4)) i_80_125 (by rfl) ?_
  refine x_call (vs := [.ref 69, .int (zI 0)]) (rs := [.ref 67]) i_80_126 rfl (fun _ => rfl) rfl rfl rfl rfl rfl rfl ?_
  show aW _ _ _ _ _ _ (0, [some (.ref 69), some (.int (zI 0))], [], es4)
  refine at_sp (p := 5) rfl hs_es4 (by omega) (by omega) (by decide) (fun v5 p_v5 => ?_)
  have r_v5 := atP_rng p_v5
  show aW _ _ _ _ _ _ (129, [some (.ref 67), some (.int (zI m)), some (.int (zI i)), some (.int (zI k)), x4], [.int (zI v5), .ref 67], es4)
  refine x_puti (p := 3) (ty := .int) i_80_129 hs_es4 rfl rfl rfl (Or.inl rfl) ?_
  obtain ⟨es6, e_es6⟩ : ∃ z : PH, z = sI es4 3 8 (.int (zI v5)) := ⟨_, rfl⟩
  have hs_es6 : sh es6 := by rw [e_es6]; exact sh_sI hs_es4 (p := 3) (b := 8) rfl rfl
  have hT_es6 : hOK tT es6 := by rw [e_es6]; exact hOK_sI hT_es4 (p := 3) (b := 8) (lo := iLO) (hi := iHI) rfl rfl (i32_rng _)
  have hr_es6 : jB R n0 es6 := by rw [e_es6]; exact jB_sI hr_es4 (by decide)
  rw [← e_es6]
  refine x_ret (v := none) i_80_132 rfl (fun _ => rfl) rfl rfl rfl ?_
  exact K1 v1 e_v1 es2 p_es2 es3 p_es3 es4 e_es4 v5 p_v5 es6 e_es6
/-- nothing is emitted, nothing wrong yet -/
def w0 (es : PH) : Prop := (gI es 3 4).toInt = -1 ∧ (gI es 3 2).toInt = 0 ∧ (gI es 3 3).toInt = 0
section
variable {O : pOut} {d kc ks : Nat} {Q : pRes → Prop} {es : PH} {R : Nat → Int32} {n : Nat}
theorem tk_spec {b : Nat} (hT : hOK tT es) (hj : jB R n es) (hb : b < n) (K : Q (.inl (some (.int (zI (zCod (zR R) n b)))), es, kc, ks)) : aW O (d + 2) 84 kc ks Q (0, [some (.ref 67), some (.int (zI (b : Int))), some (.int (zI (zBe (zR R) n b : Nat)))], [], es) := by
  have hn4 := hj.2.2.2
  have hgt := zBe_gt (c := zR R) hb
  have hle := zBe_le (c := zR R) hb
  refine s_tk0 (d := d) (b := (b : Int)) (e := ((zBe (zR R) n b : Nat) : Int)) (sh_of hT) ⟨by omega, by omega⟩ ⟨by omega, by omega⟩ hT hj (fun v1 p1 h1 v3 p3 h3 v5 p5 => ?_) (fun v1 p1 h1 v3 p3 h3 => ?_) (fun v1 p1 h1 v6 p6 => ?_)
  · have n1 : ¬ zLe (zR R b) = true := fun h => by have := p1.2.mpr h; omega
    have n2 : ¬ zDi (zR R b) = true := fun h => by have := p3.2.mpr h; omega
    obtain ⟨a1, a2, a3⟩ := jB_at hj (by omega) (by omega) p5
    rw [zCod_si hb n1 n2] at K
    rw [a1, Int.toNat_natCast]
    exact K
  · have n1 : ¬ zLe (zR R b) = true := fun h => by have := p1.2.mpr h; omega
    have n2 : zDi (zR R b) = true := p3.2.mp (by rcases p3.1 with h | h <;> omega)
    have e : zBe (zR R) n b = zRn (zR R) n zDi b := by unfold zBe; rw [if_neg n1, if_pos n2]
    rw [zCod_di hb n1 n2, ← e] at K
    refine x_call (vs := [.ref 67, .int (zI (b : Int)), .int (zI (zBe (zR R) n b : Nat))]) (rs := []) i_84_26 rfl (fun _ => rfl) rfl rfl rfl rfl rfl (pCall_v (p := 3) (sh_of hT) rfl rfl rfl rfl rfl (by decide) rfl rfl rfl rfl rfl) ?_
    show aW _ _ _ _ _ _ (0, [some (.ref 67), some (.int (zI (b : Int))), some (.int (zI (zBe (zR R) n b : Nat))), none, none], [], es)
    refine no_spec (d := d) hT hj (by omega) (by omega) (by omega) (fun i h4 h5 => zRn_all h4 (by rw [← e]; exact h5)) ?_
    show aW _ _ _ _ _ _ (29, [some (.ref 67), some (.int (zI (b : Int))), some (.int (zI (zBe (zR R) n b : Nat)))], [.int (zI (zNcod (zR R) b (zBe (zR R) n b)))], es)
    exact s_tk29 (sh_of hT) hT K
  · have n1 : zLe (zR R b) = true := p1.2.mp (by rcases p1.1 with h | h <;> omega)
    have e : zBe (zR R) n b = zRn (zR R) n zLe b := by unfold zBe; rw [if_pos n1]
    rw [zCod_le hb n1, ← e] at K
    rw [show v6 = _ from p6, Int.toNat_natCast, Int.toNat_natCast]
    exact K
/-- the tokens of a text, and the one that is looked at -/
def tkS (R : Nat → Int32) (n cn k : Nat) (es : PH) : Prop := (∀ j, j ≤ cn → (gA es 5 j).toInt = zCod (zR R) n (zPs (zR R) n j) ∧ (gA es 6 j).toInt = (zPs (zR R) n j : Nat)) ∧ zPs (zR R) n cn = n ∧ (∀ j, j < cn → zPs (zR R) n j < n) ∧ cn ≤ 400 ∧ k ≤ cn ∧ (gI es 3 7).toInt = (k : Int) ∧ (gI es 3 8).toInt = zCod (zR R) n (zPs (zR R) n k)
theorem gA_st {p : Nat} {x v : Int} {es es' : PH} (hs : sh es) {n : Nat} {sp : Nat → Int × Int} (hp : tT[p]? = some (.inl (0, n, sp))) (h : stP p x v es es') {j : Nat} : gA es' p j = if j = x.toNat then zI v else gA es p j := by
  rw [h.2.2, gA_sA hs hp (by decide)]
  rfl
theorem sp_loop (hw : w0 es) (K : ∀ es' cn, hOK tT es' → tkS R n cn 0 es' → w0 es' → Q (.inl none, es', kc, ks)) : ∀ (N : Nat) (m i k : Nat) (es1 : PH) (x4 : Option Value), 400 - i < N → hOK tT es1 → jB R n es1 → m ≤ i → k ≤ i → i ≤ n → zPs (zR R) n m = zNx (zR R) n i → (∀ j, j < m → (gA es1 5 j).toInt = zCod (zR R) n (zPs (zR R) n j) ∧ (gA es1 6 j).toInt = (zPs (zR R) n j : Nat)) → (∀ j, j < m → zPs (zR R) n j < n) → w0 es1 → aW O (d + 3) 80 kc ks Q (6, [some (.ref 67), some (.int (zI (m : Int))), some (.int (zI (i : Int))), some (.int (zI (k : Int))), x4], [], es1) := by
  intro N
  induction N with
  | zero => intro m i k es1 x4 h; omega
  | succ N ih =>
    intro m i k es1 x4 hN hT hj hm hk hi hx hTB hlt hw1
    have hn4 := hj.2.2.2
    have hsz := hj.2.2.1
    have fin : n ≤ i → aW O (d + 3) 80 kc ks Q (89, [some (.ref 67), some (.int (zI (m : Int))), some (.int (zI (i : Int))), some (.int (zI (k : Int))), x4], [], es1) := by
      intro hni
      have hi2 : i = n := by omega
      have hps : zPs (zR R) n m = n := by
        rw [hx, hi2]
        exact zRn_stop (fun h => by omega)
      refine s_sp89 (d := d + 2) (m := (m : Int)) (sh_of hT) ⟨by omega, by omega⟩ hT hj (fun v1 e1 es2 p2 es3 p3 es4 e4 v5 p5 es6 e6 => ?_)
      have hT4 : hOK tT es4 := by rw [e4]; exact hOK_sI p3.2.1 (p := 3) (b := 7) (lo := iLO) (hi := iHI) rfl rfl (i32_rng _)
      have hT6 : hOK tT es6 := by rw [e6]; exact hOK_sI hT4 (p := 3) (b := 8) (lo := iLO) (hi := iHI) rfl rfl (i32_rng _)
      have r5 : ∀ j, gA es6 5 j = if j = m then zI (-2000) else gA es1 5 j := by
        intro j
        rw [e6, gA_sI, e4, gA_sI, gA_st (sh_of p2.2.1) (p := 5) (n := 401) rfl p3, Int.toNat_natCast]
        by_cases hjm2 : j = m
        · rw [if_pos hjm2, if_pos hjm2]
        · rw [if_neg hjm2, if_neg hjm2, p2.2.2, gA_sA_ne (by decide)]
      have r6 : ∀ j, gA es6 6 j = if j = m then zI v1 else gA es1 6 j := by
        intro j
        rw [e6, gA_sI, e4, gA_sI, p3.2.2, gA_sA_ne (by decide), gA_st (sh_of hT) (p := 6) (n := 401) rfl p2, Int.toNat_natCast]
      have hz1 : (zI v1).toInt = v1 := zI_toInt (by unfold i32 iLO iHI; omega)
      have hz2 : (zI (-2000)).toInt = -2000 := rfl
      have tb : ∀ j, j ≤ m → (gA es6 5 j).toInt = zCod (zR R) n (zPs (zR R) n j) ∧ (gA es6 6 j).toInt = (zPs (zR R) n j : Nat) := by
        intro j hjm
        rw [r5, r6]
        by_cases hjm2 : j = m
        · rw [if_pos hjm2, if_pos hjm2, hjm2, hps, hz1, hz2, zCod_end (Nat.le_refl n), e1]
          exact ⟨rfl, hsz⟩
        · rw [if_neg hjm2, if_neg hjm2]
          exact hTB j (by omega)
      refine K es6 m hT6 ⟨tb, hps, hlt, by omega, Nat.zero_le m, ?_, ?_⟩ ?_
      · rw [e6, gI_sI_ne (Or.inr (by decide)), e4, gI_sI (sh_of p3.2.1) (p := 3) (b := 7) rfl (by decide)]
        rfl
      · rw [e6, gI_sI (sh_of hT4) (p := 3) (b := 8) rfl (by decide), ← (tb 0 (Nat.zero_le m)).1, e6, gA_sI]
        have h5 : v5 = (gA es4 5 0).toInt := p5
        rw [h5]
        exact zI_toInt (i32_rng _)
      · have g : ∀ b, b = 2 ∨ b = 3 ∨ b = 4 → gI es6 3 b = gI es1 3 b := fun b hb => by rw [e6, gI_sI_ne (by omega), e4, gI_sI_ne (by omega), p3.2.2, gI_sA, p2.2.2, gI_sA]
        exact ⟨by rw [g 4 (by omega)]; exact hw1.1, by rw [g 2 (by omega)]; exact hw1.2.1, by rw [g 3 (by omega)]; exact hw1.2.2⟩
    refine s_sp6 (d := d + 2) (m := (m : Int)) (i := (i : Int)) (k := (k : Int)) (sh_of hT) ⟨by omega, by omega⟩ ⟨by omega, by omega⟩ ⟨by omega, by omega⟩ ⟨by omega, by omega⟩ hT hj (fun h1 => fin (by omega)) (fun h1 v2 e2 h2 => fin (by omega)) (fun h1 v2 e2 h2 v4 p4 h4 => ?_) (fun h1 v2 e2 h2 v4 p4 h4 => ?_)
    · obtain ⟨a1, a2, a3⟩ := jB_at hj (by omega) (by omega) p4
      rw [Int.toNat_natCast] at a1 a2 a3
      have h8 := zU8_eq (y := 32) a2 a3 (by omega) (by omega)
      have hin : i < n := by omega
      have hpsi : zPs (zR R) n m = i := by
        rw [hx]
        exact zRn_stop (fun _ => zSp_no.mpr (by omega))
      have hgt := zBe_gt (c := zR R) hin
      have hle := zBe_le (c := zR R) hin
      refine x_call (vs := [.ref 67, .int (zI (i : Int))]) (rs := []) i_80_48 rfl (fun _ => rfl) rfl rfl rfl rfl rfl (pCall_v (p := 3) (sh_of hT) rfl rfl rfl rfl rfl (by decide) rfl rfl rfl rfl rfl) ?_
      show aW _ _ _ _ _ _ (0, [some (.ref 67), some (.int (zI (i : Int))), none], [], es1)
      refine bt_spec (d := d) hT hj hin ?_
      show aW _ _ _ _ _ _ (51, [some (.ref 67), some (.int (zI (m : Int))), some (.int (zI (i : Int))), some (.int (zI (k : Int))), x4], [.int (zI (zBe (zR R) n i : Nat))], es1)
      refine s_sp51 (d := d + 2) (m := (m : Int)) (i := (i : Int)) (k := (k : Int)) (sh_of hT) ⟨by omega, by omega⟩ ⟨by omega, by omega⟩ ⟨by omega, by omega⟩ ⟨by omega, by omega⟩ ⟨by omega, by omega⟩ (by omega) hT hj (fun es2 p2 => ?_)
      have hj2 : jB R n es2 := jB_st hj p2 (by decide)
      refine x_call (vs := [.ref 67, .int (zI (i : Int)), .int (zI (zBe (zR R) n i : Nat))]) (rs := [.int (zI (m : Int)), .ref 69]) i_80_71 rfl (fun _ => rfl) rfl rfl rfl rfl rfl (pCall_v (p := 3) p2.1 rfl rfl rfl rfl rfl (by decide) rfl rfl rfl rfl rfl) ?_
      show aW _ _ _ _ _ _ (0, [some (.ref 67), some (.int (zI (i : Int))), some (.int (zI (zBe (zR R) n i : Nat)))], [], es2)
      refine tk_spec (d := d) p2.2.1 hj2 hin ?_
      show aW _ _ _ _ _ _ (74, [some (.ref 67), some (.int (zI (m : Int))), some (.int (zI (i : Int))), some (.int (zI (k : Int))), some (.int (zI (zBe (zR R) n i : Nat)))], [.int (zI (zCod (zR R) n i)), .int (zI (m : Int)), .ref 69], es2)
      have hsz2 := hj2.2.2.1
      refine s_sp74 (d := d + 2) (m := (m : Int)) (i := (i : Int)) (k := (k : Int)) p2.1 ⟨by omega, by omega⟩ ⟨by omega, by omega⟩ ⟨by omega, by omega⟩ ⟨by omega, by omega⟩ ⟨by omega, by omega⟩ (by omega) p2.2.1 hj2 (fun es3 p3 => ?_)
      have hcb : -3000 ≤ zCod (zR R) n i ∧ zCod (zR R) n i ≤ 999 := by
        rcases zCod_cases (c := zR R) (n := n) (q := i) (fun k hk => hj.2.1 k (by omega)) with h | h | h | h <;> omega
      have hz3 : (zI (zCod (zR R) n i)).toInt = zCod (zR R) n i := zI_toInt (by unfold i32 iLO iHI; omega)
      have hz4 : (zI (i : Int)).toInt = (i : Int) := zI_toInt (by unfold i32 iLO iHI; omega)
      have := ih (m + 1) (zBe (zR R) n i) (k + 1) es3 (some (.int (zI (zBe (zR R) n i : Nat)))) (by omega) p3.2.1 (jB_st hj2 p3 (by decide)) (by omega) (by omega) hle (by
          show zNx (zR R) n (zBe (zR R) n (zPs (zR R) n m)) = _
          rw [hpsi]) (fun j hjm => ?_) (fun j hjm => ?_) ?_
      · rw [cs1, cs1] at this
        exact this
      · have r5 : gA es3 5 j = if j = m then zI (zCod (zR R) n i) else gA es1 5 j := by
          rw [gA_st (sh_of p2.2.1) (p := 5) (n := 401) rfl p3, Int.toNat_natCast]
          by_cases hjm2 : j = m
          · rw [if_pos hjm2, if_pos hjm2]
          · rw [if_neg hjm2, if_neg hjm2, p2.2.2, gA_sA_ne (by decide)]
        have r6 : gA es3 6 j = if j = m then zI (i : Int) else gA es1 6 j := by
          rw [p3.2.2, gA_sA_ne (by decide), gA_st (sh_of hT) (p := 6) (n := 401) rfl p2, Int.toNat_natCast]
        rw [r5, r6]
        by_cases hjm2 : j = m
        · rw [if_pos hjm2, if_pos hjm2, hjm2, hpsi, hz3, hz4]
          exact ⟨rfl, rfl⟩
        · rw [if_neg hjm2, if_neg hjm2]
          exact hTB j (by omega)
      · by_cases hjm2 : j = m
        · rw [hjm2, hpsi]; exact hin
        · exact hlt j (by omega)
      · have g : ∀ b, gI es3 3 b = gI es1 3 b := fun b => by rw [p3.2.2, gI_sA, p2.2.2, gI_sA]
        exact ⟨by rw [g 4]; exact hw1.1, by rw [g 2]; exact hw1.2.1, by rw [g 3]; exact hw1.2.2⟩
    · obtain ⟨a1, a2, a3⟩ := jB_at hj (by omega) (by omega) p4
      rw [Int.toNat_natCast] at a1 a2 a3
      have h8 := zU8_eq (y := 32) a2 a3 (by omega) (by omega)
      have hin : i < n := by omega
      have := ih m (i + 1) (k + 1) es1 x4 (by omega) hT hj (by omega) (by omega) (by omega) (by rw [hx]; exact zRn_go hin (zSp_iff.mpr (by omega))) hTB hlt hw1
      rw [cs1, cs1] at this
      exact this
theorem sp_spec (hT : hOK tT es) (hj : jB R n es) (hw : w0 es) (K : ∀ es' cn, hOK tT es' → tkS R n cn 0 es' → w0 es' → Q (.inl none, es', kc, ks)) : aW O (d + 3) 80 kc ks Q (0, [some (.ref 67), none, none, none, none], [], es) :=
  s_sp0 (d := d + 3) (sh_of hT) hT hj (sp_loop hw K _ 0 0 0 es none (Nat.lt_succ_self _) hT hj (Nat.le_refl _) (Nat.le_refl _) (Nat.zero_le _) rfl (fun j h => by omega) (fun j h => by omega) hw)
end
