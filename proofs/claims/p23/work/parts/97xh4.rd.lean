theorem s_fl0 {O : pOut} {d kc ks : Nat} {Q : pRes → Prop} {es : PH} (hs_es : sh es) (hn : 0 ≤ (gI es 3 7).toInt ∧ (gI es 3 7).toInt ≤ 400) (hT_es : hOK tT es)
    (K1 : ∀ v1 : Int, v1 = (gI es 3 7).toInt → ∀ v2 : Int, atP 6 v1 es v2 → ∀ es3 : PH, es3 = sI es 3 4 (.int (zI v2)) → Q (.inl (some (.int (zI 0))), es3, kc, ks)) :
    aW O (d + 1) 88 kc ks Q (0, [some (.ref 67)], [], es) := by
  refine x0 (r := (1, [some (.ref 67)], [.ref 67], es)) i_88_0 rfl ?_
  refine x0 (r := (2, [some (.ref 67)], [.ref 67, .ref 67], es)) i_88_1 rfl ?_
  refine x_getr (p := 3) (k := 70) i_88_2 hs_es rfl rfl ?_
  show aW _ _ _ _ _ _ (5, [some (.ref 67)], [.ref 70, .ref 67], es)
  refine x0 (r := (6, [some (.ref 67)], [.ref 67, .ref 70, .ref 67], es)) i_88_5 rfl ?_
  refine x_geti (p := 3) i_88_6 hs_es rfl rfl ?_
  obtain ⟨v1, e_v1⟩ : ∃ z : Int, z = (gI es 3 7).toInt := ⟨_, rfl⟩
  rw [← e_v1]
  have r_v1 : iLO ≤ v1 ∧ v1 ≤ iHI := by rw [e_v1]; exact i32_rng _
  unfold iLO iHI at r_v1
  refine x_call (vs := [.ref 70, .int (zI v1)]) (rs := [.ref 67]) i_88_9 rfl (fun _ => rfl) rfl rfl rfl rfl rfl rfl ?_
  show aW _ _ _ _ _ _ (0, [some (.ref 70), some (.int (zI v1))], [], es)
  refine at_sp (p := 6) rfl hs_es (by omega) (by omega) (by decide) (fun v2 p_v2 => ?_)
  have r_v2 := atP_rng p_v2
  show aW _ _ _ _ _ _ (12, [some (.ref 67)], [.int (zI v2), .ref 67], es)
  refine x_puti (p := 3) (ty := .int) i_88_12 hs_es rfl rfl rfl (Or.inl rfl) ?_
  obtain ⟨es3, e_es3⟩ : ∃ z : PH, z = sI es 3 4 (.int (zI v2)) := ⟨_, rfl⟩
  have hs_es3 : sh es3 := by rw [e_es3]; exact sh_sI hs_es (p := 3) (b := 4) rfl rfl
  have hT_es3 : hOK tT es3 := by rw [e_es3]; exact hOK_sI hT_es (p := 3) (b := 4) (lo := iLO) (hi := iHI) rfl rfl (i32_rng _)
  rw [← e_es3]
  refine x0 (r := (16, [some (.ref 67)], [.int (zI 0)], es3)) i_88_15 (by rfl) ?_
  refine x_ret (v := some (.int (zI 0))) i_88_16 rfl (fun _ => rfl) rfl rfl (pFin_b (by omega)) ?_
  exact K1 v1 e_v1 v2 p_v2 es3 e_es3
theorem s_pa0 {O : pOut} {d kc ks : Nat} {Q : pRes → Prop} {es : PH} (hs_es : sh es) (hn : 0 ≤ (gI es 3 7).toInt ∧ (gI es 3 7).toInt ≤ 399) (hT_es : hOK tT es)
    (K1 : ∀ v1 : Int, v1 = (gI es 3 7).toInt → ∀ es2 : PH, es2 = sI es 3 7 (.int (zI (v1 + 1))) → aW O d 89 kc ks Q (10, [some (.ref 67)], [], es2)) :
    aW O d 89 kc ks Q (0, [some (.ref 67)], [], es) := by
  refine x0 (r := (1, [some (.ref 67)], [.ref 67], es)) i_89_0 rfl ?_
  refine x0 (r := (2, [some (.ref 67)], [.ref 67, .ref 67], es)) i_89_1 rfl ?_
  refine x_geti (p := 3) i_89_2 hs_es rfl rfl ?_
  obtain ⟨v1, e_v1⟩ : ∃ z : Int, z = (gI es 3 7).toInt := ⟨_, rfl⟩
  rw [← e_v1]
  have r_v1 : iLO ≤ v1 ∧ v1 ≤ iHI := by rw [e_v1]; exact i32_rng _
  unfold iLO iHI at r_v1
  refine x0 (r := (6, [some (.ref 67)], [.int (zI 1), .int (zI v1), .ref 67], es)) i_89_5 (by rfl) ?_
  refine x_iadd i_89_6 ?_
  refine x_puti (p := 3) (ty := .int) i_89_7 hs_es rfl rfl rfl (Or.inl rfl) ?_
  obtain ⟨es2, e_es2⟩ : ∃ z : PH, z = sI es 3 7 (.int (zI (v1 + 1))) := ⟨_, rfl⟩
  have hs_es2 : sh es2 := by rw [e_es2]; exact sh_sI hs_es (p := 3) (b := 7) rfl rfl
  have hT_es2 : hOK tT es2 := by rw [e_es2]; exact hOK_sI hT_es (p := 3) (b := 7) (lo := iLO) (hi := iHI) rfl rfl (i32_rng _)
  rw [← e_es2]
  exact K1 v1 e_v1 es2 e_es2
theorem s_pa10 {O : pOut} {d kc ks : Nat} {Q : pRes → Prop} {es : PH} (hs_es : sh es) (hn : 0 ≤ (gI es 3 7).toInt ∧ (gI es 3 7).toInt ≤ 400) (hT_es : hOK tT es)
    (K1 : ∀ v1 : Int, v1 = (gI es 3 7).toInt → 401 ≤ v1 → ∀ es3 : PH, es3 = sI es 3 8 (.int (zI (-2000))) → Q (.inl (none), es3, kc, ks))
    (K2 : ∀ v1 : Int, v1 = (gI es 3 7).toInt → ¬ (401 ≤ v1) → ∀ v4 : Int, v4 = (gI es 3 7).toInt → ∀ v5 : Int, atP 5 v4 es v5 → ∀ es6 : PH, es6 = sI es 3 8 (.int (zI v5)) → Q (.inl (none), es6, kc, ks)) :
    aW O (d + 1) 89 kc ks Q (10, [some (.ref 67)], [], es) := by
  refine x0 (r := (11, [some (.ref 67)], [.ref 67], es)) i_89_10 rfl ?_
  refine x0 (r := (12, [some (.ref 67)], [.ref 67, .ref 67], es)) i_89_11 rfl ?_
  refine x_geti (p := 3) i_89_12 hs_es rfl rfl ?_
  obtain ⟨v1, e_v1⟩ : ∃ z : Int, z = (gI es 3 7).toInt := ⟨_, rfl⟩
  rw [← e_v1]
  have r_v1 : iLO ≤ v1 ∧ v1 ≤ iHI := by rw [e_v1]; exact i32_rng _
  unfold iLO iHI at r_v1
  refine x0 (r := (16, [some (.ref 67)], [.ref 67, .int (zI v1), .ref 67], es)) i_89_15 rfl ?_
  refine x_getr (p := 3) (k := 69) i_89_16 hs_es rfl rfl ?_
  show aW _ _ _ _ _ _ (19, [some (.ref 67)], [.ref 69, .int (zI v1), .ref 67], es)
  refine x_alen (p := 5) (n := 401) i_89_19 hs_es rfl ?_
  by_cases c2 : 401 ≤ v1
  · refine x_cmpT i_89_20 (by unfold i32 iLO iHI; omega) (by unfold i32 iLO iHI; omega) rfl (by simp only [zC, cR]; omega) ?_
    refine x0 (r := (40, [some (.ref 67)], [.int (zI (-2000)), .ref 67], es)) i_89_37 (by rfl) ?_
    refine x_puti (p := 3) (ty := .int) i_89_40 hs_es rfl rfl rfl (Or.inl rfl) ?_
    obtain ⟨es3, e_es3⟩ : ∃ z : PH, z = sI es 3 8 (.int (zI (-2000))) := ⟨_, rfl⟩
    have hs_es3 : sh es3 := by rw [e_es3]; exact sh_sI hs_es (p := 3) (b := 8) rfl rfl
    have hT_es3 : hOK tT es3 := by rw [e_es3]; exact hOK_sI hT_es (p := 3) (b := 8) (lo := iLO) (hi := iHI) rfl rfl (i32_rng _)
    rw [← e_es3]
    refine x_ret (v := none) i_89_43 rfl (fun _ => rfl) rfl rfl rfl ?_
    exact K1 v1 e_v1 c2 es3 e_es3
  · refine x_cmpF i_89_20 (by unfold i32 iLO iHI; omega) (by unfold i32 iLO iHI; omega) rfl (by simp only [zC, cR]; omega) ?_
    refine x0 (r := (24, [some (.ref 67)], [.ref 67, .ref 67], es)) i_89_23 rfl ?_
    refine x_getr (p := 3) (k := 69) i_89_24 hs_es rfl rfl ?_
    show aW _ _ _ _ _ _ (27, [some (.ref 67)], [.ref 69, .ref 67], es)
    refine x0 (r := (28, [some (.ref 67)], [.ref 67, .ref 69, .ref 67], es)) i_89_27 rfl ?_
    refine x_geti (p := 3) i_89_28 hs_es rfl rfl ?_
    obtain ⟨v4, e_v4⟩ : ∃ z : Int, z = (gI es 3 7).toInt := ⟨_, rfl⟩
    rw [← e_v4]
    have r_v4 : iLO ≤ v4 ∧ v4 ≤ iHI := by rw [e_v4]; exact i32_rng _
    unfold iLO iHI at r_v4
    refine x_call (vs := [.ref 69, .int (zI v4)]) (rs := [.ref 67]) i_89_31 rfl (fun _ => rfl) rfl rfl rfl rfl rfl rfl ?_
    show aW _ _ _ _ _ _ (0, [some (.ref 69), some (.int (zI v4))], [], es)
    refine at_sp (p := 5) rfl hs_es (by omega) (by omega) (by decide) (fun v5 p_v5 => ?_)
    have r_v5 := atP_rng p_v5
    show aW _ _ _ _ _ _ (34, [some (.ref 67)], [.int (zI v5), .ref 67], es)
    refine x0 (r := (40, [some (.ref 67)], [.int (zI v5), .ref 67], es)) i_89_34 rfl ?_
    refine x_puti (p := 3) (ty := .int) i_89_40 hs_es rfl rfl rfl (Or.inl rfl) ?_
    obtain ⟨es6, e_es6⟩ : ∃ z : PH, z = sI es 3 8 (.int (zI v5)) := ⟨_, rfl⟩
    have hs_es6 : sh es6 := by rw [e_es6]; exact sh_sI hs_es (p := 3) (b := 8) rfl rfl
    have hT_es6 : hOK tT es6 := by rw [e_es6]; exact hOK_sI hT_es (p := 3) (b := 8) (lo := iLO) (hi := iHI) rfl rfl (i32_rng _)
    rw [← e_es6]
    refine x_ret (v := none) i_89_43 rfl (fun _ => rfl) rfl rfl rfl ?_
    exact K2 v1 e_v1 c2 v4 e_v4 v5 p_v5 es6 e_es6
theorem s_em90 {O : pOut} {d kc ks : Nat} {Q : pRes → Prop} {es : PH} {c : Int} (hs_es : sh es) (hT_es : hOK tT es)
    (K1 : ∀ v1 : Int, v1 = (gI es 3 2).toInt → ∀ es2 : PH, anyS 4 v1 c es es2 → ∀ v3 : Int, v3 = (gI es2 3 2).toInt → ∀ es4 : PH, es4 = sI es2 3 2 (.int (zI (v3 + 1))) → Q (.inl (none), es4, kc, ks)) :
    aW O (d + 1) 90 kc ks Q (0, [some (.ref 67), some (.int (zI c))], [], es) := by
  refine x0 (r := (1, [some (.ref 67), some (.int (zI c))], [.ref 67], es)) i_90_0 rfl ?_
  refine x_getr (p := 3) (k := 68) i_90_1 hs_es rfl rfl ?_
  show aW _ _ _ _ _ _ (4, [some (.ref 67), some (.int (zI c))], [.ref 68], es)
  refine x0 (r := (5, [some (.ref 67), some (.int (zI c))], [.ref 67, .ref 68], es)) i_90_4 rfl ?_
  refine x_geti (p := 3) i_90_5 hs_es rfl rfl ?_
  obtain ⟨v1, e_v1⟩ : ∃ z : Int, z = (gI es 3 2).toInt := ⟨_, rfl⟩
  rw [← e_v1]
  have r_v1 : iLO ≤ v1 ∧ v1 ≤ iHI := by rw [e_v1]; exact i32_rng _
  unfold iLO iHI at r_v1
  refine x0 (r := (9, [some (.ref 67), some (.int (zI c))], [.int (zI c), .int (zI v1), .ref 68], es)) i_90_8 rfl ?_
  refine x_call (vs := [.ref 68, .int (zI v1), .int (zI c)]) (rs := []) i_90_9 rfl (fun _ => rfl) rfl rfl rfl rfl rfl rfl ?_
  show aW _ _ _ _ _ _ (0, [some (.ref 68), some (.int (zI v1)), some (.int (zI c))], [], es)
  refine set_any (p := 4) rfl hs_es hT_es (fun _ => ⟨Int.le_refl _, Int.le_refl _⟩) (by decide) (by unfold i32 iLO iHI; omega) (fun es2 p_es2 => ?_)
  have hs_es2 : sh es2 := p_es2.1
  have hT_es2 : hOK tT es2 := p_es2.2.1
  show aW _ _ _ _ _ _ (12, [some (.ref 67), some (.int (zI c))], [], es2)
  refine x0 (r := (13, [some (.ref 67), some (.int (zI c))], [.ref 67], es2)) i_90_12 rfl ?_
  refine x0 (r := (14, [some (.ref 67), some (.int (zI c))], [.ref 67, .ref 67], es2)) i_90_13 rfl ?_
  refine x_geti (p := 3) i_90_14 hs_es2 rfl rfl ?_
  obtain ⟨v3, e_v3⟩ : ∃ z : Int, z = (gI es2 3 2).toInt := ⟨_, rfl⟩
  rw [← e_v3]
  have r_v3 : iLO ≤ v3 ∧ v3 ≤ iHI := by rw [e_v3]; exact i32_rng _
  unfold iLO iHI at r_v3
  refine x0 (r := (18, [some (.ref 67), some (.int (zI c))], [.int (zI 1), .int (zI v3), .ref 67], es2)) i_90_17 (by rfl) ?_
  refine x_iadd i_90_18 ?_
  refine x_puti (p := 3) (ty := .int) i_90_19 hs_es2 rfl rfl rfl (Or.inl rfl) ?_
  obtain ⟨es4, e_es4⟩ : ∃ z : PH, z = sI es2 3 2 (.int (zI (v3 + 1))) := ⟨_, rfl⟩
  have hs_es4 : sh es4 := by rw [e_es4]; exact sh_sI hs_es2 (p := 3) (b := 2) rfl rfl
  have hT_es4 : hOK tT es4 := by rw [e_es4]; exact hOK_sI hT_es2 (p := 3) (b := 2) (lo := iLO) (hi := iHI) rfl rfl (i32_rng _)
  rw [← e_es4]
  refine x_ret (v := none) i_90_22 rfl (fun _ => rfl) rfl rfl rfl ?_
  exact K1 v1 e_v1 es2 p_es2 v3 e_v3 es4 e_es4
theorem s_li0 {O : pOut} {d kc ks : Nat} {Q : pRes → Prop} {es : PH} (hs_es : sh es) (ht : -3000 ≤ (gI es 3 8).toInt ∧ (gI es 3 8).toInt ≤ 999) (hT_es : hOK tT es)
    (K1 : ∀ v1 : Int, v1 = (gI es 3 8).toInt → (-12) < v1 → aW O d 96 kc ks Q (18, [some (.ref 67), some (.int (zI v1)), none], [.ref 67], es))
    (K2 : ∀ v1 : Int, v1 = (gI es 3 8).toInt → ¬ ((-12) < v1) → (-16) ≤ v1 → aW O d 96 kc ks Q (25, [some (.ref 67), some (.int (zI v1)), some (.int (zI 1))], [.ref 67], es))
    (K3 : ∀ v1 : Int, v1 = (gI es 3 8).toInt → ¬ ((-12) < v1) → ¬ ((-16) ≤ v1) → aW O d 96 kc ks Q (18, [some (.ref 67), some (.int (zI v1)), none], [.ref 67], es)) :
    aW O d 96 kc ks Q (0, [some (.ref 67), none, none], [], es) := by
  refine x0 (r := (1, [some (.ref 67), none, none], [.ref 67], es)) i_96_0 rfl ?_
  refine x_geti (p := 3) i_96_1 hs_es rfl rfl ?_
  obtain ⟨v1, e_v1⟩ : ∃ z : Int, z = (gI es 3 8).toInt := ⟨_, rfl⟩
  rw [← e_v1]
  have r_v1 : iLO ≤ v1 ∧ v1 ≤ iHI := by rw [e_v1]; exact i32_rng _
  unfold iLO iHI at r_v1
  refine x0 (r := (5, [some (.ref 67), some (.int (zI v1)), none], [], es)) i_96_4 rfl ?_
  refine x0 (r := (6, [some (.ref 67), some (.int (zI v1)), none], [.int (zI v1)], es)) i_96_5 rfl ?_
  refine x0 (r := (8, [some (.ref 67), some (.int (zI v1)), none], [.int (zI (-12)), .int (zI v1)], es)) i_96_6 (by rfl) ?_
  by_cases c2 : (-12) < v1
  · refine x_cmpT i_96_8 (by unfold i32 iLO iHI; omega) (by unfold i32 iLO iHI; omega) rfl (by simp only [zC, cR]; omega) ?_
    refine x0 (r := (18, [some (.ref 67), some (.int (zI v1)), none], [.ref 67], es)) i_96_17 rfl ?_
    exact K1 v1 e_v1 c2
  · refine x_cmpF i_96_8 (by unfold i32 iLO iHI; omega) (by unfold i32 iLO iHI; omega) rfl (by simp only [zC, cR]; omega) ?_
    refine x0 (r := (12, [some (.ref 67), some (.int (zI v1)), none], [.int (zI v1)], es)) i_96_11 rfl ?_
    refine x0 (r := (14, [some (.ref 67), some (.int (zI v1)), none], [.int (zI (-16)), .int (zI v1)], es)) i_96_12 (by rfl) ?_
    by_cases c3 : (-16) ≤ v1
    · refine x_cmpT i_96_14 (by unfold i32 iLO iHI; omega) (by unfold i32 iLO iHI; omega) rfl (by simp only [zC, cR]; omega) ?_
      refine x0 (r := (23, [some (.ref 67), some (.int (zI v1)), none], [.int (zI 1)], es)) i_96_22 (by rfl) ?_
      refine x0 (r := (24, [some (.ref 67), some (.int (zI v1)), some (.int (zI 1))], [], es)) i_96_23 rfl ?_
      refine x0 (r := (25, [some (.ref 67), some (.int (zI v1)), some (.int (zI 1))], [.ref 67], es)) i_96_24 rfl ?_
      exact K2 v1 e_v1 c2 c3
    · refine x_cmpF i_96_14 (by unfold i32 iLO iHI; omega) (by unfold i32 iLO iHI; omega) rfl (by simp only [zC, cR]; omega) ?_
      refine x0 (r := (18, [some (.ref 67), some (.int (zI v1)), none], [.ref 67], es)) i_96_17 rfl ?_
      exact K3 v1 e_v1 c2 c3
theorem s_li21 {O : pOut} {d kc ks : Nat} {Q : pRes → Prop} {es : PH} {s v : Int} (hs_es : sh es) (hv : v = 0) (hT_es : hOK tT es)
    (K1 : Q (.inl (some (.int (zI v))), es, kc, ks)) :
    aW O d 96 kc ks Q (21, [some (.ref 67), some (.int (zI s)), none], [.int (zI v)], es) := by
  refine x_ret (v := some (.int (zI v))) i_96_21 rfl (fun _ => rfl) rfl rfl (pFin_b (by omega)) ?_
  exact K1
theorem s_li28 {O : pOut} {d kc ks : Nat} {Q : pRes → Prop} {es : PH} {s : Int} (hs_es : sh es) (hs : -16 ≤ s ∧ s ≤ -12) (ht : -3000 ≤ (gI es 3 8).toInt ∧ (gI es 3 8).toInt ≤ 999) (hT_es : hOK tT es)
    (K1 : s = (-15) → aW O d 96 kc ks Q (65, [some (.ref 67), some (.int (zI s)), some (.int (zI 1))], [], es))
    (K2 : ¬ (s = (-15)) → s = (-16) → aW O d 96 kc ks Q (65, [some (.ref 67), some (.int (zI s)), some (.int (zI 1))], [], es))
    (K3 : ¬ (s = (-15)) → ¬ (s = (-16)) → ∀ v3 : Int, v3 = (gI es 3 8).toInt → v3 < 1 → aW O d 96 kc ks Q (57, [some (.ref 67), some (.int (zI s)), some (.int (zI v3))], [.ref 67], es))
    (K4 : ¬ (s = (-15)) → ¬ (s = (-16)) → ∀ v3 : Int, v3 = (gI es 3 8).toInt → ¬ (v3 < 1) → v3 < 6 → aW O d 96 kc ks Q (62, [some (.ref 67), some (.int (zI s)), some (.int (zI v3))], [.ref 67], es))
    (K5 : ¬ (s = (-15)) → ¬ (s = (-16)) → ∀ v3 : Int, v3 = (gI es 3 8).toInt → ¬ (v3 < 1) → ¬ (v3 < 6) → aW O d 96 kc ks Q (57, [some (.ref 67), some (.int (zI s)), some (.int (zI v3))], [.ref 67], es)) :
    aW O d 96 kc ks Q (28, [some (.ref 67), some (.int (zI s)), some (.int (zI 1))], [], es) := by
  refine x0 (r := (29, [some (.ref 67), some (.int (zI s)), some (.int (zI 1))], [.int (zI s)], es)) i_96_28 rfl ?_
  refine x0 (r := (31, [some (.ref 67), some (.int (zI s)), some (.int (zI 1))], [.int (zI (-15)), .int (zI s)], es)) i_96_29 (by rfl) ?_
  by_cases c1 : s = (-15)
  · refine x_cmpT i_96_31 (by unfold i32 iLO iHI; omega) (by unfold i32 iLO iHI; omega) rfl (by simp only [zC, cR]; omega) ?_
    exact K1 c1
  · refine x_cmpF i_96_31 (by unfold i32 iLO iHI; omega) (by unfold i32 iLO iHI; omega) rfl (by simp only [zC, cR]; omega) ?_
    refine x0 (r := (35, [some (.ref 67), some (.int (zI s)), some (.int (zI 1))], [.int (zI s)], es)) i_96_34 rfl ?_
    refine x0 (r := (37, [some (.ref 67), some (.int (zI s)), some (.int (zI 1))], [.int (zI (-16)), .int (zI s)], es)) i_96_35 (by rfl) ?_
    by_cases c2 : s = (-16)
    · refine x_cmpT i_96_37 (by unfold i32 iLO iHI; omega) (by unfold i32 iLO iHI; omega) rfl (by simp only [zC, cR]; omega) ?_
      exact K2 c1 c2
    · refine x_cmpF i_96_37 (by unfold i32 iLO iHI; omega) (by unfold i32 iLO iHI; omega) rfl (by simp only [zC, cR]; omega) ?_
      refine x0 (r := (41, [some (.ref 67), some (.int (zI s)), some (.int (zI 1))], [.ref 67], es)) i_96_40 rfl ?_
      refine x_geti (p := 3) i_96_41 hs_es rfl rfl ?_
      obtain ⟨v3, e_v3⟩ : ∃ z : Int, z = (gI es 3 8).toInt := ⟨_, rfl⟩
      rw [← e_v3]
      have r_v3 : iLO ≤ v3 ∧ v3 ≤ iHI := by rw [e_v3]; exact i32_rng _
      unfold iLO iHI at r_v3
      refine x0 (r := (45, [some (.ref 67), some (.int (zI s)), some (.int (zI v3))], [], es)) i_96_44 rfl ?_
      refine x0 (r := (46, [some (.ref 67), some (.int (zI s)), some (.int (zI v3))], [.int (zI v3)], es)) i_96_45 rfl ?_
      refine x0 (r := (47, [some (.ref 67), some (.int (zI s)), some (.int (zI v3))], [.int (zI 1), .int (zI v3)], es)) i_96_46 (by rfl) ?_
      by_cases c4 : v3 < 1
      · refine x_cmpT i_96_47 (by unfold i32 iLO iHI; omega) (by unfold i32 iLO iHI; omega) rfl (by simp only [zC, cR]; omega) ?_
        refine x0 (r := (57, [some (.ref 67), some (.int (zI s)), some (.int (zI v3))], [.ref 67], es)) i_96_56 rfl ?_
        exact K3 c1 c2 v3 e_v3 c4
      · refine x_cmpF i_96_47 (by unfold i32 iLO iHI; omega) (by unfold i32 iLO iHI; omega) rfl (by simp only [zC, cR]; omega) ?_
        refine x0 (r := (51, [some (.ref 67), some (.int (zI s)), some (.int (zI v3))], [.int (zI v3)], es)) i_96_50 rfl ?_
        refine x0 (r := (53, [some (.ref 67), some (.int (zI s)), some (.int (zI v3))], [.int (zI 6), .int (zI v3)], es)) i_96_51 (by rfl) ?_
        by_cases c5 : v3 < 6
        · refine x_cmpT i_96_53 (by unfold i32 iLO iHI; omega) (by unfold i32 iLO iHI; omega) rfl (by simp only [zC, cR]; omega) ?_
          refine x0 (r := (62, [some (.ref 67), some (.int (zI s)), some (.int (zI v3))], [.ref 67], es)) i_96_61 rfl ?_
          exact K4 c1 c2 v3 e_v3 c4 c5
        · refine x_cmpF i_96_53 (by unfold i32 iLO iHI; omega) (by unfold i32 iLO iHI; omega) rfl (by simp only [zC, cR]; omega) ?_
          refine x0 (r := (57, [some (.ref 67), some (.int (zI s)), some (.int (zI v3))], [.ref 67], es)) i_96_56 rfl ?_
          exact K5 c1 c2 v3 e_v3 c4 c5
theorem s_li60 {O : pOut} {d kc ks : Nat} {Q : pRes → Prop} {es : PH} {s f v : Int} (hs_es : sh es) (hv : v = 0) (hT_es : hOK tT es)
    (K1 : Q (.inl (some (.int (zI v))), es, kc, ks)) :
    aW O d 96 kc ks Q (60, [some (.ref 67), some (.int (zI s)), some (.int (zI f))], [.int (zI v)], es) := by
  refine x_ret (v := some (.int (zI v))) i_96_60 rfl (fun _ => rfl) rfl rfl (pFin_b (by omega)) ?_
  exact K1
theorem s_li65 {O : pOut} {d kc ks : Nat} {Q : pRes → Prop} {es : PH} {s f : Int} (hs_es : sh es) (hT_es : hOK tT es)
    (K1 : aW O d 96 kc ks Q (67, [some (.ref 67), some (.int (zI s)), some (.int (zI f))], [.int (zI s), .ref 67], es)) :
    aW O d 96 kc ks Q (65, [some (.ref 67), some (.int (zI s)), some (.int (zI f))], [], es) := by
  refine x0 (r := (66, [some (.ref 67), some (.int (zI s)), some (.int (zI f))], [.ref 67], es)) i_96_65 rfl ?_
  refine x0 (r := (67, [some (.ref 67), some (.int (zI s)), some (.int (zI f))], [.int (zI s), .ref 67], es)) i_96_66 rfl ?_
  exact K1
theorem s_li70 {O : pOut} {d kc ks : Nat} {Q : pRes → Prop} {es : PH} {s f : Int} (hs_es : sh es) (hT_es : hOK tT es)
    (K1 : aW O d 96 kc ks Q (72, [some (.ref 67), some (.int (zI s)), some (.int (zI f))], [.int (zI f), .ref 67], es)) :
    aW O d 96 kc ks Q (70, [some (.ref 67), some (.int (zI s)), some (.int (zI f))], [], es) := by
  refine x0 (r := (71, [some (.ref 67), some (.int (zI s)), some (.int (zI f))], [.ref 67], es)) i_96_70 rfl ?_
  refine x0 (r := (72, [some (.ref 67), some (.int (zI s)), some (.int (zI f))], [.int (zI f), .ref 67], es)) i_96_71 rfl ?_
  exact K1
theorem s_li75 {O : pOut} {d kc ks : Nat} {Q : pRes → Prop} {es : PH} {s f : Int} (hs_es : sh es) (hT_es : hOK tT es)
    (K1 : Q (.inl (some (.int (zI 1))), es, kc, ks)) :
    aW O d 96 kc ks Q (75, [some (.ref 67), some (.int (zI s)), some (.int (zI f))], [], es) := by
  refine x0 (r := (76, [some (.ref 67), some (.int (zI s)), some (.int (zI f))], [.int (zI 1)], es)) i_96_75 (by rfl) ?_
  refine x_ret (v := some (.int (zI 1))) i_96_76 rfl (fun _ => rfl) rfl rfl (pFin_b (by omega)) ?_
  exact K1
theorem s_rd0 {O : pOut} {d kc ks : Nat} {Q : pRes → Prop} {es : PH} (hs_es : sh es) (hT_es : hOK tT es)
    (K1 : ∀ es1 : PH, es1 = sI es 3 2 (.int (zI 0)) → ∀ es2 : PH, es2 = sI es1 3 3 (.int (zI 0)) → ∀ es3 : PH, es3 = sI es2 3 4 (.int (zI (-1))) → aW O d 79 kc ks Q (28, [some (.ref 67), some (.int (zI 0)), some (.int (zI 6)), none, none], [.ref 67], es3)) :
    aW O d 79 kc ks Q (0, [some (.ref 67), some (.int (zI 0)), none, none, none], [], es) := by
  refine x0 (r := (1, [some (.ref 67), some (.int (zI 0)), none, none, none], [.int (zI 0)], es)) i_79_0 rfl ?_
  refine x_ifT i_79_1 (by unfold i32 iLO iHI; omega) rfl (by simp only [zC, cR]; omega) ?_
  refine x0 (r := (11, [some (.ref 67), some (.int (zI 0)), none, none, none], [.int (zI 6)], es)) i_79_9 (by rfl) ?_
  refine x0 (r := (12, [some (.ref 67), some (.int (zI 0)), some (.int (zI 6)), none, none], [], es)) i_79_11 rfl ?_
  refine x0 (r := (13, [some (.ref 67), some (.int (zI 0)), some (.int (zI 6)), none, none], [.ref 67], es)) i_79_12 rfl ?_
  refine x0 (r := (14, [some (.ref 67), some (.int (zI 0)), some (.int (zI 6)), none, none], [.int (zI 0), .ref 67], es)) i_79_13 (by rfl) ?_
  refine x_puti (p := 3) (ty := .int) i_79_14 hs_es rfl rfl rfl (Or.inl rfl) ?_
  obtain ⟨es1, e_es1⟩ : ∃ z : PH, z = sI es 3 2 (.int (zI 0)) := ⟨_, rfl⟩
  have hs_es1 : sh es1 := by rw [e_es1]; exact sh_sI hs_es (p := 3) (b := 2) rfl rfl
  have hT_es1 : hOK tT es1 := by rw [e_es1]; exact hOK_sI hT_es (p := 3) (b := 2) (lo := iLO) (hi := iHI) rfl rfl (i32_rng _)
  rw [← e_es1]
  refine x0 (r := (18, [some (.ref 67), some (.int (zI 0)), some (.int (zI 6)), none, none], [.ref 67], es1)) i_79_17 rfl ?_
  refine x0 (r := (19, [some (.ref 67), some (.int (zI 0)), some (.int (zI 6)), none, none], [.int (zI 0), .ref 67], es1)) i_79_18 (by rfl) ?_
  refine x_puti (p := 3) (ty := .int) i_79_19 hs_es1 rfl rfl rfl (Or.inl rfl) ?_
  obtain ⟨es2, e_es2⟩ : ∃ z : PH, z = sI es1 3 3 (.int (zI 0)) := ⟨_, rfl⟩
  have hs_es2 : sh es2 := by rw [e_es2]; exact sh_sI hs_es1 (p := 3) (b := 3) rfl rfl
  have hT_es2 : hOK tT es2 := by rw [e_es2]; exact hOK_sI hT_es1 (p := 3) (b := 3) (lo := iLO) (hi := iHI) rfl rfl (i32_rng _)
  rw [← e_es2]
  refine x0 (r := (23, [some (.ref 67), some (.int (zI 0)), some (.int (zI 6)), none, none], [.ref 67], es2)) i_79_22 rfl ?_
  refine x0 (r := (24, [some (.ref 67), some (.int (zI 0)), some (.int (zI 6)), none, none], [.int (zI (-1)), .ref 67], es2)) i_79_23 (by rfl) ?_
  refine x_puti (p := 3) (ty := .int) i_79_24 hs_es2 rfl rfl rfl (Or.inl rfl) ?_
  obtain ⟨es3, e_es3⟩ : ∃ z : PH, z = sI es2 3 4 (.int (zI (-1))) := ⟨_, rfl⟩
  have hs_es3 : sh es3 := by rw [e_es3]; exact sh_sI hs_es2 (p := 3) (b := 4) rfl rfl
  have hT_es3 : hOK tT es3 := by rw [e_es3]; exact hOK_sI hT_es2 (p := 3) (b := 4) (lo := iLO) (hi := iHI) rfl rfl (i32_rng _)
  rw [← e_es3]
  refine x0 (r := (28, [some (.ref 67), some (.int (zI 0)), some (.int (zI 6)), none, none], [.ref 67], es3)) i_79_27 rfl ?_
  exact K1 es1 e_es1 es2 e_es2 es3 e_es3
theorem s_rd31 {O : pOut} {d kc ks : Nat} {Q : pRes → Prop} {es : PH} (hs_es : sh es) (ht : -3000 ≤ (gI es 3 8).toInt ∧ (gI es 3 8).toInt ≤ 999) (hT_es : hOK tT es)
    (K1 : ∀ v1 : Int, v1 = (gI es 3 8).toInt → v1 ≠ (-2000) → aW O d 79 kc ks Q (45, [some (.ref 67), some (.int (zI 0)), some (.int (zI 6)), some (.int (zI 0)), none], [], es))
    (K2 : ∀ v1 : Int, v1 = (gI es 3 8).toInt → ¬ (v1 ≠ (-2000)) → Q (.inl (some (.int (zI 1))), es, kc, ks)) :
    aW O d 79 kc ks Q (31, [some (.ref 67), some (.int (zI 0)), some (.int (zI 6)), none, none], [], es) := by
  refine x0 (r := (32, [some (.ref 67), some (.int (zI 0)), some (.int (zI 6)), none, none], [.ref 67], es)) i_79_31 rfl ?_
  refine x_geti (p := 3) i_79_32 hs_es rfl rfl ?_
  obtain ⟨v1, e_v1⟩ : ∃ z : Int, z = (gI es 3 8).toInt := ⟨_, rfl⟩
  rw [← e_v1]
  have r_v1 : iLO ≤ v1 ∧ v1 ≤ iHI := by rw [e_v1]; exact i32_rng _
  unfold iLO iHI at r_v1
  refine x0 (r := (38, [some (.ref 67), some (.int (zI 0)), some (.int (zI 6)), none, none], [.int (zI (-2000)), .int (zI v1)], es)) i_79_35 (by rfl) ?_
  by_cases c2 : v1 ≠ (-2000)
  · refine x_cmpT i_79_38 (by unfold i32 iLO iHI; omega) (by unfold i32 iLO iHI; omega) rfl (by simp only [zC, cR]; omega) ?_
    refine x0 (r := (44, [some (.ref 67), some (.int (zI 0)), some (.int (zI 6)), none, none], [.int (zI 0)], es)) i_79_43 (by rfl) ?_
    refine x0 (r := (45, [some (.ref 67), some (.int (zI 0)), some (.int (zI 6)), some (.int (zI 0)), none], [], es)) i_79_44 rfl ?_
    exact K1 v1 e_v1 c2
  · refine x_cmpF i_79_38 (by unfold i32 iLO iHI; omega) (by unfold i32 iLO iHI; omega) rfl (by simp only [zC, cR]; omega) ?_
    refine x0 (r := (42, [some (.ref 67), some (.int (zI 0)), some (.int (zI 6)), none, none], [.int (zI 1)], es)) i_79_41 (by rfl) ?_
    refine x_ret (v := some (.int (zI 1))) i_79_42 rfl (fun _ => rfl) rfl rfl (pFin_b (by omega)) ?_
    exact K2 v1 e_v1 c2
theorem s_rd45 {O : pOut} {d kc ks : Nat} {Q : pRes → Prop} {es : PH} {l : Int} {x4 : Option Value} (hs_es : sh es) (hl : 0 ≤ l ∧ l ≤ 6) (hT_es : hOK tT es)
    (K1 : 6 ≤ l → aW O d 79 kc ks Q (122, [some (.ref 67), some (.int (zI 0)), some (.int (zI 6)), some (.int (zI l)), x4], [.ref 67], es))
    (K2 : ¬ (6 ≤ l) → aW O d 79 kc ks Q (62, [some (.ref 67), some (.int (zI 0)), some (.int (zI 6)), some (.int (zI l)), x4], [.ref 67], es)) :
    aW O d 79 kc ks Q (45, [some (.ref 67), some (.int (zI 0)), some (.int (zI 6)), some (.int (zI l)), x4], [], es) := by
  refine x0 (r := (46, [some (.ref 67), some (.int (zI 0)), some (.int (zI 6)), some (.int (zI l)), x4], [.int (zI l)], es)) i_79_45 rfl ?_
  refine x0 (r := (47, [some (.ref 67), some (.int (zI 0)), some (.int (zI 6)), some (.int (zI l)), x4], [.int (zI 6), .int (zI l)], es)) i_79_46 rfl ?_
  by_cases c1 : 6 ≤ l
  · refine x_cmpT i_79_47 (by unfold i32 iLO iHI; omega) (by unfold i32 iLO iHI; omega) rfl (by simp only [zC, cR]; omega) ?_
    refine x0 (r := (122, [some (.ref 67), some (.int (zI 0)), some (.int (zI 6)), some (.int (zI l)), x4], [.ref 67], es)) i_79_121 rfl ?_
    exact K1 c1
  · refine x_cmpF i_79_47 (by unfold i32 iLO iHI; omega) (by unfold i32 iLO iHI; omega) rfl (by simp only [zC, cR]; omega) ?_
    refine x0 (r := (51, [some (.ref 67), some (.int (zI 0)), some (.int (zI 6)), some (.int (zI l)), x4], [.int (zI 0)], es)) i_79_50 rfl ?_
    refine x_ifT i_79_51 (by unfold i32 iLO iHI; omega) rfl (by simp only [zC, cR]; omega) ?_
    refine x0 (r := (62, [some (.ref 67), some (.int (zI 0)), some (.int (zI 6)), some (.int (zI l)), x4], [.ref 67], es)) i_79_61 rfl ?_
    exact K2 c1
theorem s_rd65 {O : pOut} {d kc ks : Nat} {Q : pRes → Prop} {es : PH} {l v : Int} {x4 : Option Value} (hs_es : sh es) (hl : 0 ≤ l ∧ l ≤ 5) (hv : v = 0 ∨ v = 1) (hT_es : hOK tT es)
    (K1 : v ≠ 0 → ∀ v2 : Int, v2 = (gI es 3 3).toInt → ∀ es3 : PH, es3 = sI es 3 3 (.int (zI (v2 + 1))) → aW O d 79 kc ks Q (84, [some (.ref 67), some (.int (zI 0)), some (.int (zI 6)), some (.int (zI l)), some (.int (zI v))], [], es3))
    (K2 : ¬ (v ≠ 0) → Q (.inl (some (.int (zI 0))), es, kc, ks)) :
    aW O d 79 kc ks Q (65, [some (.ref 67), some (.int (zI 0)), some (.int (zI 6)), some (.int (zI l)), x4], [.int (zI v)], es) := by
  refine x0 (r := (67, [some (.ref 67), some (.int (zI 0)), some (.int (zI 6)), some (.int (zI l)), some (.int (zI v))], [], es)) i_79_65 rfl ?_
  refine x0 (r := (69, [some (.ref 67), some (.int (zI 0)), some (.int (zI 6)), some (.int (zI l)), some (.int (zI v))], [.int (zI v)], es)) i_79_67 rfl ?_
  by_cases c1 : v ≠ 0
  · refine x_ifT i_79_69 (by unfold i32 iLO iHI; omega) rfl (by simp only [zC, cR]; omega) ?_
    refine x0 (r := (75, [some (.ref 67), some (.int (zI 0)), some (.int (zI 6)), some (.int (zI l)), some (.int (zI v))], [.ref 67], es)) i_79_74 rfl ?_
    refine x0 (r := (76, [some (.ref 67), some (.int (zI 0)), some (.int (zI 6)), some (.int (zI l)), some (.int (zI v))], [.ref 67, .ref 67], es)) i_79_75 rfl ?_
    refine x_geti (p := 3) i_79_76 hs_es rfl rfl ?_
    obtain ⟨v2, e_v2⟩ : ∃ z : Int, z = (gI es 3 3).toInt := ⟨_, rfl⟩
    rw [← e_v2]
    have r_v2 : iLO ≤ v2 ∧ v2 ≤ iHI := by rw [e_v2]; exact i32_rng _
    unfold iLO iHI at r_v2
    refine x0 (r := (80, [some (.ref 67), some (.int (zI 0)), some (.int (zI 6)), some (.int (zI l)), some (.int (zI v))], [.int (zI 1), .int (zI v2), .ref 67], es)) i_79_79 (by rfl) ?_
    refine x_iadd i_79_80 ?_
    refine x_puti (p := 3) (ty := .int) i_79_81 hs_es rfl rfl rfl (Or.inl rfl) ?_
    obtain ⟨es3, e_es3⟩ : ∃ z : PH, z = sI es 3 3 (.int (zI (v2 + 1))) := ⟨_, rfl⟩
    have hs_es3 : sh es3 := by rw [e_es3]; exact sh_sI hs_es (p := 3) (b := 3) rfl rfl
    have hT_es3 : hOK tT es3 := by rw [e_es3]; exact hOK_sI hT_es (p := 3) (b := 3) (lo := iLO) (hi := iHI) rfl rfl (i32_rng _)
    rw [← e_es3]
    exact K1 c1 v2 e_v2 es3 e_es3
  · refine x_ifF i_79_69 (by unfold i32 iLO iHI; omega) rfl (by simp only [zC, cR]; omega) ?_
    refine x0 (r := (73, [some (.ref 67), some (.int (zI 0)), some (.int (zI 6)), some (.int (zI l)), some (.int (zI v))], [.int (zI 0)], es)) i_79_72 (by rfl) ?_
    refine x_ret (v := some (.int (zI 0))) i_79_73 rfl (fun _ => rfl) rfl rfl (pFin_b (by omega)) ?_
    exact K2 c1
theorem s_rd84 {O : pOut} {d kc ks : Nat} {Q : pRes → Prop} {es : PH} {l : Int} (hs_es : sh es) (hl : 0 ≤ l ∧ l ≤ 5) (ht : -3000 ≤ (gI es 3 8).toInt ∧ (gI es 3 8).toInt ≤ 999) (hT_es : hOK tT es)
    (K1 : ∀ v1 : Int, v1 = (gI es 3 8).toInt → v1 ≠ (-2000) → ∀ v3 : Int, v3 = (gI es 3 8).toInt → v3 = (-1059) → aW O d 79 kc ks Q (112, [some (.ref 67), some (.int (zI 0)), some (.int (zI 6)), some (.int (zI l)), some (.int (zI 1))], [.ref 67], es))
    (K2 : ∀ v1 : Int, v1 = (gI es 3 8).toInt → v1 ≠ (-2000) → ∀ v3 : Int, v3 = (gI es 3 8).toInt → ¬ (v3 = (-1059)) → aW O d 79 kc ks Q (107, [some (.ref 67), some (.int (zI 0)), some (.int (zI 6)), some (.int (zI l)), some (.int (zI 1))], [.ref 67], es))
    (K3 : ∀ v1 : Int, v1 = (gI es 3 8).toInt → ¬ (v1 ≠ (-2000)) → Q (.inl (some (.int (zI 1))), es, kc, ks)) :
    aW O d 79 kc ks Q (84, [some (.ref 67), some (.int (zI 0)), some (.int (zI 6)), some (.int (zI l)), some (.int (zI 1))], [], es) := by
  refine x0 (r := (85, [some (.ref 67), some (.int (zI 0)), some (.int (zI 6)), some (.int (zI l)), some (.int (zI 1))], [.ref 67], es)) i_79_84 rfl ?_
  refine x_geti (p := 3) i_79_85 hs_es rfl rfl ?_
  obtain ⟨v1, e_v1⟩ : ∃ z : Int, z = (gI es 3 8).toInt := ⟨_, rfl⟩
  rw [← e_v1]
  have r_v1 : iLO ≤ v1 ∧ v1 ≤ iHI := by rw [e_v1]; exact i32_rng _
  unfold iLO iHI at r_v1
  refine x0 (r := (91, [some (.ref 67), some (.int (zI 0)), some (.int (zI 6)), some (.int (zI l)), some (.int (zI 1))], [.int (zI (-2000)), .int (zI v1)], es)) i_79_88 (by rfl) ?_
  by_cases c2 : v1 ≠ (-2000)
  · refine x_cmpT i_79_91 (by unfold i32 iLO iHI; omega) (by unfold i32 iLO iHI; omega) rfl (by simp only [zC, cR]; omega) ?_
    refine x0 (r := (97, [some (.ref 67), some (.int (zI 0)), some (.int (zI 6)), some (.int (zI l)), some (.int (zI 1))], [.ref 67], es)) i_79_96 rfl ?_
    refine x_geti (p := 3) i_79_97 hs_es rfl rfl ?_
    obtain ⟨v3, e_v3⟩ : ∃ z : Int, z = (gI es 3 8).toInt := ⟨_, rfl⟩
    rw [← e_v3]
    have r_v3 : iLO ≤ v3 ∧ v3 ≤ iHI := by rw [e_v3]; exact i32_rng _
    unfold iLO iHI at r_v3
    refine x0 (r := (103, [some (.ref 67), some (.int (zI 0)), some (.int (zI 6)), some (.int (zI l)), some (.int (zI 1))], [.int (zI (-1059)), .int (zI v3)], es)) i_79_100 (by rfl) ?_
    by_cases c4 : v3 = (-1059)
    · refine x_cmpT i_79_103 (by unfold i32 iLO iHI; omega) (by unfold i32 iLO iHI; omega) rfl (by simp only [zC, cR]; omega) ?_
      refine x0 (r := (112, [some (.ref 67), some (.int (zI 0)), some (.int (zI 6)), some (.int (zI l)), some (.int (zI 1))], [.ref 67], es)) i_79_111 rfl ?_
      exact K1 v1 e_v1 c2 v3 e_v3 c4
    · refine x_cmpF i_79_103 (by unfold i32 iLO iHI; omega) (by unfold i32 iLO iHI; omega) rfl (by simp only [zC, cR]; omega) ?_
      refine x0 (r := (107, [some (.ref 67), some (.int (zI 0)), some (.int (zI 6)), some (.int (zI l)), some (.int (zI 1))], [.ref 67], es)) i_79_106 rfl ?_
      exact K2 v1 e_v1 c2 v3 e_v3 c4
  · refine x_cmpF i_79_91 (by unfold i32 iLO iHI; omega) (by unfold i32 iLO iHI; omega) rfl (by simp only [zC, cR]; omega) ?_
    refine x0 (r := (95, [some (.ref 67), some (.int (zI 0)), some (.int (zI 6)), some (.int (zI l)), some (.int (zI 1))], [.int (zI 1)], es)) i_79_94 (by rfl) ?_
    refine x_ret (v := some (.int (zI 1))) i_79_95 rfl (fun _ => rfl) rfl rfl (pFin_b (by omega)) ?_
    exact K3 v1 e_v1 c2
theorem s_rd110 {O : pOut} {d kc ks : Nat} {Q : pRes → Prop} {es : PH} {l v : Int} {x4 : Option Value} (hs_es : sh es) (hv : v = 0) (hT_es : hOK tT es)
    (K1 : Q (.inl (some (.int (zI v))), es, kc, ks)) :
    aW O d 79 kc ks Q (110, [some (.ref 67), some (.int (zI 0)), some (.int (zI 6)), some (.int (zI l)), x4], [.int (zI v)], es) := by
  refine x_ret (v := some (.int (zI v))) i_79_110 rfl (fun _ => rfl) rfl rfl (pFin_b (by omega)) ?_
  exact K1
theorem s_rd115 {O : pOut} {d kc ks : Nat} {Q : pRes → Prop} {es : PH} {l : Int} {x4 : Option Value} (hs_es : sh es) (hT_es : hOK tT es)
    (K1 : aW O d 79 kc ks Q (45, [some (.ref 67), some (.int (zI 0)), some (.int (zI 6)), some (.int (zI (l + 1))), x4], [], es)) :
    aW O d 79 kc ks Q (115, [some (.ref 67), some (.int (zI 0)), some (.int (zI 6)), some (.int (zI l)), x4], [], es) := by
  refine x_iinc (x := l) i_79_115 rfl (by show 3 < 5; decide) ?_
  show aW _ _ _ _ _ _ (118, [some (.ref 67), some (.int (zI 0)), some (.int (zI 6)), some (.int (zI (l + 1))), x4], [], es)
  refine x0 (r := (45, [some (.ref 67), some (.int (zI 0)), some (.int (zI 6)), some (.int (zI (l + 1))), x4], [], es)) i_79_118 rfl ?_
  exact K1
theorem s_rd125 {O : pOut} {d kc ks : Nat} {Q : pRes → Prop} {es : PH} {l v : Int} {x4 : Option Value} (hs_es : sh es) (hv : v = 0) (hT_es : hOK tT es)
    (K1 : Q (.inl (some (.int (zI v))), es, kc, ks)) :
    aW O d 79 kc ks Q (125, [some (.ref 67), some (.int (zI 0)), some (.int (zI 6)), some (.int (zI l)), x4], [.int (zI v)], es) := by
  refine x_ret (v := some (.int (zI v))) i_79_125 rfl (fun _ => rfl) rfl rfl (pFin_b (by omega)) ?_
  exact K1
theorem s_emk90 {O : pOut} {d kc ks : Nat} {Q : pRes → Prop} {es : PH} {c : Int} (hs_es : sh es) (hn : 0 ≤ (gI es 3 2).toInt ∧ (gI es 3 2).toInt ≤ 12) (hT_es : hOK tT es)
    (K1 : ∀ v1 : Int, v1 = (gI es 3 2).toInt → ∀ es2 : PH, stP 4 v1 c es es2 → ∀ v3 : Int, v3 = (gI es2 3 2).toInt → ∀ es4 : PH, es4 = sI es2 3 2 (.int (zI (v3 + 1))) → Q (.inl (none), es4, kc, ks)) :
    aW O (d + 1) 90 kc ks Q (0, [some (.ref 67), some (.int (zI c))], [], es) := by
  refine x0 (r := (1, [some (.ref 67), some (.int (zI c))], [.ref 67], es)) i_90_0 rfl ?_
  refine x_getr (p := 3) (k := 68) i_90_1 hs_es rfl rfl ?_
  show aW _ _ _ _ _ _ (4, [some (.ref 67), some (.int (zI c))], [.ref 68], es)
  refine x0 (r := (5, [some (.ref 67), some (.int (zI c))], [.ref 67, .ref 68], es)) i_90_4 rfl ?_
  refine x_geti (p := 3) i_90_5 hs_es rfl rfl ?_
  obtain ⟨v1, e_v1⟩ : ∃ z : Int, z = (gI es 3 2).toInt := ⟨_, rfl⟩
  rw [← e_v1]
  have r_v1 : iLO ≤ v1 ∧ v1 ≤ iHI := by rw [e_v1]; exact i32_rng _
  unfold iLO iHI at r_v1
  refine x0 (r := (9, [some (.ref 67), some (.int (zI c))], [.int (zI c), .int (zI v1), .ref 68], es)) i_90_8 rfl ?_
  refine x_call (vs := [.ref 68, .int (zI v1), .int (zI c)]) (rs := []) i_90_9 rfl (fun _ => rfl) rfl rfl rfl rfl rfl rfl ?_
  show aW _ _ _ _ _ _ (0, [some (.ref 68), some (.int (zI v1)), some (.int (zI c))], [], es)
  refine set_sp (p := 4) rfl hs_es hT_es (fun _ => ⟨Int.le_refl _, Int.le_refl _⟩) (by omega) (by omega) (by decide) (fun es2 p_es2 => ?_)
  have hs_es2 : sh es2 := p_es2.1
  have hT_es2 : hOK tT es2 := p_es2.2.1
  show aW _ _ _ _ _ _ (12, [some (.ref 67), some (.int (zI c))], [], es2)
  refine x0 (r := (13, [some (.ref 67), some (.int (zI c))], [.ref 67], es2)) i_90_12 rfl ?_
  refine x0 (r := (14, [some (.ref 67), some (.int (zI c))], [.ref 67, .ref 67], es2)) i_90_13 rfl ?_
  refine x_geti (p := 3) i_90_14 hs_es2 rfl rfl ?_
  obtain ⟨v3, e_v3⟩ : ∃ z : Int, z = (gI es2 3 2).toInt := ⟨_, rfl⟩
  rw [← e_v3]
  have r_v3 : iLO ≤ v3 ∧ v3 ≤ iHI := by rw [e_v3]; exact i32_rng _
  unfold iLO iHI at r_v3
  refine x0 (r := (18, [some (.ref 67), some (.int (zI c))], [.int (zI 1), .int (zI v3), .ref 67], es2)) i_90_17 (by rfl) ?_
  refine x_iadd i_90_18 ?_
  refine x_puti (p := 3) (ty := .int) i_90_19 hs_es2 rfl rfl rfl (Or.inl rfl) ?_
  obtain ⟨es4, e_es4⟩ : ∃ z : PH, z = sI es2 3 2 (.int (zI (v3 + 1))) := ⟨_, rfl⟩
  have hs_es4 : sh es4 := by rw [e_es4]; exact sh_sI hs_es2 (p := 3) (b := 2) rfl rfl
  have hT_es4 : hOK tT es4 := by rw [e_es4]; exact hOK_sI hT_es2 (p := 3) (b := 2) (lo := iLO) (hi := iHI) rfl rfl (i32_rng _)
  rw [← e_es4]
  refine x_ret (v := none) i_90_22 rfl (fun _ => rfl) rfl rfl rfl ?_
  exact K1 v1 e_v1 es2 p_es2 v3 e_v3 es4 e_es4
/-- what a token on leaves -/
def pkS (a b : PH) : Prop := (∀ q b', q ≠ 3 ∨ b' ≠ 7 ∧ b' ≠ 8 ∧ b' ≠ 4 → gI b q b' = gI a q b') ∧ ∀ q, gA b q = gA a q
/-- what doesn't touch the tokens -/
def qS (es es' : PH) : Prop := hOK tT es' ∧ (∀ q b, q ≠ 3 ∨ b ≠ 2 ∧ b ≠ 3 → gI es' q b = gI es q b) ∧ gA es' 5 = gA es 5 ∧ gA es' 6 = gA es 6
theorem tkS_q {R : Nat → Int32} {n cn k : Nat} {es es' : PH} (h : tkS R n cn k es) (hq : qS es es') : tkS R n cn k es' := by
  obtain ⟨h1, h2, h3, h4, h5, h6, h7⟩ := h
  refine ⟨fun j hj => ?_, h2, h3, h4, h5, ?_, ?_⟩
  · rw [hq.2.2.1, hq.2.2.2]; exact h1 j hj
  · rw [hq.2.1 3 7 (Or.inr (by decide))]; exact h6
  · rw [hq.2.1 3 8 (Or.inr (by decide))]; exact h7
theorem qS_trans {a b c : PH} (h1 : qS a b) (h2 : qS b c) : qS a c := ⟨h2.1, fun q b h => by rw [h2.2.1 q b h, h1.2.1 q b h], by rw [h2.2.2.1, h1.2.2.1], by rw [h2.2.2.2, h1.2.2.2]⟩
section
variable {O : pOut} {d kc ks : Nat} {Q : pRes → Prop} {es : PH} {R : Nat → Int32} {n cn k : Nat}
theorem tkS_le (h : tkS R n cn k es) {j : Nat} (hj : j ≤ cn) : zPs (zR R) n j ≤ n := zPs_le (fun i hi => h.2.2.1 i (by omega))
/-- a token that is none but the end's has one behind it -/
theorem tkS_lt (h : tkS R n cn k es) (ht : ¬ (gI es 3 8).toInt = -2000) : k < cn := by
  have h5 := h.2.2.2.2.1
  have h7 := h.2.2.2.2.2.2
  by_cases hk : k = cn
  · rw [hk, h.2.1, zCod_end (Nat.le_refl n)] at h7
    exact absurd h7 ht
  · omega
theorem tkS_bd (hc : ∀ k, k < 400 → -128 ≤ zR R k ∧ zR R k ≤ 127) (hn : n ≤ 400) (h : tkS R n cn k es) : -3000 ≤ (gI es 3 8).toInt ∧ (gI es 3 8).toInt ≤ 999 := by
  rw [h.2.2.2.2.2.2]
  rcases zCod_cases (c := zR R) (n := n) (q := zPs (zR R) n k) (fun k hk => hc k (by omega)) with h | h | h | h <;> omega
theorem fl_spec (hT : hOK tT es) (h : tkS R n cn k es) (K : ∀ es', hOK tT es' → (gI es' 3 4).toInt = (zPs (zR R) n k : Nat) → Q (.inl (some (.int (zI 0))), es', kc, ks)) : aW O (d + 1) 88 kc ks Q (0, [some (.ref 67)], [], es) := by
  obtain ⟨h1, h2, h3, h4, h5, h6, h7⟩ := h
  refine s_fl0 (d := d) (sh_of hT) ⟨by omega, by omega⟩ hT (fun v1 e1 v2 p2 es3 e3 => ?_)
  have hT3 : hOK tT es3 := by rw [e3]; exact hOK_sI hT (p := 3) (b := 4) (lo := iLO) (hi := iHI) rfl rfl (i32_rng _)
  refine K es3 hT3 ?_
  have hv : v1.toNat = k := by omega
  have h8 : v2 = (gA es 6 v1.toNat).toInt := p2
  rw [e3, gI_sI (sh_of hT) (p := 3) (b := 4) rfl (by decide), h8, zI_toInt (i32_rng _), hv]
  exact (h1 k h5).2
theorem pa_spec (hT : hOK tT es) (h : tkS R n cn k es) (hk : k < cn) (K : ∀ es', hOK tT es' → tkS R n cn (k + 1) es' → (gI es' 3 4).toInt = (gI es 3 4).toInt → pkS es es' → Q (.inl none, es', kc, ks)) : aW O (d + 1) 89 kc ks Q (0, [some (.ref 67)], [], es) := by
  obtain ⟨h1, h2, h3, h4, h5, h6, h7⟩ := h
  refine s_pa0 (d := d + 1) (sh_of hT) ⟨by omega, by omega⟩ hT (fun v1 e1 es2 e2 => ?_)
  have hT2 : hOK tT es2 := by rw [e2]; exact hOK_sI hT (p := 3) (b := 7) (lo := iLO) (hi := iHI) rfl rfl (i32_rng _)
  have hz : (zI (v1 + 1)).toInt = v1 + 1 := zI_toInt (by unfold i32 iLO iHI; omega)
  have h27 : (gI es2 3 7).toInt = (k : Int) + 1 := by
    rw [e2, gI_sI (sh_of hT) (p := 3) (b := 7) rfl (by decide), hz]
    omega
  refine s_pa10 (d := d) (sh_of hT2) ⟨by omega, by omega⟩ hT2 (fun v3 e3 h8 => by omega) (fun v3 e3 h8 v4 e4 v5 p5 es6 e6 => ?_)
  have hT6 : hOK tT es6 := by rw [e6]; exact hOK_sI hT2 (p := 3) (b := 8) (lo := iLO) (hi := iHI) rfl rfl (i32_rng _)
  have hv : v4.toNat = k + 1 := by omega
  have h9 : v5 = (gA es2 5 v4.toNat).toInt := p5
  refine K es6 hT6 ⟨fun j hj => ?_, h2, h3, h4, by omega, ?_, ?_⟩ ?_ ⟨fun q b hq => by rw [e6, gI_sI_ne (by omega), e2, gI_sI_ne (by omega)], fun q => by rw [e6, gA_sI, e2, gA_sI]⟩
  · rw [e6, e2, gA_sI, gA_sI, gA_sI, gA_sI]
    exact h1 j hj
  · rw [e6, gI_sI_ne (Or.inr (by decide)), h27]
    omega
  · rw [e6, gI_sI (sh_of hT2) (p := 3) (b := 8) rfl (by decide), h9, zI_toInt (i32_rng _), hv, e2, gA_sI]
    exact (h1 (k + 1) (by omega)).1
  · rw [e6, gI_sI_ne (Or.inr (by decide)), e2, gI_sI_ne (Or.inr (by decide))]
/-- a token on: the emitted cells stand -/
theorem emk_spec {x : Int} {m : Nat} (hT : hOK tT es) (hm : (gI es 3 2).toInt = (m : Int)) (hm2 : m ≤ 12) (K : ∀ es', qS es es' → (gI es' 3 2).toInt = (m : Int) + 1 → gI es' 3 3 = gI es 3 3 → gA es' 4 = upd (gA es 4) m (zI x) → Q (.inl none, es', kc, ks)) : aW O (d + 1) 90 kc ks Q (0, [some (.ref 67), some (.int (zI x))], [], es) := by
  refine s_emk90 (d := d) (sh_of hT) ⟨by omega, by omega⟩ hT (fun v1 e1 es2 p2 v3 e3 es4 e4 => ?_)
  obtain ⟨p21, p22, p23⟩ := p2
  have hT4 : hOK tT es4 := by rw [e4]; exact hOK_sI p22 (p := 3) (b := 2) (lo := iLO) (hi := iHI) rfl rfl (i32_rng _)
  have hv3 : v3 = (m : Int) := by rw [e3, p23, gI_sA]; exact hm
  refine K es4 ⟨hT4, fun q b h => ?_, ?_, ?_⟩ ?_ ?_ ?_
  · rw [e4, gI_sI_ne (by omega), p23, gI_sA]
  · rw [e4, gA_sI, p23, gA_sA_ne (by decide)]
  · rw [e4, gA_sI, p23, gA_sA_ne (by decide)]
  · rw [e4, gI_sI p21 (p := 3) (b := 2) rfl (by decide), zI_toInt (by unfold i32 iLO iHI; omega), hv3]
  · rw [e4, gI_sI_ne (Or.inr (by decide)), p23, gI_sA]
  · rw [e4, gA_sI, p23, gA_sA (sh_of hT) (p := 4) (t := 0) (n := 400) rfl (by decide), show v1.toNat = m by omega]
/-- the LINES emitted so far -/
def eC (l : List (Int × Int)) (es : PH) : Prop := (gI es 3 2).toInt = 2 * (l.length : Int) ∧ ∀ (i : Nat) (x : Int × Int), l[i]? = some x → (gA es 4 (2 * i)).toInt = x.1 ∧ (gA es 4 (2 * i + 1)).toInt = x.2
theorem eC_pk {l : List (Int × Int)} {a b : PH} (h : eC l a) (hp : pkS a b) : eC l b := ⟨by rw [hp.1 3 2 (Or.inr (by decide))]; exact h.1, fun i x hx => by rw [hp.2 4]; exact h.2 i x hx⟩
/-- a LINE of a KIND, by the class -/
theorem li_spec {l : List (Int × Int)} (hl : l.length ≤ 5) (hE : eC l es) (hc : ∀ k, k < 400 → -128 ≤ zR R k ∧ zR R k ≤ 127) (hn : n ≤ 400) (hT : hOK tT es) (h : tkS R n cn k es)
    (K0 : ∀ es', hOK tT es' → (zKl (zR R) n (zPs (zR R) n k)).2 = none → (gI es' 3 4).toInt = ((zKl (zR R) n (zPs (zR R) n k)).1 : Nat) → Q (.inl (some (.int (zI 0))), es', kc, ks))
    (K1 : ∀ es' k', hOK tT es' → tkS R n cn k' es' → (zKl (zR R) n (zPs (zR R) n k)).2.isSome = true → (zKl (zR R) n (zPs (zR R) n k)).1 = zPs (zR R) n k' → (gI es' 3 4).toInt = (gI es 3 4).toInt → (∀ x, (zKl (zR R) n (zPs (zR R) n k)).2 = some x → eC (l ++ [x]) es') → gI es' 3 3 = gI es 3 3 → Q (.inl (some (.int (zI 1))), es', kc, ks)) :
    aW O (d + 2) 96 kc ks Q (0, [some (.ref 67), none, none], [], es) := by
  have h7 := h.2.2.2.2.2.2
  have hb := tkS_bd hc hn h
  have fail0 : ∀ s, ¬ (-16 ≤ zCod (zR R) n (zPs (zR R) n k) ∧ zCod (zR R) n (zPs (zR R) n k) ≤ -12) → aW O (d + 2) 96 kc ks Q (18, [some (.ref 67), some (.int (zI s)), none], [.ref 67], es) := by
    intro s hs
    have e : zKl (zR R) n (zPs (zR R) n k) = (zPs (zR R) n k, none) := by unfold zKl; rw [if_neg hs]
    refine x_call (vs := [.ref 67]) (rs := []) i_96_18 rfl (fun _ => rfl) rfl rfl rfl rfl rfl (pCall_v (p := 3) (sh_of hT) rfl rfl rfl rfl rfl (by decide) rfl rfl rfl rfl rfl) ?_
    show aW _ _ _ _ _ _ (0, [some (.ref 67)], [], es)
    refine fl_spec (d := d) hT h (fun es' a1 a2 => ?_)
    show aW _ _ _ _ _ _ (21, [some (.ref 67), some (.int (zI s)), none], [.int (zI 0)], es')
    exact s_li21 (sh_of a1) rfl a1 (K0 es' a1 (by rw [e]) (by rw [e]; exact a2))
  -- behind both words
  have tail : ∀ s f k' es1, hOK tT es1 → tkS R n cn k' es1 → (zKl (zR R) n (zPs (zR R) n k)).2.isSome = true → (zKl (zR R) n (zPs (zR R) n k)).1 = zPs (zR R) n k' → (gI es1 3 4).toInt = (gI es 3 4).toInt → eC l es1 → gI es1 3 3 = gI es 3 3 → i32 s → i32 f → (∀ x, (zKl (zR R) n (zPs (zR R) n k)).2 = some x → x = (s, f)) → aW O (d + 2) 96 kc ks Q (65, [some (.ref 67), some (.int (zI s)), some (.int (zI f))], [], es1) := by
    intro s f k' es1 hT1 ht1 g1 g2 g3 g4 g5 g6 g7 g8
    obtain ⟨r1, r2⟩ := g4
    refine s_li65 (sh_of hT1) hT1 ?_
    refine x_call (vs := [.ref 67, .int (zI s)]) (rs := []) i_96_67 rfl (fun _ => rfl) rfl rfl rfl rfl rfl (pCall_v (p := 3) (sh_of hT1) rfl rfl rfl rfl rfl (by decide) rfl rfl rfl rfl rfl) ?_
    show aW _ _ _ _ _ _ (0, [some (.ref 67), some (.int (zI s))], [], es1)
    refine emk_spec (d := d) (m := 2 * l.length) hT1 (by omega) (by omega) (fun es2 p2 a21 a22 a23 => ?_)
    show aW _ _ _ _ _ _ (70, [some (.ref 67), some (.int (zI s)), some (.int (zI f))], [], es2)
    refine s_li70 (sh_of p2.1) p2.1 ?_
    refine x_call (vs := [.ref 67, .int (zI f)]) (rs := []) i_96_72 rfl (fun _ => rfl) rfl rfl rfl rfl rfl (pCall_v (p := 3) (sh_of p2.1) rfl rfl rfl rfl rfl (by decide) rfl rfl rfl rfl rfl) ?_
    show aW _ _ _ _ _ _ (0, [some (.ref 67), some (.int (zI f))], [], es2)
    refine emk_spec (d := d) (m := 2 * l.length + 1) p2.1 (by omega) (by omega) (fun es3 p3 a31 a32 a33 => ?_)
    show aW _ _ _ _ _ _ (75, [some (.ref 67), some (.int (zI s)), some (.int (zI f))], [], es3)
    have p13 := qS_trans p2 p3
    refine s_li75 (sh_of p3.1) p3.1 (K1 es3 k' p3.1 (tkS_q ht1 p13) g1 g2 (by rw [p13.2.1 3 4 (Or.inr (by decide))]; exact g3) (fun x hx => ?_) (by rw [a32, a22, g5]))
    rw [g8 x hx]
    refine ⟨by rw [List.length_append]; show _ = 2 * ((l.length + 1 : Nat) : Int); omega, fun i y hy => ?_⟩
    by_cases hi : i < l.length
    · rw [List.getElem?_append_left hi] at hy
      rw [a33, a23]
      unfold upd
      rw [if_neg (by omega), if_neg (by omega), if_neg (by omega), if_neg (by omega)]
      exact r2 i y hy
    · rw [List.getElem?_append_right (by omega)] at hy
      have hi0 : i - l.length = 0 := by
        cases hz : i - l.length with
        | zero => rfl
        | succ z => rw [hz] at hy; cases hy
      rw [hi0] at hy
      have hxy : (s, f) = y := Option.some.inj hy
      rw [show i = l.length by omega, ← hxy, a33, a23]
      unfold upd
      rw [if_neg (by omega), if_pos rfl, if_pos rfl]
      exact ⟨zI_toInt g6, zI_toInt g7⟩
  refine s_li0 (sh_of hT) hb hT (fun v1 e1 h1 => fail0 v1 (by omega)) (fun v1 e1 h1 h2 => ?_) (fun v1 e1 h1 h2 => fail0 v1 (by omega))
  have hk1 := tkS_lt h (by omega)
  refine x_call (vs := [.ref 67]) (rs := []) i_96_25 rfl (fun _ => rfl) rfl rfl rfl rfl rfl (pCall_v (p := 3) (sh_of hT) rfl rfl rfl rfl rfl (by decide) rfl rfl rfl rfl rfl) ?_
  show aW _ _ _ _ _ _ (0, [some (.ref 67)], [], es)
  refine pa_spec (d := d) hT h hk1 (fun es2 hT2 ht2 hw2 pk2 => ?_)
  have hE2 := eC_pk hE pk2
  have h33 := pk2.1 3 3 (Or.inr (by decide))
  show aW _ _ _ _ _ _ (28, [some (.ref 67), some (.int (zI v1)), some (.int (zI 1))], [], es2)
  have hb2 := tkS_bd hc hn ht2
  have h72 := ht2.2.2.2.2.2.2
  have hps : zPs (zR R) n (k + 1) = zNx (zR R) n (zBe (zR R) n (zPs (zR R) n k)) := rfl
  have fail1 : ∀ f, -14 ≤ v1 → ¬ (1 ≤ (gI es2 3 8).toInt ∧ (gI es2 3 8).toInt ≤ 5) → aW O (d + 2) 96 kc ks Q (57, [some (.ref 67), some (.int (zI v1)), some (.int (zI f))], [.ref 67], es2) := by
    intro f hs hs2
    rw [h72, hps] at hs2
    have e : zKl (zR R) n (zPs (zR R) n k) = (zPs (zR R) n (k + 1), none) := by
      unfold zKl
      rw [if_pos (by omega), if_pos (by omega), if_neg hs2, hps]
    refine x_call (vs := [.ref 67]) (rs := []) i_96_57 rfl (fun _ => rfl) rfl rfl rfl rfl rfl (pCall_v (p := 3) (sh_of hT2) rfl rfl rfl rfl rfl (by decide) rfl rfl rfl rfl rfl) ?_
    show aW _ _ _ _ _ _ (0, [some (.ref 67)], [], es2)
    refine fl_spec (d := d) hT2 ht2 (fun es' a1 a2 => ?_)
    show aW _ _ _ _ _ _ (60, [some (.ref 67), some (.int (zI v1)), some (.int (zI f))], [.int (zI 0)], es')
    exact s_li60 (sh_of a1) rfl a1 (K0 es' a1 (by rw [e]) (by rw [e]; exact a2))
  have leap : ¬ -14 ≤ v1 → zKl (zR R) n (zPs (zR R) n k) = (zPs (zR R) n (k + 1), some (zCod (zR R) n (zPs (zR R) n k), 1)) := by
    intro hs
    unfold zKl
    rw [if_pos (by omega), if_neg (by omega)]
    rfl
  refine s_li28 (s := v1) (sh_of hT2) ⟨by omega, by omega⟩ hb2 hT2 (fun h3 => ?_) (fun h3 h4 => ?_) (fun h3 h4 v3 e3 h5 => fail1 v3 (by omega) (by omega)) (fun h3 h4 v3 e3 h5 h6 => ?_) (fun h3 h4 v3 e3 h5 h6 => fail1 v3 (by omega) (by omega))
  · have e := leap (by omega)
    exact tail v1 1 (k + 1) es2 hT2 ht2 (by rw [e]; rfl) (by rw [e]) hw2 hE2 h33 (by unfold i32 iLO iHI; omega) (by unfold i32 iLO iHI; omega) (fun x hx => by rw [e] at hx; rw [← Option.some.inj hx, e1, h7])
  · have e := leap (by omega)
    exact tail v1 1 (k + 1) es2 hT2 ht2 (by rw [e]; rfl) (by rw [e]) hw2 hE2 h33 (by unfold i32 iLO iHI; omega) (by unfold i32 iLO iHI; omega) (fun x hx => by rw [e] at hx; rw [← Option.some.inj hx, e1, h7])
  · have hk2 := tkS_lt ht2 (by omega)
    refine x_call (vs := [.ref 67]) (rs := []) i_96_62 rfl (fun _ => rfl) rfl rfl rfl rfl rfl (pCall_v (p := 3) (sh_of hT2) rfl rfl rfl rfl rfl (by decide) rfl rfl rfl rfl rfl) ?_
    show aW _ _ _ _ _ _ (0, [some (.ref 67)], [], es2)
    refine pa_spec (d := d) hT2 ht2 hk2 (fun es3 hT3 ht3 hw3 pk3 => ?_)
    show aW _ _ _ _ _ _ (65, [some (.ref 67), some (.int (zI v1)), some (.int (zI v3))], [], es3)
    have hs2 : 1 ≤ zCod (zR R) n (zNx (zR R) n (zBe (zR R) n (zPs (zR R) n k))) ∧ zCod (zR R) n (zNx (zR R) n (zBe (zR R) n (zPs (zR R) n k))) ≤ 5 := by
      rw [← hps, ← h72]
      omega
    have e : zKl (zR R) n (zPs (zR R) n k) = (zPs (zR R) n (k + 1 + 1), some (zCod (zR R) n (zPs (zR R) n k), zCod (zR R) n (zNx (zR R) n (zBe (zR R) n (zPs (zR R) n k))))) := by
      unfold zKl
      rw [if_pos (by omega), if_pos (by omega), if_pos hs2]
      rfl
    exact tail v1 v3 (k + 1 + 1) es3 hT3 ht3 (by rw [e]; rfl) (by rw [e]) (by rw [hw3, hw2]) (eC_pk hE2 pk3) (by rw [pk3.1 3 3 (Or.inr (by decide)), h33]) (by unfold i32 iLO iHI; omega) (by unfold i32 iLO iHI; omega) (fun x hx => by rw [e] at hx; rw [← Option.some.inj hx, e1, h7, e3, h72, hps])
/-- reads, of a KIND's text -/
theorem rd_loop (hc : ∀ k, k < 400 → -128 ≤ zR R k ∧ zR R k ≤ 127) (hn : n ≤ 400)
    (K0 : ∀ es', hOK tT es' → (zKt (zR R) n).2 = none → (gI es' 3 4).toInt = ((zKt (zR R) n).1 : Nat) → Q (.inl (some (.int (zI 0))), es', kc, ks))
    (K1 : ∀ es', hOK tT es' → (zKt (zR R) n).2.isSome = true → (gI es' 3 4).toInt = -1 → eC (zKtL (zR R) n) es' → (gI es' 3 3).toInt = ((zKtL (zR R) n).length : Int) → (zKtL (zR R) n).length ≤ 6 → Q (.inl (some (.int (zI 1))), es', kc, ks)) :
    ∀ (N k : Nat) (l : Int) (x4 : Option Value) (es1 : PH) (acc : List (Int × Int)), (acc.length : Int) = l → eC acc es1 → (gI es1 3 3).toInt = l → acc ++ zKlL (zR R) n N (zPs (zR R) n k) = zKtL (zR R) n → l + (N : Int) = 6 → 0 ≤ l → hOK tT es1 → tkS R n cn k es1 → (gI es1 3 4).toInt = -1 → zKtF (zR R) n N (zPs (zR R) n k) = zKt (zR R) n → aW O (d + 3) 79 kc ks Q (45, [some (.ref 67), some (.int (zI 0)), some (.int (zI 6)), some (.int (zI l)), x4], [], es1) := by
  intro N
  induction N with
  | zero =>
    intro k l x4 es1 acc hla hE h33 hap hl h0 hT h hw hx
    refine s_rd45 (l := l) (sh_of hT) ⟨h0, by omega⟩ hT (fun h1 => ?_) (fun h1 => by omega)
    rw [zKtF_z] at hx
    refine x_call (vs := [.ref 67]) (rs := []) i_79_122 rfl (fun _ => rfl) rfl rfl rfl rfl rfl (pCall_v (p := 3) (sh_of hT) rfl rfl rfl rfl rfl (by decide) rfl rfl rfl rfl rfl) ?_
    show aW _ _ _ _ _ _ (0, [some (.ref 67)], [], es1)
    refine fl_spec (d := d + 1) hT h (fun es' a1 a2 => ?_)
    show aW _ _ _ _ _ _ (125, [some (.ref 67), some (.int (zI 0)), some (.int (zI 6)), some (.int (zI l)), x4], [.int (zI 0)], es')
    exact s_rd125 (sh_of a1) rfl a1 (K0 es' a1 (by rw [← hx]) (by rw [← hx]; exact a2))
  | succ N ih =>
    intro k l x4 es1 acc hla hE h33 hap hl h0 hT h hw hx
    refine s_rd45 (l := l) (sh_of hT) ⟨h0, by omega⟩ hT (fun h1 => by omega) (fun h1 => ?_)
    refine x_call (vs := [.ref 67]) (rs := []) i_79_62 rfl (fun _ => rfl) rfl rfl rfl rfl rfl (pCall_v (p := 3) (sh_of hT) rfl rfl rfl rfl rfl (by decide) rfl rfl rfl rfl rfl) ?_
    show aW _ _ _ _ _ _ (0, [some (.ref 67), none, none], [], es1)
    refine li_spec (l := acc) (by omega) hE (d := d) hc hn hT h (fun es2 a1 a2 a3 => ?_) (fun es2 k' a1 a2 a3 a4 a5 a6 a7 => ?_)
    · show aW _ _ _ _ _ _ (65, [some (.ref 67), some (.int (zI 0)), some (.int (zI 6)), some (.int (zI l)), x4], [.int (zI 0)], es2)
      have hk := zKtF_no (j := N) (zKl_no a2)
      rw [hx] at hk
      refine s_rd65 (l := l) (sh_of a1) ⟨h0, by omega⟩ (Or.inl rfl) a1 (fun h2 => absurd rfl h2) (fun h2 => K0 es2 a1 (by rw [hk]) (by rw [hk]; exact a3))
    · show aW _ _ _ _ _ _ (65, [some (.ref 67), some (.int (zI 0)), some (.int (zI 6)), some (.int (zI l)), x4], [.int (zI 1)], es2)
      refine s_rd65 (l := l) (sh_of a1) ⟨h0, by omega⟩ (Or.inr rfl) a1 (fun h2 v2 e2 es3 e3 => ?_) (fun h2 => absurd (by omega) h2)
      have hT3 : hOK tT es3 := by rw [e3]; exact hOK_sI a1 (p := 3) (b := 3) (lo := iLO) (hi := iHI) rfl rfl (i32_rng _)
      have q3 : qS es2 es3 := ⟨hT3, fun q b hqb => by rw [e3, gI_sI_ne (by omega)], by rw [e3, gA_sI], by rw [e3, gA_sI]⟩
      have t3 := tkS_q a2 q3
      have hw3 : (gI es3 3 4).toInt = -1 := by rw [q3.2.1 3 4 (Or.inr (by decide)), a5]; exact hw
      have b3 := tkS_bd hc hn t3
      have h73 := t3.2.2.2.2.2.2
      have hle := tkS_le t3 t3.2.2.2.2.1
      obtain ⟨x, hkx⟩ := zKl_yes a3
      have hE3 : eC (acc ++ [x]) es3 := by
        obtain ⟨u1, u2⟩ := a6 x (by rw [hkx])
        exact ⟨by rw [e3, gI_sI_ne (Or.inr (by decide))]; exact u1, fun i y hy => by rw [e3, gA_sI]; exact u2 i y hy⟩
      have h333 : (gI es3 3 3).toInt = l + 1 := by
        rw [e3, gI_sI (sh_of a1) (p := 3) (b := 3) rfl (by decide), zI_toInt (by rw [e2, a7]; unfold i32 iLO iHI; omega), e2, a7, h33]
      have hal : ((acc ++ [x]).length : Int) = l + 1 := by
        rw [List.length_append]
        show ((acc.length + 1 : Nat) : Int) = l + 1
        omega
      rw [a4] at hkx
      rw [zKlL_yes hkx] at hap
      have hk := zKtF_yes (j := N) hkx
      rw [hx] at hk
      have hend : (gI es3 3 8).toInt = -2000 ↔ n ≤ zPs (zR R) n k' := by
        rw [h73]
        rcases zCod_cases (c := zR R) (n := n) (q := zPs (zR R) n k') (fun k hk => hc k (by omega)) with g | g | g | g
        · constructor <;> intro g2 <;> omega
        · constructor <;> intro g2 <;> omega
        · constructor <;> intro g2 <;> omega
        · constructor <;> intro g2 <;> omega
      refine s_rd84 (l := l) (sh_of hT3) ⟨h0, by omega⟩ b3 hT3 (fun v4 e4 h4 v5 e5 h5 => ?_) (fun v4 e4 h4 v5 e5 h5 => ?_) (fun v4 e4 h4 => ?_)
      · have hne : ¬ n ≤ zPs (zR R) n k' := fun g => h4 (by rw [e4]; exact hend.mpr g)
        rw [if_neg hne, if_pos (by rw [← h73, ← e5]; exact h5)] at hk
        rw [if_neg hne, if_pos (by rw [← h73, ← e5]; exact h5)] at hap
        have hk1 := tkS_lt t3 (by rw [← e4]; exact h4)
        refine x_call (vs := [.ref 67]) (rs := []) i_79_112 rfl (fun _ => rfl) rfl rfl rfl rfl rfl (pCall_v (p := 3) (sh_of hT3) rfl rfl rfl rfl rfl (by decide) rfl rfl rfl rfl rfl) ?_
        show aW _ _ _ _ _ _ (0, [some (.ref 67)], [], es3)
        refine pa_spec (d := d + 1) hT3 t3 hk1 (fun es4 hT4 t4 hw4 pk4 => ?_)
        show aW _ _ _ _ _ _ (115, [some (.ref 67), some (.int (zI 0)), some (.int (zI 6)), some (.int (zI l)), some (.int (zI 1))], [], es4)
        exact s_rd115 (sh_of hT4) hT4 (ih (k' + 1) (l + 1) (some (.int (zI 1))) es4 (acc ++ [x]) hal (eC_pk hE3 pk4) (by rw [pk4.1 3 3 (Or.inr (by decide))]; exact h333) (by rw [List.append_assoc]; exact hap) (by omega) (by omega) hT4 t4 (by rw [hw4]; exact hw3) hk.symm)
      · have hne : ¬ n ≤ zPs (zR R) n k' := fun g => h4 (by rw [e4]; exact hend.mpr g)
        rw [if_neg hne, if_neg (by rw [← h73, ← e5]; exact h5)] at hk
        refine x_call (vs := [.ref 67]) (rs := []) i_79_107 rfl (fun _ => rfl) rfl rfl rfl rfl rfl (pCall_v (p := 3) (sh_of hT3) rfl rfl rfl rfl rfl (by decide) rfl rfl rfl rfl rfl) ?_
        show aW _ _ _ _ _ _ (0, [some (.ref 67)], [], es3)
        refine fl_spec (d := d + 1) hT3 t3 (fun es' g1 g2 => ?_)
        show aW _ _ _ _ _ _ (110, [some (.ref 67), some (.int (zI 0)), some (.int (zI 6)), some (.int (zI l)), some (.int (zI 1))], [.int (zI 0)], es')
        exact s_rd110 (sh_of g1) rfl g1 (K0 es' g1 (by rw [hk]) (by rw [hk]; exact g2))
      · have hle2 : n ≤ zPs (zR R) n k' := hend.mp (by omega)
        rw [if_pos hle2] at hk
        rw [if_pos hle2] at hap
        exact K1 es3 hT3 (by rw [hk]; rfl) hw3 (by rw [← hap]; exact hE3) (by rw [← hap, h333, ← hal]) (by rw [← hap]; omega)
theorem rd_spec (hT : hOK tT es) (hj : jB R n es)
    (K0 : ∀ es', hOK tT es' → (zKt (zR R) n).2 = none → (gI es' 3 4).toInt = ((zKt (zR R) n).1 : Nat) → Q (.inl (some (.int (zI 0))), es', kc, ks))
    (K1 : ∀ es', hOK tT es' → (zKt (zR R) n).2.isSome = true → (gI es' 3 4).toInt = -1 → eC (zKtL (zR R) n) es' → (gI es' 3 3).toInt = ((zKtL (zR R) n).length : Int) → (zKtL (zR R) n).length ≤ 6 → Q (.inl (some (.int (zI 1))), es', kc, ks)) :
    aW O (d + 4) 79 kc ks Q (0, [some (.ref 67), some (.int (zI 0)), none, none, none], [], es) := by
  have hc := hj.2.1
  have hn := hj.2.2.2
  refine s_rd0 (sh_of hT) hT (fun es1 e1 es2 e2 es3 e3 => ?_)
  have hT1 : hOK tT es1 := by rw [e1]; exact hOK_sI hT (p := 3) (b := 2) (lo := iLO) (hi := iHI) rfl rfl (i32_rng _)
  have hT2 : hOK tT es2 := by rw [e2]; exact hOK_sI hT1 (p := 3) (b := 3) (lo := iLO) (hi := iHI) rfl rfl (i32_rng _)
  have hT3 : hOK tT es3 := by rw [e3]; exact hOK_sI hT2 (p := 3) (b := 4) (lo := iLO) (hi := iHI) rfl rfl (i32_rng _)
  have hj3 : jB R n es3 := by rw [e3, e2, e1]; exact jB_sI (jB_sI (jB_sI hj (by decide)) (by decide)) (by decide)
  have hw3 : (gI es3 3 4).toInt = -1 := by rw [e3, gI_sI (sh_of hT2) (p := 3) (b := 4) rfl (by decide)]; rfl
  refine x_call (vs := [.ref 67]) (rs := []) i_79_28 rfl (fun _ => rfl) rfl rfl rfl rfl rfl (pCall_v (p := 3) (sh_of hT3) rfl rfl rfl rfl rfl (by decide) rfl rfl rfl rfl rfl) ?_
  show aW _ _ _ _ _ _ (0, [some (.ref 67), none, none, none, none], [], es3)
  have h332 : (gI es3 3 2).toInt = 0 := by rw [e3, gI_sI_ne (Or.inr (by decide)), e2, gI_sI_ne (Or.inr (by decide)), e1, gI_sI (sh_of hT) (p := 3) (b := 2) rfl (by decide)]; rfl
  have h333 : (gI es3 3 3).toInt = 0 := by rw [e3, gI_sI_ne (Or.inr (by decide)), e2, gI_sI (sh_of hT1) (p := 3) (b := 3) rfl (by decide)]; rfl
  refine sp_spec (d := d) hT3 hj3 ⟨hw3, h332, h333⟩ (fun es4 cn hT4 t4 hw4' => ?_)
  obtain ⟨hw4, h32, h33⟩ := hw4'
  show aW _ _ _ _ _ _ (31, [some (.ref 67), some (.int (zI 0)), some (.int (zI 6)), none, none], [], es4)
  have b4 := tkS_bd hc hn t4
  have h74 := t4.2.2.2.2.2.2
  have hp0 : zPs (zR R) n 0 = zNx (zR R) n 0 := rfl
  refine s_rd31 (sh_of hT4) b4 hT4 (fun v1 e5 h1 => ?_) (fun v1 e5 h1 => ?_)
  · have hlt := tkS_lt t4 (by rw [← e5]; exact h1)
    have h3 := t4.2.2.1 0 hlt
    refine rd_loop (d := d + 1) hc hn K0 K1 6 0 0 none es4 [] rfl ⟨h32, fun i y hy => by cases hy⟩ h33 (by unfold zKtL; rw [if_neg (by omega), hp0]; rfl) (by omega) (by omega) hT4 t4 hw4 ?_
    unfold zKt
    rw [if_neg (by omega), hp0]
  · have hge : n ≤ zNx (zR R) n 0 := by
      rw [← hp0]
      rcases zCod_cases (c := zR R) (n := n) (q := zPs (zR R) n 0) (fun k hk => hc k (by omega)) with g | g | g | g <;> omega
    have e : zKt (zR R) n = (zNx (zR R) n 0, some 6) := by unfold zKt; rw [if_pos hge]
    have hl : zKtL (zR R) n = [] := by unfold zKtL; rw [if_pos hge]
    rw [hl] at K1
    exact K1 es4 hT4 (by rw [e]; rfl) hw4 ⟨h32, fun i y hy => by cases hy⟩ h33 (Nat.zero_le 6)
end
