/-! MEASURE, by the document's tokens; printed by wip/rel/meas.py -/
theorem s_xm0 {O : pOut} {d kc ks : Nat} {Q : pRes → Prop} {es : PH} (hs_es : sh es) (hT_es : hOK tT es)
    (K1 : aW O d 99 kc ks Q (5, [some (.ref 64), none], [.int (zI 1), .ref 67], es)) :
    aW O d 99 kc ks Q (0, [some (.ref 64), none], [], es) := by
  refine x0 (r := (1, [some (.ref 64), none], [.ref 64], es)) i_99_0 rfl ?_
  refine x_getr (p := 0) (k := 67) i_99_1 hs_es rfl rfl ?_
  show aW _ _ _ _ _ _ (4, [some (.ref 64), none], [.ref 67], es)
  refine x0 (r := (5, [some (.ref 64), none], [.int (zI 1), .ref 67], es)) i_99_4 (by rfl) ?_
  exact K1
theorem s_xm8 {O : pOut} {d kc ks : Nat} {Q : pRes → Prop} {es : PH} {v : Int} (hs_es : sh es) (hv : v = 0 ∨ v = 1) (hT_es : hOK tT es)
    (K1 : ∀ v1 : Int, v1 = (gI es 3 4).toInt → ∀ es2 : PH, es2 = sI es 0 8 (.int (zI v1)) → ∀ es3 : PH, es3 = sI es2 1 1 (.int (zI 0)) → v ≠ 0 → aW O (d + 1) 99 kc ks Q (27, [some (.ref 64), some (.int (zI v))], [], es3))
    (K2 : ∀ v1 : Int, v1 = (gI es 3 4).toInt → ∀ es2 : PH, es2 = sI es 0 8 (.int (zI v1)) → ∀ es3 : PH, es3 = sI es2 1 1 (.int (zI 0)) → ¬ (v ≠ 0) → Q (.inr 0, es3, kc + 1, ks + 6)) :
    aW O (d + 1) 99 kc ks Q (8, [some (.ref 64), none], [.int (zI v)], es) := by
  refine x0 (r := (9, [some (.ref 64), some (.int (zI v))], [], es)) i_99_8 rfl ?_
  refine x0 (r := (10, [some (.ref 64), some (.int (zI v))], [.ref 64], es)) i_99_9 rfl ?_
  refine x_call (vs := [.ref 64]) (rs := []) i_99_10 rfl (fun _ => rfl) rfl rfl rfl rfl rfl (pCall_v (p := 0) hs_es rfl rfl rfl rfl rfl (by decide) rfl rfl rfl rfl rfl) ?_
  show aW _ _ _ _ _ _ (0, [some (.ref 64)], [], es)
  refine x0 (r := (1, [some (.ref 64)], [.ref 64], es)) i_97_0 rfl ?_
  refine x0 (r := (2, [some (.ref 64)], [.ref 64, .ref 64], es)) i_97_1 rfl ?_
  refine x_getr (p := 0) (k := 67) i_97_2 hs_es rfl rfl ?_
  show aW _ _ _ _ _ _ (5, [some (.ref 64)], [.ref 67, .ref 64], es)
  refine x_geti (p := 3) i_97_5 hs_es rfl rfl ?_
  obtain ⟨v1, e_v1⟩ : ∃ z : Int, z = (gI es 3 4).toInt := ⟨_, rfl⟩
  rw [← e_v1]
  have r_v1 : iLO ≤ v1 ∧ v1 ≤ iHI := by rw [e_v1]; exact i32_rng _
  unfold iLO iHI at r_v1
  refine x_puti (p := 0) (ty := .int) i_97_8 hs_es rfl rfl rfl (Or.inl rfl) ?_
  obtain ⟨es2, e_es2⟩ : ∃ z : PH, z = sI es 0 8 (.int (zI v1)) := ⟨_, rfl⟩
  have hs_es2 : sh es2 := by rw [e_es2]; exact sh_sI hs_es (p := 0) (b := 8) rfl rfl
  have hT_es2 : hOK tT es2 := by rw [e_es2]; exact hOK_sI hT_es (p := 0) (b := 8) (lo := iLO) (hi := iHI) rfl rfl (i32_rng _)
  rw [← e_es2]
  refine x0 (r := (12, [some (.ref 64)], [.ref 64], es2)) i_97_11 rfl ?_
  refine x_getr (p := 0) (k := 65) i_97_12 hs_es2 rfl rfl ?_
  show aW _ _ _ _ _ _ (15, [some (.ref 64)], [.ref 65], es2)
  refine x0 (r := (16, [some (.ref 64)], [.int (zI 0), .ref 65], es2)) i_97_15 (by rfl) ?_
  refine x_puti (p := 1) (ty := .int) i_97_16 hs_es2 rfl rfl rfl (Or.inl rfl) ?_
  obtain ⟨es3, e_es3⟩ : ∃ z : PH, z = sI es2 1 1 (.int (zI 0)) := ⟨_, rfl⟩
  have hs_es3 : sh es3 := by rw [e_es3]; exact sh_sI hs_es2 (p := 1) (b := 1) rfl rfl
  have hT_es3 : hOK tT es3 := by rw [e_es3]; exact hOK_sI hT_es2 (p := 1) (b := 1) (lo := iLO) (hi := iHI) rfl rfl (i32_rng _)
  rw [← e_es3]
  refine x_ret (v := none) i_97_19 rfl (fun _ => rfl) rfl rfl rfl ?_
  show aW _ _ _ _ _ _ (13, [some (.ref 64), some (.int (zI v))], [], es3)
  refine x0 (r := (14, [some (.ref 64), some (.int (zI v))], [.int (zI v)], es3)) i_99_13 rfl ?_
  by_cases c4 : v ≠ 0
  · refine x_ifT i_99_14 (by unfold i32 iLO iHI; omega) rfl (by simp only [zC, cR]; omega) ?_
    exact K1 v1 e_v1 es2 e_es2 es3 e_es3 c4
  · refine x_ifF i_99_14 (by unfold i32 iLO iHI; omega) rfl (by simp only [zC, cR]; omega) ?_
    refine x_thr i_99_17 rfl (fun _ => rfl) rfl rfl rfl rfl ?_
    exact K2 v1 e_v1 es2 e_es2 es3 e_es3 c4
theorem s_xm27 {O : pOut} {d kc ks : Nat} {Q : pRes → Prop} {es : PH} {v : Int} (hs_es : sh es) (hT_es : hOK tT es)
    (K1 : aW O d 99 kc ks Q (35, [some (.ref 64), some (.int (zI v))], [.ref 67, .ref 71], es)) :
    aW O d 99 kc ks Q (27, [some (.ref 64), some (.int (zI v))], [], es) := by
  refine x0 (r := (28, [some (.ref 64), some (.int (zI v))], [.ref 64], es)) i_99_27 rfl ?_
  refine x_getr (p := 0) (k := 71) i_99_28 hs_es rfl rfl ?_
  show aW _ _ _ _ _ _ (31, [some (.ref 64), some (.int (zI v))], [.ref 71], es)
  refine x0 (r := (32, [some (.ref 64), some (.int (zI v))], [.ref 64, .ref 71], es)) i_99_31 rfl ?_
  refine x_getr (p := 0) (k := 67) i_99_32 hs_es rfl rfl ?_
  show aW _ _ _ _ _ _ (35, [some (.ref 64), some (.int (zI v))], [.ref 67, .ref 71], es)
  exact K1
theorem s_xm38 {O : pOut} {d kc ks : Nat} {Q : pRes → Prop} {es : PH} {v : Int} (hs_es : sh es) (hT_es : hOK tT es)
    (K1 : ∀ es1 : PH, es1 = sI es 0 10 (.int (zI 0)) → ∀ es2 : PH, es2 = sI es1 73 3 (.int (zI 0)) → ∀ v3 : Int, v3 = (gI es2 3 3).toInt → Q (.inl (some (.int (zI v3))), es2, kc, ks)) :
    aW O (d + 1) 99 kc ks Q (38, [some (.ref 64), some (.int (zI v))], [], es) := by
  refine x0 (r := (39, [some (.ref 64), some (.int (zI v))], [.ref 64], es)) i_99_38 rfl ?_
  refine x_call (vs := [.ref 64]) (rs := []) i_99_39 rfl (fun _ => rfl) rfl rfl rfl rfl rfl (pCall_v (p := 0) hs_es rfl rfl rfl rfl rfl (by decide) rfl rfl rfl rfl rfl) ?_
  show aW _ _ _ _ _ _ (0, [some (.ref 64)], [], es)
  refine x0 (r := (1, [some (.ref 64)], [.ref 64], es)) i_73_0 rfl ?_
  refine x0 (r := (2, [some (.ref 64)], [.int (zI 0), .ref 64], es)) i_73_1 (by rfl) ?_
  refine x_puti (p := 0) (ty := .boolean) i_73_2 hs_es rfl rfl rfl (Or.inr ⟨rfl, by omega⟩) ?_
  obtain ⟨es1, e_es1⟩ : ∃ z : PH, z = sI es 0 10 (.int (zI 0)) := ⟨_, rfl⟩
  have hs_es1 : sh es1 := by rw [e_es1]; exact sh_sI hs_es (p := 0) (b := 10) rfl rfl
  have hT_es1 : hOK tT es1 := by rw [e_es1]; exact hOK_sI hT_es (p := 0) (b := 10) rfl rfl (by rw [zI_toInt (by unfold i32 iLO iHI; omega)]; exact ⟨by show (0 : Int) ≤ 0; omega, by show 0 ≤ (1 : Int); omega⟩)
  rw [← e_es1]
  refine x0 (r := (6, [some (.ref 64)], [.ref 64], es1)) i_73_5 rfl ?_
  refine x_getr (p := 0) (k := 137) i_73_6 hs_es1 rfl rfl ?_
  show aW _ _ _ _ _ _ (9, [some (.ref 64)], [.ref 137], es1)
  refine x0 (r := (10, [some (.ref 64)], [.int (zI 0), .ref 137], es1)) i_73_9 (by rfl) ?_
  refine x_puti (p := 73) (ty := .boolean) i_73_10 hs_es1 rfl rfl rfl (Or.inr ⟨rfl, by omega⟩) ?_
  obtain ⟨es2, e_es2⟩ : ∃ z : PH, z = sI es1 73 3 (.int (zI 0)) := ⟨_, rfl⟩
  have hs_es2 : sh es2 := by rw [e_es2]; exact sh_sI hs_es1 (p := 73) (b := 3) rfl rfl
  have hT_es2 : hOK tT es2 := by rw [e_es2]; exact hOK_sI hT_es1 (p := 73) (b := 3) rfl rfl (by rw [zI_toInt (by unfold i32 iLO iHI; omega)]; exact ⟨by show (0 : Int) ≤ 0; omega, by show 0 ≤ (1 : Int); omega⟩)
  rw [← e_es2]
  refine x_ret (v := none) i_73_13 rfl (fun _ => rfl) rfl rfl rfl ?_
  show aW _ _ _ _ _ _ (42, [some (.ref 64), some (.int (zI v))], [], es2)
  refine x0 (r := (43, [some (.ref 64), some (.int (zI v))], [.ref 64], es2)) i_99_42 rfl ?_
  refine x_getr (p := 0) (k := 67) i_99_43 hs_es2 rfl rfl ?_
  show aW _ _ _ _ _ _ (46, [some (.ref 64), some (.int (zI v))], [.ref 67], es2)
  refine x_geti (p := 3) i_99_46 hs_es2 rfl rfl ?_
  obtain ⟨v3, e_v3⟩ : ∃ z : Int, z = (gI es2 3 3).toInt := ⟨_, rfl⟩
  rw [← e_v3]
  have r_v3 : iLO ≤ v3 ∧ v3 ≤ iHI := by rw [e_v3]; exact i32_rng _
  unfold iLO iHI at r_v3
  refine x_ret (v := some (.int (zI v3))) i_99_49 rfl (fun _ => rfl) rfl rfl rfl ?_
  exact K1 es1 e_es1 es2 e_es2 v3 e_v3
theorem s_ym0 {O : pOut} {d kc ks : Nat} {Q : pRes → Prop} {es : PH} (hs_es : sh es) (hT_es : hOK tT es)
    (K1 : aW O d 278 kc ks Q (3, [some (.ref 64), some (.ref 171), none], [.ref 64, .int (zI 0), .ref 171], es)) :
    aW O d 278 kc ks Q (0, [some (.ref 64), some (.ref 171), none], [], es) := by
  refine x0 (r := (1, [some (.ref 64), some (.ref 171), none], [.ref 171], es)) i_278_0 rfl ?_
  refine x0 (r := (2, [some (.ref 64), some (.ref 171), none], [.int (zI 0), .ref 171], es)) i_278_1 (by rfl) ?_
  refine x0 (r := (3, [some (.ref 64), some (.ref 171), none], [.ref 64, .int (zI 0), .ref 171], es)) i_278_2 rfl ?_
  exact K1
theorem s_ym6 {O : pOut} {d kc ks : Nat} {Q : pRes → Prop} {es : PH} {v : Int} (hs_es : sh es) (hT_es : hOK tT es)
    (K1 : ∀ es1 : PH, es1 = sJ es 107 (Int.toNat 0) ((zI v).toInt64) → Q (.inl (some (.int (zI 0))), es1, kc, ks)) :
    aW O d 278 kc ks Q (6, [some (.ref 64), some (.ref 171), none], [.int (zI v), .int (zI 0), .ref 171], es) := by
  refine x0 (r := (7, [some (.ref 64), some (.ref 171), none], [.long ((zI v).toInt64), .int (zI 0), .ref 171], es)) i_278_6 rfl ?_
  refine x_last (p := 107) i_278_7 hs_es rfl (by unfold i32 iLO iHI; omega) (by omega) (by omega) ?_
  obtain ⟨es1, e_es1⟩ : ∃ z : PH, z = sJ es 107 (Int.toNat 0) ((zI v).toInt64) := ⟨_, rfl⟩
  have hs_es1 : sh es1 := by rw [e_es1]; exact sh_sJ hs_es
  have hT_es1 : hOK tT es1 := by rw [e_es1]; exact hOK_sJ hT_es
  rw [← e_es1]
  refine x0 (r := (14, [some (.ref 64), some (.ref 171), none], [], es1)) i_278_8 rfl ?_
  refine x0 (r := (15, [some (.ref 64), some (.ref 171), none], [.int (zI 0)], es1)) i_278_14 (by rfl) ?_
  refine x_ret (v := some (.int (zI 0))) i_278_15 rfl (fun _ => rfl) rfl rfl rfl ?_
  exact K1 es1 e_es1
theorem s_ym12 {O : pOut} {d kc ks : Nat} {Q : pRes → Prop} {es : PH} (hs_es : sh es) (hT_es : hOK tT es)
    (K1 : Q (.inl (some (.int (zI 1))), es, kc, ks)) :
    aW O d 278 kc ks Q (12, [some (.ref 64), some (.ref 171), none], [], es) := by
  refine x0 (r := (13, [some (.ref 64), some (.ref 171), none], [.int (zI 1)], es)) i_278_12 (by rfl) ?_
  refine x_ret (v := some (.int (zI 1))) i_278_13 rfl (fun _ => rfl) rfl rfl rfl ?_
  exact K1
theorem s_gme0 {O : pOut} {d kc ks : Nat} {Q : pRes → Prop} {es : PH} (hs_es : sh es) (hT_es : hOK tT es)
    (K1 : ∀ es1 : PH, es1 = sI es 79 0 (.int (zI 0)) → aW O d 195 kc ks Q (7, [some (.ref 143), none, none], [.int (zI 0), .ref 143], es1)) :
    aW O d 195 kc ks Q (0, [some (.ref 143), none, none], [], es) := by
  refine x0 (r := (1, [some (.ref 143), none, none], [.ref 143], es)) i_195_0 rfl ?_
  refine x0 (r := (2, [some (.ref 143), none, none], [.int (zI 0), .ref 143], es)) i_195_1 (by rfl) ?_
  refine x_puti (p := 79) (ty := .int) i_195_2 hs_es rfl rfl rfl (Or.inl rfl) ?_
  obtain ⟨es1, e_es1⟩ : ∃ z : PH, z = sI es 79 0 (.int (zI 0)) := ⟨_, rfl⟩
  have hs_es1 : sh es1 := by rw [e_es1]; exact sh_sI hs_es (p := 79) (b := 0) rfl rfl
  have hT_es1 : hOK tT es1 := by rw [e_es1]; exact hOK_sI hT_es (p := 79) (b := 0) (lo := iLO) (hi := iHI) rfl rfl (i32_rng _)
  rw [← e_es1]
  refine x0 (r := (6, [some (.ref 143), none, none], [.ref 143], es1)) i_195_5 rfl ?_
  refine x0 (r := (7, [some (.ref 143), none, none], [.int (zI 0), .ref 143], es1)) i_195_6 (by rfl) ?_
  exact K1 es1 e_es1
theorem s_gme10 {O : pOut} {d kc ks : Nat} {Q : pRes → Prop} {es : PH} {v : Int} (hs_es : sh es) (hv : -1 ≤ v ∧ v ≤ 10) (hT_es : hOK tT es)
    (K1 : 0 ≤ v → ∀ es2 : PH, es2 = sI es 79 10 (.int (zI (-1))) → ∀ es3 : PH, es3 = sA es2 80 (Int.toNat 1284) (zI v) → aW O (d + 1) 195 kc ks Q (57, [some (.ref 143), some (.int (zI v)), some (.int (zI 0))], [], es3))
    (K2 : ¬ (0 ≤ v) → ∀ v4 : Int, v4 = (gI es 79 8).toInt → ∀ es5 : PH, es5 = sI es 79 10 (.int (zI v4)) → ∀ es6 : PH, es6 = sI es5 79 0 (.int (zI 1)) → Q (.inl (some (.int (zI 0))), es6, kc, ks)) :
    aW O (d + 1) 195 kc ks Q (10, [some (.ref 143), none, none], [.int (zI v)], es) := by
  refine x0 (r := (11, [some (.ref 143), some (.int (zI v)), none], [], es)) i_195_10 rfl ?_
  refine x0 (r := (12, [some (.ref 143), some (.int (zI v)), none], [.ref 143], es)) i_195_11 rfl ?_
  refine x0 (r := (13, [some (.ref 143), some (.int (zI v)), none], [.int (zI v), .ref 143], es)) i_195_12 rfl ?_
  by_cases c1 : 0 ≤ v
  · refine x_ifT i_195_13 (by unfold i32 iLO iHI; omega) rfl (by simp only [zC, cR]; omega) ?_
    refine x0 (r := (24, [some (.ref 143), some (.int (zI v)), none], [.int (zI (-1)), .ref 143], es)) i_195_23 (by rfl) ?_
    refine x_puti (p := 79) (ty := .int) i_195_24 hs_es rfl rfl rfl (Or.inl rfl) ?_
    obtain ⟨es2, e_es2⟩ : ∃ z : PH, z = sI es 79 10 (.int (zI (-1))) := ⟨_, rfl⟩
    have hs_es2 : sh es2 := by rw [e_es2]; exact sh_sI hs_es (p := 79) (b := 10) rfl rfl
    have hT_es2 : hOK tT es2 := by rw [e_es2]; exact hOK_sI hT_es (p := 79) (b := 10) (lo := iLO) (hi := iHI) rfl rfl (i32_rng _)
    rw [← e_es2]
    refine x0 (r := (28, [some (.ref 143), some (.int (zI v)), none], [.ref 143], es2)) i_195_27 rfl ?_
    refine x0 (r := (29, [some (.ref 143), some (.int (zI v)), none], [.int (zI v), .ref 143], es2)) i_195_28 rfl ?_
    refine x_ifT i_195_29 (by unfold i32 iLO iHI; omega) rfl (by simp only [zC, cR]; omega) ?_
    refine x0 (r := (37, [some (.ref 143), some (.int (zI v)), none], [.int (zI 0), .ref 143], es2)) i_195_36 (by rfl) ?_
    refine x0 (r := (38, [some (.ref 143), some (.int (zI v)), none], [.int (zI 1), .int (zI 0), .ref 143], es2)) i_195_37 (by rfl) ?_
    refine x_call (vs := [.ref 143, .int (zI 0), .int (zI 1)]) (rs := []) i_195_38 rfl (fun _ => rfl) rfl rfl rfl rfl rfl (pCall_v (p := 79) hs_es2 rfl rfl rfl rfl rfl (by decide) rfl rfl rfl rfl rfl) ?_
    show aW _ _ _ _ _ _ (0, [some (.ref 143), some (.int (zI 0)), some (.int (zI 1))], [], es2)
    refine x0 (r := (1, [some (.ref 143), some (.int (zI 0)), some (.int (zI 1))], [.int (zI 0)], es2)) i_194_0 rfl ?_
    refine x_ifT i_194_1 (by unfold i32 iLO iHI; omega) rfl (by simp only [zC, cR]; omega) ?_
    refine x0 (r := (10, [some (.ref 143), some (.int (zI 0)), some (.int (zI 1))], [.int (zI 0)], es2)) i_194_9 rfl ?_
    refine x_ret (v := some (.int (zI 0))) i_194_10 rfl (fun _ => rfl) rfl rfl (pFin_b (by omega)) ?_
    show aW _ _ _ _ _ _ (41, [some (.ref 143), some (.int (zI v)), none], [.int (zI 0)], es2)
    refine x_ifT i_195_41 (by unfold i32 iLO iHI; omega) rfl (by simp only [zC, cR]; omega) ?_
    refine x0 (r := (47, [some (.ref 143), some (.int (zI v)), none], [.ref 143], es2)) i_195_46 rfl ?_
    refine x_getr (p := 79) (k := 144) i_195_47 hs_es2 rfl rfl ?_
    show aW _ _ _ _ _ _ (50, [some (.ref 143), some (.int (zI v)), none], [.ref 144], es2)
    refine x0 (r := (53, [some (.ref 143), some (.int (zI v)), none], [.int (zI 1284), .ref 144], es2)) i_195_50 (by rfl) ?_
    refine x0 (r := (54, [some (.ref 143), some (.int (zI v)), none], [.int (zI v), .int (zI 1284), .ref 144], es2)) i_195_53 rfl ?_
    refine x_iast (p := 80) i_195_54 hs_es2 rfl (by unfold i32 iLO iHI; omega) (by omega) (by omega) ?_
    obtain ⟨es3, e_es3⟩ : ∃ z : PH, z = sA es2 80 (Int.toNat 1284) (zI v) := ⟨_, rfl⟩
    have hs_es3 : sh es3 := by rw [e_es3]; exact sh_sA hs_es2
    have hT_es3 : hOK tT es3 := by rw [e_es3]; exact hOK_sA hT_es2 (p := 80) (n := 2125) rfl (fun _ => by rw [zI_toInt (by unfold i32 iLO iHI; omega)]; exact ⟨by show (0 : Int) ≤ v; omega, by show v ≤ (10 : Int); omega⟩)
    rw [← e_es3]
    refine x0 (r := (56, [some (.ref 143), some (.int (zI v)), none], [.int (zI 0)], es3)) i_195_55 (by rfl) ?_
    refine x0 (r := (57, [some (.ref 143), some (.int (zI v)), some (.int (zI 0))], [], es3)) i_195_56 rfl ?_
    exact K1 c1 es2 e_es2 es3 e_es3
  · refine x_ifF i_195_13 (by unfold i32 iLO iHI; omega) rfl (by simp only [zC, cR]; omega) ?_
    refine x0 (r := (17, [some (.ref 143), some (.int (zI v)), none], [.ref 143, .ref 143], es)) i_195_16 rfl ?_
    refine x_geti (p := 79) i_195_17 hs_es rfl rfl ?_
    obtain ⟨v4, e_v4⟩ : ∃ z : Int, z = (gI es 79 8).toInt := ⟨_, rfl⟩
    rw [← e_v4]
    have r_v4 : iLO ≤ v4 ∧ v4 ≤ iHI := by rw [e_v4]; exact i32_rng _
    unfold iLO iHI at r_v4
    have b_v4 : (0 : Int) ≤ v4 ∧ v4 ≤ (400 : Int) := by rw [e_v4]; exact gI_bd hT_es (p := 79) (b := 8) rfl rfl
    refine x0 (r := (24, [some (.ref 143), some (.int (zI v)), none], [.int (zI v4), .ref 143], es)) i_195_20 rfl ?_
    refine x_puti (p := 79) (ty := .int) i_195_24 hs_es rfl rfl rfl (Or.inl rfl) ?_
    obtain ⟨es5, e_es5⟩ : ∃ z : PH, z = sI es 79 10 (.int (zI v4)) := ⟨_, rfl⟩
    have hs_es5 : sh es5 := by rw [e_es5]; exact sh_sI hs_es (p := 79) (b := 10) rfl rfl
    have hT_es5 : hOK tT es5 := by rw [e_es5]; exact hOK_sI hT_es (p := 79) (b := 10) (lo := iLO) (hi := iHI) rfl rfl (i32_rng _)
    rw [← e_es5]
    refine x0 (r := (28, [some (.ref 143), some (.int (zI v)), none], [.ref 143], es5)) i_195_27 rfl ?_
    refine x0 (r := (29, [some (.ref 143), some (.int (zI v)), none], [.int (zI v), .ref 143], es5)) i_195_28 rfl ?_
    refine x_ifF i_195_29 (by unfold i32 iLO iHI; omega) rfl (by simp only [zC, cR]; omega) ?_
    refine x0 (r := (33, [some (.ref 143), some (.int (zI v)), none], [.int (zI 1), .ref 143], es5)) i_195_32 (by rfl) ?_
    refine x0 (r := (37, [some (.ref 143), some (.int (zI v)), none], [.int (zI 1), .ref 143], es5)) i_195_33 rfl ?_
    refine x0 (r := (38, [some (.ref 143), some (.int (zI v)), none], [.int (zI 1), .int (zI 1), .ref 143], es5)) i_195_37 (by rfl) ?_
    refine x_call (vs := [.ref 143, .int (zI 1), .int (zI 1)]) (rs := []) i_195_38 rfl (fun _ => rfl) rfl rfl rfl rfl rfl (pCall_v (p := 79) hs_es5 rfl rfl rfl rfl rfl (by decide) rfl rfl rfl rfl rfl) ?_
    show aW _ _ _ _ _ _ (0, [some (.ref 143), some (.int (zI 1)), some (.int (zI 1))], [], es5)
    refine x0 (r := (1, [some (.ref 143), some (.int (zI 1)), some (.int (zI 1))], [.int (zI 1)], es5)) i_194_0 rfl ?_
    refine x_ifF i_194_1 (by unfold i32 iLO iHI; omega) rfl (by simp only [zC, cR]; omega) ?_
    refine x0 (r := (5, [some (.ref 143), some (.int (zI 1)), some (.int (zI 1))], [.ref 143], es5)) i_194_4 rfl ?_
    refine x0 (r := (6, [some (.ref 143), some (.int (zI 1)), some (.int (zI 1))], [.int (zI 1), .ref 143], es5)) i_194_5 rfl ?_
    refine x_puti (p := 79) (ty := .int) i_194_6 hs_es5 rfl rfl rfl (Or.inl rfl) ?_
    obtain ⟨es6, e_es6⟩ : ∃ z : PH, z = sI es5 79 0 (.int (zI 1)) := ⟨_, rfl⟩
    have hs_es6 : sh es6 := by rw [e_es6]; exact sh_sI hs_es5 (p := 79) (b := 0) rfl rfl
    have hT_es6 : hOK tT es6 := by rw [e_es6]; exact hOK_sI hT_es5 (p := 79) (b := 0) (lo := iLO) (hi := iHI) rfl rfl (i32_rng _)
    rw [← e_es6]
    refine x0 (r := (10, [some (.ref 143), some (.int (zI 1)), some (.int (zI 1))], [.int (zI 1)], es6)) i_194_9 rfl ?_
    refine x_ret (v := some (.int (zI 1))) i_194_10 rfl (fun _ => rfl) rfl rfl (pFin_b (by omega)) ?_
    show aW _ _ _ _ _ _ (41, [some (.ref 143), some (.int (zI v)), none], [.int (zI 1)], es6)
    refine x_ifF i_195_41 (by unfold i32 iLO iHI; omega) rfl (by simp only [zC, cR]; omega) ?_
    refine x0 (r := (45, [some (.ref 143), some (.int (zI v)), none], [.int (zI 0)], es6)) i_195_44 (by rfl) ?_
    refine x_ret (v := some (.int (zI 0))) i_195_45 rfl (fun _ => rfl) rfl rfl rfl ?_
    exact K2 c1 v4 e_v4 es5 e_es5 es6 e_es6
theorem s_gme57 {O : pOut} {d kc ks : Nat} {Q : pRes → Prop} {es : PH} {v k : Int} (hs_es : sh es) (hk : 0 ≤ k ∧ k ≤ 841)
    (K1 : 841 ≤ k → ∀ es2 : PH, es2 = sA es 80 (Int.toNat 4) (zI 1) → Q (.inl (some (.int (zI v))), es2, kc, ks))
    (K2 : ¬ (841 ≤ k) → ∀ v3 : Int, v3 = (gA es 80 (1284 + k).toNat).toInt → ∀ es4 : PH, es4 = sA es 80 (443 + k).toNat (zI v3) → aW O d 195 kc ks Q (57, [some (.ref 143), some (.int (zI v)), some (.int (zI (k + 1)))], [], es4)) :
    aW O d 195 kc ks Q (57, [some (.ref 143), some (.int (zI v)), some (.int (zI k))], [], es) := by
  refine x0 (r := (58, [some (.ref 143), some (.int (zI v)), some (.int (zI k))], [.int (zI k)], es)) i_195_57 rfl ?_
  refine x0 (r := (61, [some (.ref 143), some (.int (zI v)), some (.int (zI k))], [.int (zI 841), .int (zI k)], es)) i_195_58 (by rfl) ?_
  by_cases c1 : 841 ≤ k
  · refine x_cmpT i_195_61 (by unfold i32 iLO iHI; omega) (by unfold i32 iLO iHI; omega) rfl (by simp only [zC, cR]; omega) ?_
    refine x0 (r := (91, [some (.ref 143), some (.int (zI v)), some (.int (zI k))], [.ref 143], es)) i_195_90 rfl ?_
    refine x_getr (p := 79) (k := 144) i_195_91 hs_es rfl rfl ?_
    show aW _ _ _ _ _ _ (94, [some (.ref 143), some (.int (zI v)), some (.int (zI k))], [.ref 144], es)
    refine x0 (r := (95, [some (.ref 143), some (.int (zI v)), some (.int (zI k))], [.int (zI 4), .ref 144], es)) i_195_94 (by rfl) ?_
    refine x0 (r := (96, [some (.ref 143), some (.int (zI v)), some (.int (zI k))], [.int (zI 1), .int (zI 4), .ref 144], es)) i_195_95 (by rfl) ?_
    refine x_iast (p := 80) i_195_96 hs_es rfl (by unfold i32 iLO iHI; omega) (by omega) (by omega) ?_
    obtain ⟨es2, e_es2⟩ : ∃ z : PH, z = sA es 80 (Int.toNat 4) (zI 1) := ⟨_, rfl⟩
    have hs_es2 : sh es2 := by rw [e_es2]; exact sh_sA hs_es
    rw [← e_es2]
    refine x0 (r := (98, [some (.ref 143), some (.int (zI v)), some (.int (zI k))], [.int (zI v)], es2)) i_195_97 rfl ?_
    refine x_ret (v := some (.int (zI v))) i_195_98 rfl (fun _ => rfl) rfl rfl rfl ?_
    exact K1 c1 es2 e_es2
  · refine x_cmpF i_195_61 (by unfold i32 iLO iHI; omega) (by unfold i32 iLO iHI; omega) rfl (by simp only [zC, cR]; omega) ?_
    refine x0 (r := (65, [some (.ref 143), some (.int (zI v)), some (.int (zI k))], [.ref 143], es)) i_195_64 rfl ?_
    refine x_getr (p := 79) (k := 144) i_195_65 hs_es rfl rfl ?_
    show aW _ _ _ _ _ _ (68, [some (.ref 143), some (.int (zI v)), some (.int (zI k))], [.ref 144], es)
    refine x0 (r := (71, [some (.ref 143), some (.int (zI v)), some (.int (zI k))], [.int (zI 443), .ref 144], es)) i_195_68 (by rfl) ?_
    refine x0 (r := (72, [some (.ref 143), some (.int (zI v)), some (.int (zI k))], [.int (zI k), .int (zI 443), .ref 144], es)) i_195_71 rfl ?_
    refine x_iadd i_195_72 ?_
    refine x0 (r := (74, [some (.ref 143), some (.int (zI v)), some (.int (zI k))], [.ref 143, .int (zI (443 + k)), .ref 144], es)) i_195_73 rfl ?_
    refine x_getr (p := 79) (k := 144) i_195_74 hs_es rfl rfl ?_
    show aW _ _ _ _ _ _ (77, [some (.ref 143), some (.int (zI v)), some (.int (zI k))], [.ref 144, .int (zI (443 + k)), .ref 144], es)
    refine x0 (r := (80, [some (.ref 143), some (.int (zI v)), some (.int (zI k))], [.int (zI 1284), .ref 144, .int (zI (443 + k)), .ref 144], es)) i_195_77 (by rfl) ?_
    refine x0 (r := (81, [some (.ref 143), some (.int (zI v)), some (.int (zI k))], [.int (zI k), .int (zI 1284), .ref 144, .int (zI (443 + k)), .ref 144], es)) i_195_80 rfl ?_
    refine x_iadd i_195_81 ?_
    refine x_iald (p := 80) i_195_82 hs_es rfl (by unfold i32 iLO iHI; omega) (by omega) (by omega) ?_
    obtain ⟨v3, e_v3⟩ : ∃ z : Int, z = (gA es 80 (1284 + k).toNat).toInt := ⟨_, rfl⟩
    rw [← e_v3]
    have r_v3 : iLO ≤ v3 ∧ v3 ≤ iHI := by rw [e_v3]; exact i32_rng _
    unfold iLO iHI at r_v3
    refine x_iast (p := 80) i_195_83 hs_es rfl (by unfold i32 iLO iHI; omega) (by omega) (by omega) ?_
    obtain ⟨es4, e_es4⟩ : ∃ z : PH, z = sA es 80 (443 + k).toNat (zI v3) := ⟨_, rfl⟩
    have hs_es4 : sh es4 := by rw [e_es4]; exact sh_sA hs_es
    rw [← e_es4]
    refine x_iinc (x := k) i_195_84 rfl (by show 2 < 3; decide) ?_
    show aW _ _ _ _ _ _ (87, [some (.ref 143), some (.int (zI v)), some (.int (zI (k + 1)))], [], es4)
    refine x0 (r := (57, [some (.ref 143), some (.int (zI v)), some (.int (zI (k + 1)))], [], es4)) i_195_87 rfl ?_
    exact K2 c1 v3 e_v3 es4 e_es4
section
variable {d : Nat} {es : PH} {R : Nat → Int32} {n : Nat} {xs : Nat → Int32} {N : Nat}
theorem fr_setM (hN : N ≤ 3584) (hd : 2 ≤ d) (hT : hOK tT es) : aW (pO0 xs N) d 100 0 0 (fun o => o.1 = .inl none ∧ hOK tT o.2.1 ∧ fr kc_51.2.2.2.2.2.1 es o.2.1) (0, [some (.ref 71), some (.ref 67)], [], es) := by
  have h := cp_of (c := kc_51) (ρ := []) (vs := [.ref 71, .ref 67]) (d := d) (I := fun _ => True) (es := es) (kv_51 (aWd_T (xs := xs) hN)) rfl hd gE_nil' rfl (gS_consr (gS_consr gS_nil')) hT trivial rfl
  refine aW_mono (Nat.le_refl _) (fun o ho => ?_) h
  obtain ⟨h1, -, h3, out, ho, τ, -, -, -, -, -, hr⟩ := ho
  rcases List.mem_cons.mp ho with rfl | ho
  · exact ⟨hr, h1, h3⟩
  · cases ho
/-- measure of the class -/
def xmP (F : Nat) (R : Nat → Int32) (n : Nat) (r : Option Value ⊕ Nat) (es1 : PH) : Prop := hOK tT es1 ∧ (gI es1 1 1).toInt = 0 ∧ ((r = .inr 0 ∧ (zMt (zR R) n F).2 = none ∧ (gI es1 0 8).toInt = ((zMt (zR R) n F).1 : Nat)) ∨ ∃ j : Nat, r = .inl (some (.int (zI (10 - (j : Int))))) ∧ (zMt (zR R) n F).2 = some j ∧ (gI es1 0 8).toInt = -1)
theorem fn_xmeasure {F : Nat} (hN : N ≤ 3584) (hF : 400 ≤ F) (hT : hOK tT es) (hj : jB R n es) : aW (pO0 xs N) (d + 25) 99 0 0 (fun o => xmP F R n o.1 o.2.1) (0, [some (.ref 64), none], [], es) := by
  have z0 : (zI 0).toInt = 0 := rfl
  refine s_xm0 (sh_of hT) hT ?_
  refine x_call (vs := [.ref 67, .int (zI 1)]) (rs := []) i_99_5 rfl (fun _ => rfl) rfl rfl rfl rfl rfl (pCall_v (p := 3) (sh_of hT) rfl rfl rfl rfl rfl (by decide) rfl rfl rfl rfl rfl) ?_
  show aW _ _ _ _ _ _ (0, [some (.ref 67), some (.int (zI 1)), none, none, none], [], es)
  refine aW_sh (mrd_fn (d := d) (F := F) hN hF hT hj) (fun r es1 c1 k1 hp => ?_)
  obtain ⟨hT1, hp1⟩ : mrdP F R n r es1 := hp
  have hx8 : ∀ {es2 es3 : PH} {v1 : Int}, v1 = (gI es1 3 4).toInt → es2 = sI es1 0 8 (.int (zI v1)) → es3 = sI es2 1 1 (.int (zI 0)) → hOK tT es3 ∧ (gI es3 1 1).toInt = 0 ∧ (gI es3 0 8).toInt = (gI es1 3 4).toInt ∧ gI es3 3 3 = gI es1 3 3 := by
    intro es2 es3 v1 e1 e2 e3
    have hT2 : hOK tT es2 := by rw [e2]; exact hOK_sI hT1 (p := 0) (b := 8) (lo := iLO) (hi := iHI) rfl rfl (i32_rng _)
    refine ⟨by rw [e3]; exact hOK_sI hT2 (p := 1) (b := 1) (lo := iLO) (hi := iHI) rfl rfl (i32_rng _), ?_, ?_, ?_⟩
    · rw [e3, gI_sI (sh_of hT2) (p := 1) (b := 1) rfl (by decide)]; exact z0
    · rw [e3, gI_sI_ne (Or.inl (by decide)), e2, gI_sI (sh_of hT1) (p := 0) (b := 8) rfl (by decide), e1]
      exact zI_toInt (i32_rng _)
    · rw [e3, gI_sI_ne (Or.inl (by decide)), e2, gI_sI_ne (Or.inl (by decide))]
  rcases hp1 with ⟨rfl, g1, g2⟩ | ⟨rfl, j, g1, g2, g3⟩
  · refine aK_inl ?_
    show aW _ _ _ _ _ _ (8, [some (.ref 64), none], [.int (zI 0)], es1)
    refine s_xm8 (d := d + 24) (sh_of hT1) (Or.inl rfl) hT1 (fun v1 e1 es2 e2 es3 e3 h1 => absurd rfl h1) (fun v1 e1 es2 e2 es3 e3 h1 => ?_)
    obtain ⟨a1, a2, a3, a4⟩ := hx8 e1 e2 e3
    exact ⟨a1, a2, Or.inl ⟨rfl, g1, by show (gI es3 0 8).toInt = _; rw [a3]; exact g2⟩⟩
  · refine aK_inl ?_
    show aW _ _ _ _ _ _ (8, [some (.ref 64), none], [.int (zI 1)], es1)
    refine s_xm8 (d := d + 24) (sh_of hT1) (Or.inr rfl) hT1 (fun v1 e1 es2 e2 es3 e3 h1 => ?_) (fun v1 e1 es2 e2 es3 e3 h1 => absurd (show (1 : Int) ≠ 0 by omega) h1)
    obtain ⟨a1, a2, a3, a4⟩ := hx8 e1 e2 e3
    refine s_xm27 (sh_of a1) a1 ?_
    refine x_call (vs := [.ref 71, .ref 67]) (rs := []) i_99_35 rfl (fun _ => rfl) rfl rfl rfl rfl rfl (pCall_v (p := 7) (sh_of a1) rfl rfl rfl rfl rfl (by decide) rfl rfl rfl rfl rfl) ?_
    show aW _ _ _ _ _ _ (0, [some (.ref 71), some (.ref 67)], [], es3)
    refine aW_sh (fr_setM (d := d + 24) hN (by omega) a1) (fun r es4 c4 k4 hp => ?_)
    obtain ⟨rfl, hT4, hf4⟩ : r = .inl none ∧ hOK tT es4 ∧ fr kc_51.2.2.2.2.2.1 es3 es4 := hp
    refine aK_nil ?_
    show aW _ _ _ _ _ _ (38, [some (.ref 64), some (.int (zI 1))], [], es4)
    refine s_xm38 (d := d + 24) (sh_of hT4) hT4 (fun es5 e5 es6 e6 v7 e7 => ?_)
    have hT5 : hOK tT es5 := by rw [e5]; exact hOK_sI hT4 (p := 0) (b := 10) rfl rfl (by rw [z0]; decide)
    have hT6 : hOK tT es6 := by rw [e6]; exact hOK_sI hT5 (p := 73) (b := 3) rfl rfl (by rw [z0]; decide)
    have k1 : gI es6 1 1 = gI es3 1 1 := by rw [e6, gI_sI_ne (Or.inl (by decide)), e5, gI_sI_ne (Or.inl (by decide)), keepI hf4 (sh_of a1) (p := 1) (b := 1) rfl (by decide)]
    have k8 : gI es6 0 8 = gI es3 0 8 := by rw [e6, gI_sI_ne (Or.inl (by decide)), e5, gI_sI_ne (Or.inr (by decide)), keepI hf4 (sh_of a1) (p := 0) (b := 8) rfl (by decide)]
    have k3 : gI es6 3 3 = gI es3 3 3 := by rw [e6, gI_sI_ne (Or.inl (by decide)), e5, gI_sI_ne (Or.inl (by decide)), keepI hf4 (sh_of a1) (p := 3) (b := 3) rfl (by decide)]
    have hv : v7 = 10 - (j : Int) := by rw [e7, k3, a4]; exact g3
    rw [hv]
    exact ⟨hT6, by show (gI es6 1 1).toInt = 0; rw [k1]; exact a2, Or.inr ⟨j, rfl, g1, by show (gI es6 0 8).toInt = _; rw [k8, a3]; exact g2⟩⟩
/-- the law's call of measure -/
def ymP (F : Nat) (R : Nat → Int32) (n : Nat) (r : Option Value ⊕ Nat) (es1 : PH) : Prop := sh es1 ∧ (gI es1 1 1).toInt = 0 ∧ ∃ k : Int, r = .inl (some (.int (zI k))) ∧ ((k = 1 ∧ (zMt (zR R) n F).2 = none ∧ (gI es1 0 8).toInt = ((zMt (zR R) n F).1 : Nat)) ∨ (k = 0 ∧ ∃ j : Nat, (zMt (zR R) n F).2 = some j ∧ (gI es1 0 8).toInt = -1 ∧ (gJ es1 107 (Int.toNat 0)).toInt = 10 - (j : Int)))
theorem fn_ymeasure {F : Nat} (hN : N ≤ 3584) (hF : 400 ≤ F) (hT : hOK tT es) (hj : jB R n es) (hjj : ∀ j : Nat, (zMt (zR R) n F).2 = some j → j ≤ 10) : aW (pO0 xs N) (d + 26) 278 0 0 (fun o => ymP F R n o.1 o.2.1) (0, [some (.ref 64), some (.ref 171), none], [], es) := by
  refine s_ym0 (sh_of hT) hT ?_
  refine x_call (vs := [.ref 64]) (rs := [.int (zI 0), .ref 171]) i_278_3 rfl (fun _ => rfl) rfl rfl rfl rfl rfl (pCall_v (p := 0) (sh_of hT) rfl rfl rfl rfl rfl (by decide) rfl rfl rfl rfl rfl) ?_
  show aW _ _ _ _ _ _ (0, [some (.ref 64), none], [], es)
  refine aW_mono (Nat.le_refl _) (fun o ho => ?_) (fn_xmeasure (d := d) (xs := xs) (F := F) hN hF hT hj)
  obtain ⟨r, es', kc', ks'⟩ := o
  obtain ⟨hT', h11, h⟩ : xmP F R n r es' := ho
  rcases h with ⟨rfl, h1, h2⟩ | ⟨j, rfl, h1, h2⟩
  · refine ⟨_, _, _, _, rfl, rfl, rfl, ?_⟩
    show aW _ _ _ _ _ _ (12, [some (.ref 64), some (.ref 171), none], [], es')
    exact s_ym12 (sh_of hT') hT' ⟨sh_of hT', h11, 1, rfl, Or.inl ⟨rfl, h1, h2⟩⟩
  · have hj10 := hjj j h1
    refine aK_inl ?_
    show aW _ _ _ _ _ _ (6, [some (.ref 64), some (.ref 171), none], [.int (zI (10 - (j : Int))), .int (zI 0), .ref 171], es')
    refine s_ym6 (sh_of hT') hT' (fun es1 e_es1 => ?_)
    have g1 : gI es1 1 1 = gI es' 1 1 := by rw [e_es1, gI_sJ]
    have g2 : gI es1 0 8 = gI es' 0 8 := by rw [e_es1, gI_sJ]
    have g3 : (gJ es1 107 (Int.toNat 0)).toInt = 10 - (j : Int) := by
      rw [e_es1, gJ_sJ (sh_of hT') (p := 107) (n := 1) rfl]
      unfold vp_updL
      rw [if_pos rfl, i2l_int (by unfold i32 iLO iHI; omega)]
    exact ⟨by show sh es1; rw [e_es1]; exact sh_sJ (sh_of hT'), by show (gI es1 1 1).toInt = 0; rw [g1]; exact h11, 0, rfl, Or.inr ⟨rfl, j, h1, by show (gI es1 0 8).toInt = _; rw [g2]; exact h2, g3⟩⟩
/-- measure of the reference -/
def mmeP (F : Nat) (R : Nat → Int32) (n : Nat) (r : Option Value ⊕ Nat) (es1 : PH) : Prop := ∃ v : Int, r = .inl (some (.int (zI v))) ∧ i32 v ∧ (((gI es1 79 0).toInt = 1 ∧ (zMt (zR R) n F).2 = none ∧ (gI es1 79 10).toInt = ((zMt (zR R) n F).1 : Nat)) ∨ ((gI es1 79 0).toInt = 0 ∧ ∃ j : Nat, (zMt (zR R) n F).2 = some j ∧ j ≤ 10 ∧ v = 10 - (j : Int) ∧ (gI es1 79 10).toInt = -1))
theorem mme_loop {O : pOut} {kc ks : Nat} {Q : pRes → Prop} {v t w : Int} (K : ∀ es', (gI es' 79 0).toInt = t → (gI es' 79 10).toInt = w → Q (.inl (some (.int (zI v))), es', kc, ks)) : ∀ (M : Nat) (k : Int) (es1 : PH), 841 - k < (M : Int) → 0 ≤ k → k ≤ 841 → sh es1 → (gI es1 79 0).toInt = t → (gI es1 79 10).toInt = w → aW O d 195 kc ks Q (57, [some (.ref 143), some (.int (zI v)), some (.int (zI k))], [], es1) := by
  intro M
  induction M with
  | zero => intro k es1 h; omega
  | succ M ih =>
    intro k es1 hM h0 h1 hs ht hw
    refine s_gme57 hs ⟨h0, h1⟩ (fun c1 es2 e2 => K es2 (by rw [e2, gI_sA]; exact ht) (by rw [e2, gI_sA]; exact hw)) (fun c1 v3 e3 es4 e4 => ?_)
    exact ih (k + 1) es4 (by omega) (by omega) (by omega) (by rw [e4]; exact sh_sA hs) (by rw [e4, gI_sA]; exact ht) (by rw [e4, gI_sA]; exact hw)
theorem ma_fn {O : pOut} {F : Nat} (hFn : n ≤ F) (hs : sh es) (hT : hOK tT es) (hR : gA es 82 = R) (hn : (gI es 79 5).toInt = (n : Int)) : aW O (d + 28) 175 0 0 (fun o => ∃ v, o.1 = .inl (some (.int (zI v))) ∧ maG F R n o.2.1 v) (0, [some (.ref 143), some (.int (zI 0)), none], [], es) := maG_spec (d := d) hFn hs hT hR hn (fun es' v h => ⟨v, rfl, h⟩)
theorem fr_ra0 (hN : N ≤ 3584) (hT : hOK tT es) : aW (pO0 xs N) (d + 28) 175 0 0 (fun o => fr frRa es o.2.1) (0, [some (.ref 143), some (.int (zI 0)), none], [], es) := ral_spec (d := d) (words_ok (aWd_T (xs := xs) hN)) hT (fun es' v h => h.2.1)
theorem fn_mmeasure {F : Nat} (hN : N ≤ 3584) (hFn : n ≤ F) (hT : hOK tT es) (hR : gA es 82 = R) (hn : (gI es 79 5).toInt = (n : Int)) : aW (pO0 xs N) (d + 29) 195 0 0 (fun o => mmeP F R n o.1 o.2.1) (0, [some (.ref 143), none, none], [], es) := by
  have z0 : (zI 0).toInt = 0 := rfl
  have z1 : (zI 1).toInt = 1 := rfl
  refine s_gme0 (sh_of hT) hT (fun es1 e1 => ?_)
  have hT1 : hOK tT es1 := by rw [e1]; exact hOK_sI hT (p := 79) (b := 0) (lo := iLO) (hi := iHI) rfl rfl (i32_rng _)
  have h10 : (gI es1 79 0).toInt = 0 := by rw [e1, gI_sI (sh_of hT) (p := 79) (b := 0) rfl (by decide)]; exact z0
  refine x_call (vs := [.ref 143, .int (zI 0)]) (rs := []) i_195_7 rfl (fun _ => rfl) rfl rfl rfl rfl rfl (pCall_v (p := 79) (sh_of hT1) rfl rfl rfl rfl rfl (by decide) rfl rfl rfl rfl rfl) ?_
  show aW _ _ _ _ _ _ (0, [some (.ref 143), some (.int (zI 0)), none], [], es1)
  refine aW_sh (aW_and (fr_ra0 (xs := xs) (d := d) hN hT1) (ma_fn (d := d) (F := F) (R := R) (n := n) hFn (sh_of hT1) hT1 (by rw [e1, gA_sI]; exact hR) (by rw [e1, gI_sI_ne (Or.inr (by decide))]; exact hn))) (fun r es2 c1 k1 hp => ?_)
  obtain ⟨hf2, v, rfl, hT2, g1, g2⟩ : fr frRa es1 es2 ∧ ∃ v, r = .inl (some (.int (zI v))) ∧ maG F R n es2 v := hp
  refine aK_inl ?_
  show aW _ _ _ _ _ _ (10, [some (.ref 143), none, none], [.int (zI v)], es2)
  have h20 : (gI es2 79 0).toInt = 0 := by
    rw [keepI hf2 (sh_of hT1) (p := 79) (b := 0) rfl (by decide)]
    exact h10
  cases hk : (zMt (zR R) n F).2 with
  | none =>
    obtain ⟨hv, hb⟩ := g1 hk
    refine s_gme10 (d := d + 28) (sh_of hT2) ⟨by omega, by omega⟩ hT2 (fun h1 es3 e3 es4 e4 => by omega) (fun h1 v4 e4 es5 e5 es6 e6 => ?_)
    have hT5 : hOK tT es5 := by rw [e5]; exact hOK_sI hT2 (p := 79) (b := 10) (lo := iLO) (hi := iHI) rfl rfl (i32_rng _)
    refine ⟨0, rfl, by unfold i32 iLO iHI; omega, Or.inl ⟨?_, hk, ?_⟩⟩
    · show (gI es6 79 0).toInt = 1
      rw [e6, gI_sI (sh_of hT5) (p := 79) (b := 0) rfl (by decide)]
      exact z1
    · show (gI es6 79 10).toInt = _
      rw [e6, gI_sI_ne (Or.inr (by decide)), e5, gI_sI (sh_of hT2) (p := 79) (b := 10) rfl (by decide), e4, zI_toInt (i32_rng _)]
      exact hb
  | some j =>
    obtain ⟨hv, hj⟩ := g2 j hk
    refine s_gme10 (d := d + 28) (sh_of hT2) ⟨by omega, by omega⟩ hT2 (fun h1 es3 e3 es4 e4 => ?_) (fun h1 v4 e4 es5 e5 es6 e6 => by omega)
    have hs3 : sh es3 := by rw [e3]; exact sh_sI (sh_of hT2) (p := 79) (b := 10) rfl rfl
    refine mme_loop (t := 0) (w := -1) (fun es' a1 a2 => ⟨v, rfl, by unfold i32 iLO iHI; omega, Or.inr ⟨a1, j, hk, hj, hv, a2⟩⟩) 842 0 es4 (by omega) (by omega) (by omega) (by rw [e4]; exact sh_sA hs3) ?_ ?_
    · rw [e4, gI_sA, e3, gI_sI_ne (Or.inr (by decide))]
      exact h20
    · rw [e4, gI_sA, e3, gI_sI (sh_of hT2) (p := 79) (b := 10) rfl (by decide)]
      rfl
end
