theorem s_xk0 {O : pOut} {d kc ks : Nat} {Q : pRes → Prop} {es : PH} {a : Int} (hs_es : sh es) (hT_es : hOK tT es)
    (K1 : aW O d 78 kc ks Q (5, [some (.ref 64), some (.int (zI a)), none], [.int (zI 0), .ref 67], es)) :
    aW O d 78 kc ks Q (0, [some (.ref 64), some (.int (zI a)), none], [], es) := by
  refine x0 (r := (1, [some (.ref 64), some (.int (zI a)), none], [.ref 64], es)) i_78_0 rfl ?_
  refine x_getr (p := 0) (k := 67) i_78_1 hs_es rfl rfl ?_
  show aW _ _ _ _ _ _ (4, [some (.ref 64), some (.int (zI a)), none], [.ref 67], es)
  refine x0 (r := (5, [some (.ref 64), some (.int (zI a)), none], [.int (zI 0), .ref 67], es)) i_78_4 (by rfl) ?_
  exact K1
theorem s_xk8 {O : pOut} {d kc ks : Nat} {Q : pRes → Prop} {es : PH} {a v : Int} (hs_es : sh es) (ha : -2147483648 ≤ a ∧ a ≤ 2147483647) (hv : v = 0 ∨ v = 1) (hT_es : hOK tT es)
    (K1 : ∀ v1 : Int, v1 = (gI es 3 4).toInt → ∀ es2 : PH, es2 = sI es 0 8 (.int (zI v1)) → ∀ es3 : PH, es3 = sI es2 1 1 (.int (zI 0)) → v = 0 → Q (.inr 0, es3, kc + 1, ks + 6))
    (K2 : ∀ v1 : Int, v1 = (gI es 3 4).toInt → ∀ es2 : PH, es2 = sI es 0 8 (.int (zI v1)) → ∀ es3 : PH, es3 = sI es2 1 1 (.int (zI 0)) → ¬ (v = 0) → a < 0 → Q (.inr 0, es3, kc + 1, ks + 6))
    (K3 : ∀ v1 : Int, v1 = (gI es 3 4).toInt → ∀ es2 : PH, es2 = sI es 0 8 (.int (zI v1)) → ∀ es3 : PH, es3 = sI es2 1 1 (.int (zI 0)) → ¬ (v = 0) → ¬ (a < 0) → a ≤ 20 → aW O (d + 1) 78 kc ks Q (37, [some (.ref 64), some (.int (zI a)), some (.int (zI v))], [], es3))
    (K4 : ∀ v1 : Int, v1 = (gI es 3 4).toInt → ∀ es2 : PH, es2 = sI es 0 8 (.int (zI v1)) → ∀ es3 : PH, es3 = sI es2 1 1 (.int (zI 0)) → ¬ (v = 0) → ¬ (a < 0) → ¬ (a ≤ 20) → Q (.inr 0, es3, kc + 1, ks + 6)) :
    aW O (d + 1) 78 kc ks Q (8, [some (.ref 64), some (.int (zI a)), none], [.int (zI v)], es) := by
  refine x0 (r := (9, [some (.ref 64), some (.int (zI a)), some (.int (zI v))], [], es)) i_78_8 rfl ?_
  refine x0 (r := (10, [some (.ref 64), some (.int (zI a)), some (.int (zI v))], [.ref 64], es)) i_78_9 rfl ?_
  refine x_call (vs := [.ref 64]) (rs := []) i_78_10 rfl (fun _ => rfl) rfl rfl rfl rfl rfl (pCall_v (p := 0) hs_es rfl rfl rfl rfl rfl (by decide) rfl rfl rfl rfl rfl) ?_
  show aW _ _ _ _ _ _ (0, [some (.ref 64)], [], es)
  refine x0 (r := (1, [some (.ref 64)], [.ref 64], es)) i_97_0 rfl ?_
  refine x0 (r := (2, [some (.ref 64)], [.ref 64, .ref 64], es)) i_97_1 rfl ?_
  refine x_getr (p := 0) (k := 67) i_97_2 hs_es rfl rfl ?_
  show aW _ _ _ _ _ _ (5, [some (.ref 64)], [.ref 67, .ref 64], es)
  refine x_geti (p := 3) i_97_5 hs_es rfl rfl ?_
  obtain ⟨v1, e_v1⟩ : ∃ z : Int, z = (gI es 3 4).toInt := ⟨_, rfl⟩
  rw [← e_v1]
  have r_v1 : iLO ≤ v1 ∧ v1 ≤ iHI := by rw [e_v1]; exact i32_rng _
  unfold iLO iHI at r_v1
  refine x_puti (p := 0) (ty := .int) i_97_8 hs_es rfl rfl rfl (Or.inl rfl) ?_
  obtain ⟨es2, e_es2⟩ : ∃ z : PH, z = sI es 0 8 (.int (zI v1)) := ⟨_, rfl⟩
  have hs_es2 : sh es2 := by rw [e_es2]; exact sh_sI hs_es (p := 0) (b := 8) rfl rfl
  have hT_es2 : hOK tT es2 := by rw [e_es2]; exact hOK_sI hT_es (p := 0) (b := 8) (lo := iLO) (hi := iHI) rfl rfl (i32_rng _)
  rw [← e_es2]
  refine x0 (r := (12, [some (.ref 64)], [.ref 64], es2)) i_97_11 rfl ?_
  refine x_getr (p := 0) (k := 65) i_97_12 hs_es2 rfl rfl ?_
  show aW _ _ _ _ _ _ (15, [some (.ref 64)], [.ref 65], es2)
  refine x0 (r := (16, [some (.ref 64)], [.int (zI 0), .ref 65], es2)) i_97_15 (by rfl) ?_
  refine x_puti (p := 1) (ty := .int) i_97_16 hs_es2 rfl rfl rfl (Or.inl rfl) ?_
  obtain ⟨es3, e_es3⟩ : ∃ z : PH, z = sI es2 1 1 (.int (zI 0)) := ⟨_, rfl⟩
  have hs_es3 : sh es3 := by rw [e_es3]; exact sh_sI hs_es2 (p := 1) (b := 1) rfl rfl
  have hT_es3 : hOK tT es3 := by rw [e_es3]; exact hOK_sI hT_es2 (p := 1) (b := 1) (lo := iLO) (hi := iHI) rfl rfl (i32_rng _)
  rw [← e_es3]
  refine x_ret (v := none) i_97_19 rfl (fun _ => rfl) rfl rfl rfl ?_
  show aW _ _ _ _ _ _ (13, [some (.ref 64), some (.int (zI a)), some (.int (zI v))], [], es3)
  refine x0 (r := (14, [some (.ref 64), some (.int (zI a)), some (.int (zI v))], [.int (zI v)], es3)) i_78_13 rfl ?_
  by_cases c4 : v = 0
  · refine x_ifT i_78_14 (by unfold i32 iLO iHI; omega) rfl (by simp only [zC, cR]; omega) ?_
    refine x_thr i_78_27 rfl (fun _ => rfl) rfl rfl rfl rfl ?_
    exact K1 v1 e_v1 es2 e_es2 es3 e_es3 c4
  · refine x_ifF i_78_14 (by unfold i32 iLO iHI; omega) rfl (by simp only [zC, cR]; omega) ?_
    refine x0 (r := (18, [some (.ref 64), some (.int (zI a)), some (.int (zI v))], [.int (zI a)], es3)) i_78_17 rfl ?_
    by_cases c5 : a < 0
    · refine x_ifT i_78_18 (by unfold i32 iLO iHI; omega) rfl (by simp only [zC, cR]; omega) ?_
      refine x_thr i_78_27 rfl (fun _ => rfl) rfl rfl rfl rfl ?_
      exact K2 v1 e_v1 es2 e_es2 es3 e_es3 c4 c5
    · refine x_ifF i_78_18 (by unfold i32 iLO iHI; omega) rfl (by simp only [zC, cR]; omega) ?_
      refine x0 (r := (22, [some (.ref 64), some (.int (zI a)), some (.int (zI v))], [.int (zI a)], es3)) i_78_21 rfl ?_
      refine x0 (r := (24, [some (.ref 64), some (.int (zI a)), some (.int (zI v))], [.int (zI 20), .int (zI a)], es3)) i_78_22 (by rfl) ?_
      by_cases c6 : a ≤ 20
      · refine x_cmpT i_78_24 (by unfold i32 iLO iHI; omega) (by unfold i32 iLO iHI; omega) rfl (by simp only [zC, cR]; omega) ?_
        exact K3 v1 e_v1 es2 e_es2 es3 e_es3 c4 c5 c6
      · refine x_cmpF i_78_24 (by unfold i32 iLO iHI; omega) (by unfold i32 iLO iHI; omega) rfl (by simp only [zC, cR]; omega) ?_
        refine x_thr i_78_27 rfl (fun _ => rfl) rfl rfl rfl rfl ?_
        exact K4 v1 e_v1 es2 e_es2 es3 e_es3 c4 c5 c6
theorem s_xk37 {O : pOut} {d kc ks : Nat} {Q : pRes → Prop} {es : PH} {a v : Int} (hs_es : sh es) (hT_es : hOK tT es)
    (K1 : ∀ v1 : Int, v1 = (gI es 7 0).toInt → v1 < 5 → aW O d 78 kc ks Q (67, [some (.ref 64), some (.int (zI a)), some (.int (zI v))], [.ref 67, .int (zI a), .ref 71], es))
    (K2 : ∀ v1 : Int, v1 = (gI es 7 0).toInt → ¬ (v1 < 5) → Q (.inr 1, es, kc + 1, ks + 6)) :
    aW O d 78 kc ks Q (37, [some (.ref 64), some (.int (zI a)), some (.int (zI v))], [], es) := by
  refine x0 (r := (38, [some (.ref 64), some (.int (zI a)), some (.int (zI v))], [.ref 64], es)) i_78_37 rfl ?_
  refine x_getr (p := 0) (k := 71) i_78_38 hs_es rfl rfl ?_
  show aW _ _ _ _ _ _ (41, [some (.ref 64), some (.int (zI a)), some (.int (zI v))], [.ref 71], es)
  refine x_geti (p := 7) i_78_41 hs_es rfl rfl ?_
  obtain ⟨v1, e_v1⟩ : ∃ z : Int, z = (gI es 7 0).toInt := ⟨_, rfl⟩
  rw [← e_v1]
  have r_v1 : iLO ≤ v1 ∧ v1 ≤ iHI := by rw [e_v1]; exact i32_rng _
  unfold iLO iHI at r_v1
  refine x0 (r := (45, [some (.ref 64), some (.int (zI a)), some (.int (zI v))], [.int (zI 5), .int (zI v1)], es)) i_78_44 (by rfl) ?_
  by_cases c2 : v1 < 5
  · refine x_cmpT i_78_45 (by unfold i32 iLO iHI; omega) (by unfold i32 iLO iHI; omega) rfl (by simp only [zC, cR]; omega) ?_
    refine x0 (r := (59, [some (.ref 64), some (.int (zI a)), some (.int (zI v))], [.ref 64], es)) i_78_58 rfl ?_
    refine x_getr (p := 0) (k := 71) i_78_59 hs_es rfl rfl ?_
    show aW _ _ _ _ _ _ (62, [some (.ref 64), some (.int (zI a)), some (.int (zI v))], [.ref 71], es)
    refine x0 (r := (63, [some (.ref 64), some (.int (zI a)), some (.int (zI v))], [.int (zI a), .ref 71], es)) i_78_62 rfl ?_
    refine x0 (r := (64, [some (.ref 64), some (.int (zI a)), some (.int (zI v))], [.ref 64, .int (zI a), .ref 71], es)) i_78_63 rfl ?_
    refine x_getr (p := 0) (k := 67) i_78_64 hs_es rfl rfl ?_
    show aW _ _ _ _ _ _ (67, [some (.ref 64), some (.int (zI a)), some (.int (zI v))], [.ref 67, .int (zI a), .ref 71], es)
    exact K1 v1 e_v1 c2
  · refine x_cmpF i_78_45 (by unfold i32 iLO iHI; omega) (by unfold i32 iLO iHI; omega) rfl (by simp only [zC, cR]; omega) ?_
    refine x_thr i_78_48 rfl (fun _ => rfl) rfl rfl rfl rfl ?_
    exact K2 v1 e_v1 c2
theorem s_xk70 {O : pOut} {d kc ks : Nat} {Q : pRes → Prop} {es : PH} {a v : Int} (hs_es : sh es) (hT_es : hOK tT es)
    (K1 : ∀ es1 : PH, es1 = sI es 0 10 (.int (zI 0)) → ∀ es2 : PH, es2 = sI es1 73 3 (.int (zI 0)) → ∀ v3 : Int, v3 = (gI es2 7 0).toInt → Q (.inl (some (.int (zI (v3 - 1)))), es2, kc, ks)) :
    aW O (d + 1) 78 kc ks Q (70, [some (.ref 64), some (.int (zI a)), some (.int (zI v))], [], es) := by
  refine x0 (r := (71, [some (.ref 64), some (.int (zI a)), some (.int (zI v))], [.ref 64], es)) i_78_70 rfl ?_
  refine x_call (vs := [.ref 64]) (rs := []) i_78_71 rfl (fun _ => rfl) rfl rfl rfl rfl rfl (pCall_v (p := 0) hs_es rfl rfl rfl rfl rfl (by decide) rfl rfl rfl rfl rfl) ?_
  show aW _ _ _ _ _ _ (0, [some (.ref 64)], [], es)
  refine x0 (r := (1, [some (.ref 64)], [.ref 64], es)) i_73_0 rfl ?_
  refine x0 (r := (2, [some (.ref 64)], [.int (zI 0), .ref 64], es)) i_73_1 (by rfl) ?_
  refine x_puti (p := 0) (ty := .boolean) i_73_2 hs_es rfl rfl rfl (Or.inr ⟨rfl, by omega⟩) ?_
  obtain ⟨es1, e_es1⟩ : ∃ z : PH, z = sI es 0 10 (.int (zI 0)) := ⟨_, rfl⟩
  have hs_es1 : sh es1 := by rw [e_es1]; exact sh_sI hs_es (p := 0) (b := 10) rfl rfl
  have hT_es1 : hOK tT es1 := by rw [e_es1]; exact hOK_sI hT_es (p := 0) (b := 10) rfl rfl (by rw [zI_toInt (by unfold i32 iLO iHI; omega)]; exact ⟨by show (0 : Int) ≤ 0; omega, by show 0 ≤ (1 : Int); omega⟩)
  rw [← e_es1]
  refine x0 (r := (6, [some (.ref 64)], [.ref 64], es1)) i_73_5 rfl ?_
  refine x_getr (p := 0) (k := 137) i_73_6 hs_es1 rfl rfl ?_
  show aW _ _ _ _ _ _ (9, [some (.ref 64)], [.ref 137], es1)
  refine x0 (r := (10, [some (.ref 64)], [.int (zI 0), .ref 137], es1)) i_73_9 (by rfl) ?_
  refine x_puti (p := 73) (ty := .boolean) i_73_10 hs_es1 rfl rfl rfl (Or.inr ⟨rfl, by omega⟩) ?_
  obtain ⟨es2, e_es2⟩ : ∃ z : PH, z = sI es1 73 3 (.int (zI 0)) := ⟨_, rfl⟩
  have hs_es2 : sh es2 := by rw [e_es2]; exact sh_sI hs_es1 (p := 73) (b := 3) rfl rfl
  have hT_es2 : hOK tT es2 := by rw [e_es2]; exact hOK_sI hT_es1 (p := 73) (b := 3) rfl rfl (by rw [zI_toInt (by unfold i32 iLO iHI; omega)]; exact ⟨by show (0 : Int) ≤ 0; omega, by show 0 ≤ (1 : Int); omega⟩)
  rw [← e_es2]
  refine x_ret (v := none) i_73_13 rfl (fun _ => rfl) rfl rfl rfl ?_
  show aW _ _ _ _ _ _ (74, [some (.ref 64), some (.int (zI a)), some (.int (zI v))], [], es2)
  refine x0 (r := (75, [some (.ref 64), some (.int (zI a)), some (.int (zI v))], [.ref 64], es2)) i_78_74 rfl ?_
  refine x_getr (p := 0) (k := 71) i_78_75 hs_es2 rfl rfl ?_
  show aW _ _ _ _ _ _ (78, [some (.ref 64), some (.int (zI a)), some (.int (zI v))], [.ref 71], es2)
  refine x_geti (p := 7) i_78_78 hs_es2 rfl rfl ?_
  obtain ⟨v3, e_v3⟩ : ∃ z : Int, z = (gI es2 7 0).toInt := ⟨_, rfl⟩
  rw [← e_v3]
  have r_v3 : iLO ≤ v3 ∧ v3 ≤ iHI := by rw [e_v3]; exact i32_rng _
  unfold iLO iHI at r_v3
  refine x0 (r := (82, [some (.ref 64), some (.int (zI a)), some (.int (zI v))], [.int (zI 1), .int (zI v3)], es2)) i_78_81 (by rfl) ?_
  refine x_isub i_78_82 ?_
  refine x_ret (v := some (.int (zI (v3 - 1)))) i_78_83 rfl (fun _ => rfl) rfl rfl rfl ?_
  exact K1 es1 e_es1 es2 e_es2 v3 e_v3
theorem s_ak0 {O : pOut} {d kc ks : Nat} {Q : pRes → Prop} {es : PH} {a : Int} (hs_es : sh es) (hT_es : hOK tT es)
    (K1 : ∀ v1 : Int, v1 = (gI es 7 0).toInt → ∀ es2 : PH, anyS 8 v1 a es es2 → ∀ v3 : Int, v3 = (gI es2 7 0).toInt → ∀ v4 : Int, v4 = (gI es2 3 3).toInt → ∀ es5 : PH, anyS 9 v3 v4 es2 es5 → aW O (d + 1) 98 kc ks Q (29, [some (.ref 71), some (.int (zI a)), some (.ref 67), some (.int (zI 0))], [], es5)) :
    aW O (d + 1) 98 kc ks Q (0, [some (.ref 71), some (.int (zI a)), some (.ref 67), none], [], es) := by
  refine x0 (r := (1, [some (.ref 71), some (.int (zI a)), some (.ref 67), none], [.ref 71], es)) i_98_0 rfl ?_
  refine x_getr (p := 7) (k := 72) i_98_1 hs_es rfl rfl ?_
  show aW _ _ _ _ _ _ (4, [some (.ref 71), some (.int (zI a)), some (.ref 67), none], [.ref 72], es)
  refine x0 (r := (5, [some (.ref 71), some (.int (zI a)), some (.ref 67), none], [.ref 71, .ref 72], es)) i_98_4 rfl ?_
  refine x_geti (p := 7) i_98_5 hs_es rfl rfl ?_
  obtain ⟨v1, e_v1⟩ : ∃ z : Int, z = (gI es 7 0).toInt := ⟨_, rfl⟩
  rw [← e_v1]
  have r_v1 : iLO ≤ v1 ∧ v1 ≤ iHI := by rw [e_v1]; exact i32_rng _
  unfold iLO iHI at r_v1
  refine x0 (r := (9, [some (.ref 71), some (.int (zI a)), some (.ref 67), none], [.int (zI a), .int (zI v1), .ref 72], es)) i_98_8 rfl ?_
  refine x_call (vs := [.ref 72, .int (zI v1), .int (zI a)]) (rs := []) i_98_9 rfl (fun _ => rfl) rfl rfl rfl rfl rfl rfl ?_
  show aW _ _ _ _ _ _ (0, [some (.ref 72), some (.int (zI v1)), some (.int (zI a))], [], es)
  refine set_any (p := 8) rfl hs_es hT_es (fun _ => ⟨Int.le_refl _, Int.le_refl _⟩) (by decide) (by unfold i32 iLO iHI; omega) (fun es2 p_es2 => ?_)
  have hs_es2 : sh es2 := p_es2.1
  have hT_es2 : hOK tT es2 := p_es2.2.1
  show aW _ _ _ _ _ _ (12, [some (.ref 71), some (.int (zI a)), some (.ref 67), none], [], es2)
  refine x0 (r := (13, [some (.ref 71), some (.int (zI a)), some (.ref 67), none], [.ref 71], es2)) i_98_12 rfl ?_
  refine x_getr (p := 7) (k := 73) i_98_13 hs_es2 rfl rfl ?_
  show aW _ _ _ _ _ _ (16, [some (.ref 71), some (.int (zI a)), some (.ref 67), none], [.ref 73], es2)
  refine x0 (r := (17, [some (.ref 71), some (.int (zI a)), some (.ref 67), none], [.ref 71, .ref 73], es2)) i_98_16 rfl ?_
  refine x_geti (p := 7) i_98_17 hs_es2 rfl rfl ?_
  obtain ⟨v3, e_v3⟩ : ∃ z : Int, z = (gI es2 7 0).toInt := ⟨_, rfl⟩
  rw [← e_v3]
  have r_v3 : iLO ≤ v3 ∧ v3 ≤ iHI := by rw [e_v3]; exact i32_rng _
  unfold iLO iHI at r_v3
  refine x0 (r := (21, [some (.ref 71), some (.int (zI a)), some (.ref 67), none], [.ref 67, .int (zI v3), .ref 73], es2)) i_98_20 rfl ?_
  refine x_geti (p := 3) i_98_21 hs_es2 rfl rfl ?_
  obtain ⟨v4, e_v4⟩ : ∃ z : Int, z = (gI es2 3 3).toInt := ⟨_, rfl⟩
  rw [← e_v4]
  have r_v4 : iLO ≤ v4 ∧ v4 ≤ iHI := by rw [e_v4]; exact i32_rng _
  unfold iLO iHI at r_v4
  refine x_call (vs := [.ref 73, .int (zI v3), .int (zI v4)]) (rs := []) i_98_24 rfl (fun _ => rfl) rfl rfl rfl rfl rfl rfl ?_
  show aW _ _ _ _ _ _ (0, [some (.ref 73), some (.int (zI v3)), some (.int (zI v4))], [], es2)
  refine set_any (p := 9) rfl hs_es2 hT_es2 (fun _ => ⟨Int.le_refl _, Int.le_refl _⟩) (by decide) (by unfold i32 iLO iHI; omega) (fun es5 p_es5 => ?_)
  have hs_es5 : sh es5 := p_es5.1
  have hT_es5 : hOK tT es5 := p_es5.2.1
  show aW _ _ _ _ _ _ (27, [some (.ref 71), some (.int (zI a)), some (.ref 67), none], [], es5)
  refine x0 (r := (28, [some (.ref 71), some (.int (zI a)), some (.ref 67), none], [.int (zI 0)], es5)) i_98_27 (by rfl) ?_
  refine x0 (r := (29, [some (.ref 71), some (.int (zI a)), some (.ref 67), some (.int (zI 0))], [], es5)) i_98_28 rfl ?_
  exact K1 v1 e_v1 es2 p_es2 v3 e_v3 v4 e_v4 es5 p_es5
theorem s_ak29 {O : pOut} {d kc ks : Nat} {Q : pRes → Prop} {es : PH} {a k : Int} (hs_es : sh es) (hk : 0 ≤ k ∧ k ≤ 12) (hT_es : hOK tT es)
    (K1 : 12 ≤ k → ∀ v2 : Int, v2 = (gI es 7 0).toInt → ∀ es3 : PH, es3 = sI es 7 0 (.int (zI (v2 + 1))) → Q (.inl (none), es3, kc, ks))
    (K2 : ¬ (12 ≤ k) → ∀ v4 : Int, v4 = (gI es 7 0).toInt → ∀ v5 : Int, v5 = (zI (((v4 * 6) * 2) + k)).toInt → ∀ v6 : Int, anyV k es v6 → ∀ es7 : PH, anyS 10 v5 v6 es es7 → aW O (d + 1) 98 kc ks Q (29, [some (.ref 71), some (.int (zI a)), some (.ref 67), some (.int (zI (k + 1)))], [], es7)) :
    aW O (d + 1) 98 kc ks Q (29, [some (.ref 71), some (.int (zI a)), some (.ref 67), some (.int (zI k))], [], es) := by
  refine x0 (r := (30, [some (.ref 71), some (.int (zI a)), some (.ref 67), some (.int (zI k))], [.int (zI k)], es)) i_98_29 rfl ?_
  refine x0 (r := (32, [some (.ref 71), some (.int (zI a)), some (.ref 67), some (.int (zI k))], [.int (zI 12), .int (zI k)], es)) i_98_30 (by rfl) ?_
  by_cases c1 : 12 ≤ k
  · refine x_cmpT i_98_32 (by unfold i32 iLO iHI; omega) (by unfold i32 iLO iHI; omega) rfl (by simp only [zC, cR]; omega) ?_
    refine x0 (r := (68, [some (.ref 71), some (.int (zI a)), some (.ref 67), some (.int (zI k))], [.ref 71], es)) i_98_67 rfl ?_
    refine x0 (r := (69, [some (.ref 71), some (.int (zI a)), some (.ref 67), some (.int (zI k))], [.ref 71, .ref 71], es)) i_98_68 rfl ?_
    refine x_geti (p := 7) i_98_69 hs_es rfl rfl ?_
    obtain ⟨v2, e_v2⟩ : ∃ z : Int, z = (gI es 7 0).toInt := ⟨_, rfl⟩
    rw [← e_v2]
    have r_v2 : iLO ≤ v2 ∧ v2 ≤ iHI := by rw [e_v2]; exact i32_rng _
    unfold iLO iHI at r_v2
    refine x0 (r := (73, [some (.ref 71), some (.int (zI a)), some (.ref 67), some (.int (zI k))], [.int (zI 1), .int (zI v2), .ref 71], es)) i_98_72 (by rfl) ?_
    refine x_iadd i_98_73 ?_
    refine x_puti (p := 7) (ty := .int) i_98_74 hs_es rfl rfl rfl (Or.inl rfl) ?_
    obtain ⟨es3, e_es3⟩ : ∃ z : PH, z = sI es 7 0 (.int (zI (v2 + 1))) := ⟨_, rfl⟩
    have hs_es3 : sh es3 := by rw [e_es3]; exact sh_sI hs_es (p := 7) (b := 0) rfl rfl
    have hT_es3 : hOK tT es3 := by rw [e_es3]; exact hOK_sI hT_es (p := 7) (b := 0) (lo := iLO) (hi := iHI) rfl rfl (i32_rng _)
    rw [← e_es3]
    refine x_ret (v := none) i_98_77 rfl (fun _ => rfl) rfl rfl rfl ?_
    exact K1 c1 v2 e_v2 es3 e_es3
  · refine x_cmpF i_98_32 (by unfold i32 iLO iHI; omega) (by unfold i32 iLO iHI; omega) rfl (by simp only [zC, cR]; omega) ?_
    refine x0 (r := (36, [some (.ref 71), some (.int (zI a)), some (.ref 67), some (.int (zI k))], [.ref 71], es)) i_98_35 rfl ?_
    refine x_getr (p := 7) (k := 74) i_98_36 hs_es rfl rfl ?_
    show aW _ _ _ _ _ _ (39, [some (.ref 71), some (.int (zI a)), some (.ref 67), some (.int (zI k))], [.ref 74], es)
    refine x0 (r := (40, [some (.ref 71), some (.int (zI a)), some (.ref 67), some (.int (zI k))], [.ref 71, .ref 74], es)) i_98_39 rfl ?_
    refine x_geti (p := 7) i_98_40 hs_es rfl rfl ?_
    obtain ⟨v4, e_v4⟩ : ∃ z : Int, z = (gI es 7 0).toInt := ⟨_, rfl⟩
    rw [← e_v4]
    have r_v4 : iLO ≤ v4 ∧ v4 ≤ iHI := by rw [e_v4]; exact i32_rng _
    unfold iLO iHI at r_v4
    refine x0 (r := (45, [some (.ref 71), some (.int (zI a)), some (.ref 67), some (.int (zI k))], [.int (zI 6), .int (zI v4), .ref 74], es)) i_98_43 (by rfl) ?_
    refine x_imul i_98_45 ?_
    refine x0 (r := (47, [some (.ref 71), some (.int (zI a)), some (.ref 67), some (.int (zI k))], [.int (zI 2), .int (zI (v4 * 6)), .ref 74], es)) i_98_46 (by rfl) ?_
    refine x_imul i_98_47 ?_
    refine x0 (r := (49, [some (.ref 71), some (.int (zI a)), some (.ref 67), some (.int (zI k))], [.int (zI k), .int (zI ((v4 * 6) * 2)), .ref 74], es)) i_98_48 rfl ?_
    refine x_iadd i_98_49 ?_
    rw [← zI_id (zI (((v4 * 6) * 2) + k))]
    obtain ⟨v5, e_v5⟩ : ∃ z : Int, z = (zI (((v4 * 6) * 2) + k)).toInt := ⟨_, rfl⟩
    rw [← e_v5]
    have r_v5 : iLO ≤ v5 ∧ v5 ≤ iHI := by rw [e_v5]; exact i32_rng _
    unfold iLO iHI at r_v5
    refine x0 (r := (51, [some (.ref 71), some (.int (zI a)), some (.ref 67), some (.int (zI k))], [.ref 67, .int (zI v5), .ref 74], es)) i_98_50 rfl ?_
    refine x_getr (p := 3) (k := 68) i_98_51 hs_es rfl rfl ?_
    show aW _ _ _ _ _ _ (54, [some (.ref 71), some (.int (zI a)), some (.ref 67), some (.int (zI k))], [.ref 68, .int (zI v5), .ref 74], es)
    refine x0 (r := (55, [some (.ref 71), some (.int (zI a)), some (.ref 67), some (.int (zI k))], [.int (zI k), .ref 68, .int (zI v5), .ref 74], es)) i_98_54 rfl ?_
    refine x_call (vs := [.ref 68, .int (zI k)]) (rs := [.int (zI v5), .ref 74]) i_98_55 rfl (fun _ => rfl) rfl rfl rfl rfl rfl rfl ?_
    show aW _ _ _ _ _ _ (0, [some (.ref 68), some (.int (zI k))], [], es)
    refine at_any (p := 4) rfl hs_es (by decide) (by unfold i32 iLO iHI; omega) (fun v6 p_v6 => ?_)
    have r_v6 := p_v6
    show aW _ _ _ _ _ _ (58, [some (.ref 71), some (.int (zI a)), some (.ref 67), some (.int (zI k))], [.int (zI v6), .int (zI v5), .ref 74], es)
    refine x_call (vs := [.ref 74, .int (zI v5), .int (zI v6)]) (rs := []) i_98_58 rfl (fun _ => rfl) rfl rfl rfl rfl rfl rfl ?_
    show aW _ _ _ _ _ _ (0, [some (.ref 74), some (.int (zI v5)), some (.int (zI v6))], [], es)
    refine set_any (p := 10) rfl hs_es hT_es (fun _ => ⟨Int.le_refl _, Int.le_refl _⟩) (by decide) (by unfold i32 iLO iHI; omega) (fun es7 p_es7 => ?_)
    have hs_es7 : sh es7 := p_es7.1
    have hT_es7 : hOK tT es7 := p_es7.2.1
    show aW _ _ _ _ _ _ (61, [some (.ref 71), some (.int (zI a)), some (.ref 67), some (.int (zI k))], [], es7)
    refine x_iinc (x := k) i_98_61 rfl (by show 3 < 4; decide) ?_
    show aW _ _ _ _ _ _ (64, [some (.ref 71), some (.int (zI a)), some (.ref 67), some (.int (zI (k + 1)))], [], es7)
    refine x0 (r := (29, [some (.ref 71), some (.int (zI a)), some (.ref 67), some (.int (zI (k + 1)))], [], es7)) i_98_64 rfl ?_
    exact K2 c1 v4 e_v4 v5 e_v5 v6 p_v6 es7 p_es7
theorem s_mk0 {O : pOut} {d kc ks : Nat} {Q : pRes → Prop} {es : PH} {a : Int} (hs_es : sh es) (hT_es : hOK tT es)
    (K1 : ∀ es1 : PH, es1 = sI es 79 0 (.int (zI 0)) → aW O d 174 kc ks Q (7, [some (.ref 143), some (.int (zI a)), none, none, none], [.int (zI 1), .ref 143], es1)) :
    aW O d 174 kc ks Q (0, [some (.ref 143), some (.int (zI a)), none, none, none], [], es) := by
  refine x0 (r := (1, [some (.ref 143), some (.int (zI a)), none, none, none], [.ref 143], es)) i_174_0 rfl ?_
  refine x0 (r := (2, [some (.ref 143), some (.int (zI a)), none, none, none], [.int (zI 0), .ref 143], es)) i_174_1 (by rfl) ?_
  refine x_puti (p := 79) (ty := .int) i_174_2 hs_es rfl rfl rfl (Or.inl rfl) ?_
  obtain ⟨es1, e_es1⟩ : ∃ z : PH, z = sI es 79 0 (.int (zI 0)) := ⟨_, rfl⟩
  have hs_es1 : sh es1 := by rw [e_es1]; exact sh_sI hs_es (p := 79) (b := 0) rfl rfl
  have hT_es1 : hOK tT es1 := by rw [e_es1]; exact hOK_sI hT_es (p := 79) (b := 0) (lo := iLO) (hi := iHI) rfl rfl (i32_rng _)
  rw [← e_es1]
  refine x0 (r := (6, [some (.ref 143), some (.int (zI a)), none, none, none], [.ref 143], es1)) i_174_5 rfl ?_
  refine x0 (r := (7, [some (.ref 143), some (.int (zI a)), none, none, none], [.int (zI 1), .ref 143], es1)) i_174_6 (by rfl) ?_
  exact K1 es1 e_es1
theorem s_mk10 {O : pOut} {d kc ks : Nat} {Q : pRes → Prop} {es : PH} {a v : Int} (hs_es : sh es) (ha : -2147483648 ≤ a ∧ a ≤ 2147483647) (hv : -1 ≤ v ∧ v ≤ 10) (hT_es : hOK tT es)
    (K1 : 0 ≤ v → ∀ es2 : PH, es2 = sI es 79 10 (.int (zI (-1))) → a < 0 → ∀ es4 : PH, es4 = sI es2 79 0 (.int (zI 1)) → Q (.inl (some (.int (zI 0))), es4, kc, ks))
    (K2 : 0 ≤ v → ∀ es2 : PH, es2 = sI es 79 10 (.int (zI (-1))) → ¬ (a < 0) → 20 < a → ∀ es6 : PH, es6 = sI es2 79 0 (.int (zI 1)) → Q (.inl (some (.int (zI 0))), es6, kc, ks))
    (K3 : 0 ≤ v → ∀ es2 : PH, es2 = sI es 79 10 (.int (zI (-1))) → ¬ (a < 0) → ¬ (20 < a) → aW O (d + 1) 174 kc ks Q (54, [some (.ref 143), some (.int (zI a)), some (.int (zI v)), none, none], [], es2))
    (K4 : ¬ (0 ≤ v) → ∀ v7 : Int, v7 = (gI es 79 8).toInt → ∀ es8 : PH, es8 = sI es 79 10 (.int (zI v7)) → ∀ es9 : PH, es9 = sI es8 79 0 (.int (zI 1)) → Q (.inl (some (.int (zI 0))), es9, kc, ks)) :
    aW O (d + 1) 174 kc ks Q (10, [some (.ref 143), some (.int (zI a)), none, none, none], [.int (zI v)], es) := by
  refine x0 (r := (11, [some (.ref 143), some (.int (zI a)), some (.int (zI v)), none, none], [], es)) i_174_10 rfl ?_
  refine x0 (r := (12, [some (.ref 143), some (.int (zI a)), some (.int (zI v)), none, none], [.ref 143], es)) i_174_11 rfl ?_
  refine x0 (r := (13, [some (.ref 143), some (.int (zI a)), some (.int (zI v)), none, none], [.int (zI v), .ref 143], es)) i_174_12 rfl ?_
  by_cases c1 : 0 ≤ v
  · refine x_ifT i_174_13 (by unfold i32 iLO iHI; omega) rfl (by simp only [zC, cR]; omega) ?_
    refine x0 (r := (24, [some (.ref 143), some (.int (zI a)), some (.int (zI v)), none, none], [.int (zI (-1)), .ref 143], es)) i_174_23 (by rfl) ?_
    refine x_puti (p := 79) (ty := .int) i_174_24 hs_es rfl rfl rfl (Or.inl rfl) ?_
    obtain ⟨es2, e_es2⟩ : ∃ z : PH, z = sI es 79 10 (.int (zI (-1))) := ⟨_, rfl⟩
    have hs_es2 : sh es2 := by rw [e_es2]; exact sh_sI hs_es (p := 79) (b := 10) rfl rfl
    have hT_es2 : hOK tT es2 := by rw [e_es2]; exact hOK_sI hT_es (p := 79) (b := 10) (lo := iLO) (hi := iHI) rfl rfl (i32_rng _)
    rw [← e_es2]
    refine x0 (r := (28, [some (.ref 143), some (.int (zI a)), some (.int (zI v)), none, none], [.ref 143], es2)) i_174_27 rfl ?_
    refine x0 (r := (29, [some (.ref 143), some (.int (zI a)), some (.int (zI v)), none, none], [.int (zI v), .ref 143], es2)) i_174_28 rfl ?_
    refine x_ifF i_174_29 (by unfold i32 iLO iHI; omega) rfl (by simp only [zC, cR]; omega) ?_
    refine x0 (r := (33, [some (.ref 143), some (.int (zI a)), some (.int (zI v)), none, none], [.int (zI a), .ref 143], es2)) i_174_32 rfl ?_
    refine x0 (r := (34, [some (.ref 143), some (.int (zI a)), some (.int (zI v)), none, none], [.int (zI 0), .int (zI a), .ref 143], es2)) i_174_33 (by rfl) ?_
    refine x0 (r := (36, [some (.ref 143), some (.int (zI a)), some (.int (zI v)), none, none], [.int (zI 20), .int (zI 0), .int (zI a), .ref 143], es2)) i_174_34 (by rfl) ?_
    refine x_call (vs := [.int (zI a), .int (zI 0), .int (zI 20)]) (rs := [.ref 143]) i_174_36 rfl (fun _ => rfl) rfl rfl rfl rfl rfl rfl ?_
    show aW _ _ _ _ _ _ (0, [some (.int (zI a)), some (.int (zI 0)), some (.int (zI 20))], [], es2)
    refine x0 (r := (1, [some (.int (zI a)), some (.int (zI 0)), some (.int (zI 20))], [.int (zI a)], es2)) i_193_0 rfl ?_
    refine x0 (r := (2, [some (.int (zI a)), some (.int (zI 0)), some (.int (zI 20))], [.int (zI 0), .int (zI a)], es2)) i_193_1 rfl ?_
    by_cases c3 : a < 0
    · refine x_cmpT i_193_2 (by unfold i32 iLO iHI; omega) (by unfold i32 iLO iHI; omega) rfl (by simp only [zC, cR]; omega) ?_
      refine x0 (r := (15, [some (.int (zI a)), some (.int (zI 0)), some (.int (zI 20))], [.int (zI 0)], es2)) i_193_14 (by rfl) ?_
      refine x_ret (v := some (.int (zI 0))) i_193_15 rfl (fun _ => rfl) rfl rfl (pFin_b (by omega)) ?_
      show aW _ _ _ _ _ _ (39, [some (.ref 143), some (.int (zI a)), some (.int (zI v)), none, none], [.int (zI 0), .ref 143], es2)
      refine x_ifF i_174_39 (by unfold i32 iLO iHI; omega) rfl (by simp only [zC, cR]; omega) ?_
      refine x0 (r := (43, [some (.ref 143), some (.int (zI a)), some (.int (zI v)), none, none], [.int (zI 1), .ref 143], es2)) i_174_42 (by rfl) ?_
      refine x0 (r := (47, [some (.ref 143), some (.int (zI a)), some (.int (zI v)), none, none], [.int (zI 1), .ref 143], es2)) i_174_43 rfl ?_
      refine x0 (r := (48, [some (.ref 143), some (.int (zI a)), some (.int (zI v)), none, none], [.int (zI 1), .int (zI 1), .ref 143], es2)) i_174_47 (by rfl) ?_
      refine x_call (vs := [.ref 143, .int (zI 1), .int (zI 1)]) (rs := []) i_174_48 rfl (fun _ => rfl) rfl rfl rfl rfl rfl (pCall_v (p := 79) hs_es2 rfl rfl rfl rfl rfl (by decide) rfl rfl rfl rfl rfl) ?_
      show aW _ _ _ _ _ _ (0, [some (.ref 143), some (.int (zI 1)), some (.int (zI 1))], [], es2)
      refine x0 (r := (1, [some (.ref 143), some (.int (zI 1)), some (.int (zI 1))], [.int (zI 1)], es2)) i_194_0 rfl ?_
      refine x_ifF i_194_1 (by unfold i32 iLO iHI; omega) rfl (by simp only [zC, cR]; omega) ?_
      refine x0 (r := (5, [some (.ref 143), some (.int (zI 1)), some (.int (zI 1))], [.ref 143], es2)) i_194_4 rfl ?_
      refine x0 (r := (6, [some (.ref 143), some (.int (zI 1)), some (.int (zI 1))], [.int (zI 1), .ref 143], es2)) i_194_5 rfl ?_
      refine x_puti (p := 79) (ty := .int) i_194_6 hs_es2 rfl rfl rfl (Or.inl rfl) ?_
      obtain ⟨es4, e_es4⟩ : ∃ z : PH, z = sI es2 79 0 (.int (zI 1)) := ⟨_, rfl⟩
      have hs_es4 : sh es4 := by rw [e_es4]; exact sh_sI hs_es2 (p := 79) (b := 0) rfl rfl
      have hT_es4 : hOK tT es4 := by rw [e_es4]; exact hOK_sI hT_es2 (p := 79) (b := 0) (lo := iLO) (hi := iHI) rfl rfl (i32_rng _)
      rw [← e_es4]
      refine x0 (r := (10, [some (.ref 143), some (.int (zI 1)), some (.int (zI 1))], [.int (zI 1)], es4)) i_194_9 rfl ?_
      refine x_ret (v := some (.int (zI 1))) i_194_10 rfl (fun _ => rfl) rfl rfl (pFin_b (by omega)) ?_
      show aW _ _ _ _ _ _ (51, [some (.ref 143), some (.int (zI a)), some (.int (zI v)), none, none], [.int (zI 1)], es4)
      refine x_ifT i_174_51 (by unfold i32 iLO iHI; omega) rfl (by simp only [zC, cR]; omega) ?_
      refine x0 (r := (78, [some (.ref 143), some (.int (zI a)), some (.int (zI v)), none, none], [.int (zI 0)], es4)) i_174_77 (by rfl) ?_
      refine x_ret (v := some (.int (zI 0))) i_174_78 rfl (fun _ => rfl) rfl rfl rfl ?_
      exact K1 c1 es2 e_es2 c3 es4 e_es4
    · refine x_cmpF i_193_2 (by unfold i32 iLO iHI; omega) (by unfold i32 iLO iHI; omega) rfl (by simp only [zC, cR]; omega) ?_
      refine x0 (r := (6, [some (.int (zI a)), some (.int (zI 0)), some (.int (zI 20))], [.int (zI a)], es2)) i_193_5 rfl ?_
      refine x0 (r := (7, [some (.int (zI a)), some (.int (zI 0)), some (.int (zI 20))], [.int (zI 20), .int (zI a)], es2)) i_193_6 rfl ?_
      by_cases c5 : 20 < a
      · refine x_cmpT i_193_7 (by unfold i32 iLO iHI; omega) (by unfold i32 iLO iHI; omega) rfl (by simp only [zC, cR]; omega) ?_
        refine x0 (r := (15, [some (.int (zI a)), some (.int (zI 0)), some (.int (zI 20))], [.int (zI 0)], es2)) i_193_14 (by rfl) ?_
        refine x_ret (v := some (.int (zI 0))) i_193_15 rfl (fun _ => rfl) rfl rfl (pFin_b (by omega)) ?_
        show aW _ _ _ _ _ _ (39, [some (.ref 143), some (.int (zI a)), some (.int (zI v)), none, none], [.int (zI 0), .ref 143], es2)
        refine x_ifF i_174_39 (by unfold i32 iLO iHI; omega) rfl (by simp only [zC, cR]; omega) ?_
        refine x0 (r := (43, [some (.ref 143), some (.int (zI a)), some (.int (zI v)), none, none], [.int (zI 1), .ref 143], es2)) i_174_42 (by rfl) ?_
        refine x0 (r := (47, [some (.ref 143), some (.int (zI a)), some (.int (zI v)), none, none], [.int (zI 1), .ref 143], es2)) i_174_43 rfl ?_
        refine x0 (r := (48, [some (.ref 143), some (.int (zI a)), some (.int (zI v)), none, none], [.int (zI 1), .int (zI 1), .ref 143], es2)) i_174_47 (by rfl) ?_
        refine x_call (vs := [.ref 143, .int (zI 1), .int (zI 1)]) (rs := []) i_174_48 rfl (fun _ => rfl) rfl rfl rfl rfl rfl (pCall_v (p := 79) hs_es2 rfl rfl rfl rfl rfl (by decide) rfl rfl rfl rfl rfl) ?_
        show aW _ _ _ _ _ _ (0, [some (.ref 143), some (.int (zI 1)), some (.int (zI 1))], [], es2)
        refine x0 (r := (1, [some (.ref 143), some (.int (zI 1)), some (.int (zI 1))], [.int (zI 1)], es2)) i_194_0 rfl ?_
        refine x_ifF i_194_1 (by unfold i32 iLO iHI; omega) rfl (by simp only [zC, cR]; omega) ?_
        refine x0 (r := (5, [some (.ref 143), some (.int (zI 1)), some (.int (zI 1))], [.ref 143], es2)) i_194_4 rfl ?_
        refine x0 (r := (6, [some (.ref 143), some (.int (zI 1)), some (.int (zI 1))], [.int (zI 1), .ref 143], es2)) i_194_5 rfl ?_
        refine x_puti (p := 79) (ty := .int) i_194_6 hs_es2 rfl rfl rfl (Or.inl rfl) ?_
        obtain ⟨es6, e_es6⟩ : ∃ z : PH, z = sI es2 79 0 (.int (zI 1)) := ⟨_, rfl⟩
        have hs_es6 : sh es6 := by rw [e_es6]; exact sh_sI hs_es2 (p := 79) (b := 0) rfl rfl
        have hT_es6 : hOK tT es6 := by rw [e_es6]; exact hOK_sI hT_es2 (p := 79) (b := 0) (lo := iLO) (hi := iHI) rfl rfl (i32_rng _)
        rw [← e_es6]
        refine x0 (r := (10, [some (.ref 143), some (.int (zI 1)), some (.int (zI 1))], [.int (zI 1)], es6)) i_194_9 rfl ?_
        refine x_ret (v := some (.int (zI 1))) i_194_10 rfl (fun _ => rfl) rfl rfl (pFin_b (by omega)) ?_
        show aW _ _ _ _ _ _ (51, [some (.ref 143), some (.int (zI a)), some (.int (zI v)), none, none], [.int (zI 1)], es6)
        refine x_ifT i_174_51 (by unfold i32 iLO iHI; omega) rfl (by simp only [zC, cR]; omega) ?_
        refine x0 (r := (78, [some (.ref 143), some (.int (zI a)), some (.int (zI v)), none, none], [.int (zI 0)], es6)) i_174_77 (by rfl) ?_
        refine x_ret (v := some (.int (zI 0))) i_174_78 rfl (fun _ => rfl) rfl rfl rfl ?_
        exact K2 c1 es2 e_es2 c3 c5 es6 e_es6
      · refine x_cmpF i_193_7 (by unfold i32 iLO iHI; omega) (by unfold i32 iLO iHI; omega) rfl (by simp only [zC, cR]; omega) ?_
        refine x0 (r := (11, [some (.int (zI a)), some (.int (zI 0)), some (.int (zI 20))], [.int (zI 1)], es2)) i_193_10 (by rfl) ?_
        refine x0 (r := (15, [some (.int (zI a)), some (.int (zI 0)), some (.int (zI 20))], [.int (zI 1)], es2)) i_193_11 rfl ?_
        refine x_ret (v := some (.int (zI 1))) i_193_15 rfl (fun _ => rfl) rfl rfl (pFin_b (by omega)) ?_
        show aW _ _ _ _ _ _ (39, [some (.ref 143), some (.int (zI a)), some (.int (zI v)), none, none], [.int (zI 1), .ref 143], es2)
        refine x_ifT i_174_39 (by unfold i32 iLO iHI; omega) rfl (by simp only [zC, cR]; omega) ?_
        refine x0 (r := (47, [some (.ref 143), some (.int (zI a)), some (.int (zI v)), none, none], [.int (zI 0), .ref 143], es2)) i_174_46 (by rfl) ?_
        refine x0 (r := (48, [some (.ref 143), some (.int (zI a)), some (.int (zI v)), none, none], [.int (zI 1), .int (zI 0), .ref 143], es2)) i_174_47 (by rfl) ?_
        refine x_call (vs := [.ref 143, .int (zI 0), .int (zI 1)]) (rs := []) i_174_48 rfl (fun _ => rfl) rfl rfl rfl rfl rfl (pCall_v (p := 79) hs_es2 rfl rfl rfl rfl rfl (by decide) rfl rfl rfl rfl rfl) ?_
        show aW _ _ _ _ _ _ (0, [some (.ref 143), some (.int (zI 0)), some (.int (zI 1))], [], es2)
        refine x0 (r := (1, [some (.ref 143), some (.int (zI 0)), some (.int (zI 1))], [.int (zI 0)], es2)) i_194_0 rfl ?_
        refine x_ifT i_194_1 (by unfold i32 iLO iHI; omega) rfl (by simp only [zC, cR]; omega) ?_
        refine x0 (r := (10, [some (.ref 143), some (.int (zI 0)), some (.int (zI 1))], [.int (zI 0)], es2)) i_194_9 rfl ?_
        refine x_ret (v := some (.int (zI 0))) i_194_10 rfl (fun _ => rfl) rfl rfl (pFin_b (by omega)) ?_
        show aW _ _ _ _ _ _ (51, [some (.ref 143), some (.int (zI a)), some (.int (zI v)), none, none], [.int (zI 0)], es2)
        refine x_ifF i_174_51 (by unfold i32 iLO iHI; omega) rfl (by simp only [zC, cR]; omega) ?_
        exact K3 c1 es2 e_es2 c3 c5
  · refine x_ifF i_174_13 (by unfold i32 iLO iHI; omega) rfl (by simp only [zC, cR]; omega) ?_
    refine x0 (r := (17, [some (.ref 143), some (.int (zI a)), some (.int (zI v)), none, none], [.ref 143, .ref 143], es)) i_174_16 rfl ?_
    refine x_geti (p := 79) i_174_17 hs_es rfl rfl ?_
    obtain ⟨v7, e_v7⟩ : ∃ z : Int, z = (gI es 79 8).toInt := ⟨_, rfl⟩
    rw [← e_v7]
    have r_v7 : iLO ≤ v7 ∧ v7 ≤ iHI := by rw [e_v7]; exact i32_rng _
    unfold iLO iHI at r_v7
    have b_v7 : (0 : Int) ≤ v7 ∧ v7 ≤ (400 : Int) := by rw [e_v7]; exact gI_bd hT_es (p := 79) (b := 8) rfl rfl
    refine x0 (r := (24, [some (.ref 143), some (.int (zI a)), some (.int (zI v)), none, none], [.int (zI v7), .ref 143], es)) i_174_20 rfl ?_
    refine x_puti (p := 79) (ty := .int) i_174_24 hs_es rfl rfl rfl (Or.inl rfl) ?_
    obtain ⟨es8, e_es8⟩ : ∃ z : PH, z = sI es 79 10 (.int (zI v7)) := ⟨_, rfl⟩
    have hs_es8 : sh es8 := by rw [e_es8]; exact sh_sI hs_es (p := 79) (b := 10) rfl rfl
    have hT_es8 : hOK tT es8 := by rw [e_es8]; exact hOK_sI hT_es (p := 79) (b := 10) (lo := iLO) (hi := iHI) rfl rfl (i32_rng _)
    rw [← e_es8]
    refine x0 (r := (28, [some (.ref 143), some (.int (zI a)), some (.int (zI v)), none, none], [.ref 143], es8)) i_174_27 rfl ?_
    refine x0 (r := (29, [some (.ref 143), some (.int (zI a)), some (.int (zI v)), none, none], [.int (zI v), .ref 143], es8)) i_174_28 rfl ?_
    refine x_ifT i_174_29 (by unfold i32 iLO iHI; omega) rfl (by simp only [zC, cR]; omega) ?_
    refine x0 (r := (43, [some (.ref 143), some (.int (zI a)), some (.int (zI v)), none, none], [.int (zI 1), .ref 143], es8)) i_174_42 (by rfl) ?_
    refine x0 (r := (47, [some (.ref 143), some (.int (zI a)), some (.int (zI v)), none, none], [.int (zI 1), .ref 143], es8)) i_174_43 rfl ?_
    refine x0 (r := (48, [some (.ref 143), some (.int (zI a)), some (.int (zI v)), none, none], [.int (zI 1), .int (zI 1), .ref 143], es8)) i_174_47 (by rfl) ?_
    refine x_call (vs := [.ref 143, .int (zI 1), .int (zI 1)]) (rs := []) i_174_48 rfl (fun _ => rfl) rfl rfl rfl rfl rfl (pCall_v (p := 79) hs_es8 rfl rfl rfl rfl rfl (by decide) rfl rfl rfl rfl rfl) ?_
    show aW _ _ _ _ _ _ (0, [some (.ref 143), some (.int (zI 1)), some (.int (zI 1))], [], es8)
    refine x0 (r := (1, [some (.ref 143), some (.int (zI 1)), some (.int (zI 1))], [.int (zI 1)], es8)) i_194_0 rfl ?_
    refine x_ifF i_194_1 (by unfold i32 iLO iHI; omega) rfl (by simp only [zC, cR]; omega) ?_
    refine x0 (r := (5, [some (.ref 143), some (.int (zI 1)), some (.int (zI 1))], [.ref 143], es8)) i_194_4 rfl ?_
    refine x0 (r := (6, [some (.ref 143), some (.int (zI 1)), some (.int (zI 1))], [.int (zI 1), .ref 143], es8)) i_194_5 rfl ?_
    refine x_puti (p := 79) (ty := .int) i_194_6 hs_es8 rfl rfl rfl (Or.inl rfl) ?_
    obtain ⟨es9, e_es9⟩ : ∃ z : PH, z = sI es8 79 0 (.int (zI 1)) := ⟨_, rfl⟩
    have hs_es9 : sh es9 := by rw [e_es9]; exact sh_sI hs_es8 (p := 79) (b := 0) rfl rfl
    have hT_es9 : hOK tT es9 := by rw [e_es9]; exact hOK_sI hT_es8 (p := 79) (b := 0) (lo := iLO) (hi := iHI) rfl rfl (i32_rng _)
    rw [← e_es9]
    refine x0 (r := (10, [some (.ref 143), some (.int (zI 1)), some (.int (zI 1))], [.int (zI 1)], es9)) i_194_9 rfl ?_
    refine x_ret (v := some (.int (zI 1))) i_194_10 rfl (fun _ => rfl) rfl rfl (pFin_b (by omega)) ?_
    show aW _ _ _ _ _ _ (51, [some (.ref 143), some (.int (zI a)), some (.int (zI v)), none, none], [.int (zI 1)], es9)
    refine x_ifT i_174_51 (by unfold i32 iLO iHI; omega) rfl (by simp only [zC, cR]; omega) ?_
    refine x0 (r := (78, [some (.ref 143), some (.int (zI a)), some (.int (zI v)), none, none], [.int (zI 0)], es9)) i_174_77 (by rfl) ?_
    refine x_ret (v := some (.int (zI 0))) i_174_78 rfl (fun _ => rfl) rfl rfl rfl ?_
    exact K4 c1 v7 e_v7 es8 e_es8 es9 e_es9
theorem s_mk54 {O : pOut} {d kc ks : Nat} {Q : pRes → Prop} {es : PH} {a v : Int} (hs_es : sh es) (hw : 0 ≤ (gA es 80 0).toInt ∧ (gA es 80 0).toInt ≤ 5) (hT_es : hOK tT es)
    (K1 : ∀ v1 : Int, v1 = (gA es 80 (Int.toNat 0)).toInt → v1 ≠ 5 → aW O (d + 1) 174 kc ks Q (79, [some (.ref 143), some (.int (zI a)), some (.int (zI v)), none, none], [], es))
    (K2 : ∀ v1 : Int, v1 = (gA es 80 (Int.toNat 0)).toInt → ¬ (v1 ≠ 5) → ∀ es3 : PH, es3 = sI es 79 0 (.int (zI 2)) → Q (.inl (some (.int (zI 0))), es3, kc, ks)) :
    aW O (d + 1) 174 kc ks Q (54, [some (.ref 143), some (.int (zI a)), some (.int (zI v)), none, none], [], es) := by
  refine x0 (r := (55, [some (.ref 143), some (.int (zI a)), some (.int (zI v)), none, none], [.ref 143], es)) i_174_54 rfl ?_
  refine x0 (r := (56, [some (.ref 143), some (.int (zI a)), some (.int (zI v)), none, none], [.ref 143, .ref 143], es)) i_174_55 rfl ?_
  refine x_getr (p := 79) (k := 144) i_174_56 hs_es rfl rfl ?_
  show aW _ _ _ _ _ _ (59, [some (.ref 143), some (.int (zI a)), some (.int (zI v)), none, none], [.ref 144, .ref 143], es)
  refine x0 (r := (60, [some (.ref 143), some (.int (zI a)), some (.int (zI v)), none, none], [.int (zI 0), .ref 144, .ref 143], es)) i_174_59 (by rfl) ?_
  refine x_iald (p := 80) i_174_60 hs_es rfl (by unfold i32 iLO iHI; omega) (by omega) (by omega) ?_
  obtain ⟨v1, e_v1⟩ : ∃ z : Int, z = (gA es 80 (Int.toNat 0)).toInt := ⟨_, rfl⟩
  rw [← e_v1]
  have r_v1 : iLO ≤ v1 ∧ v1 ≤ iHI := by rw [e_v1]; exact i32_rng _
  unfold iLO iHI at r_v1
  have b_v1 : (0 : Int) ≤ v1 ∧ v1 ≤ (5 : Int) := by rw [e_v1]; exact gA_bd hT_es (p := 80) (k := (Int.toNat 0)) rfl (by omega) (by decide)
  refine x0 (r := (62, [some (.ref 143), some (.int (zI a)), some (.int (zI v)), none, none], [.int (zI 5), .int (zI v1), .ref 143], es)) i_174_61 (by rfl) ?_
  by_cases c2 : v1 ≠ 5
  · refine x_cmpT i_174_62 (by unfold i32 iLO iHI; omega) (by unfold i32 iLO iHI; omega) rfl (by simp only [zC, cR]; omega) ?_
    refine x0 (r := (70, [some (.ref 143), some (.int (zI a)), some (.int (zI v)), none, none], [.int (zI 0), .ref 143], es)) i_174_69 (by rfl) ?_
    refine x0 (r := (71, [some (.ref 143), some (.int (zI a)), some (.int (zI v)), none, none], [.int (zI 2), .int (zI 0), .ref 143], es)) i_174_70 (by rfl) ?_
    refine x_call (vs := [.ref 143, .int (zI 0), .int (zI 2)]) (rs := []) i_174_71 rfl (fun _ => rfl) rfl rfl rfl rfl rfl (pCall_v (p := 79) hs_es rfl rfl rfl rfl rfl (by decide) rfl rfl rfl rfl rfl) ?_
    show aW _ _ _ _ _ _ (0, [some (.ref 143), some (.int (zI 0)), some (.int (zI 2))], [], es)
    refine x0 (r := (1, [some (.ref 143), some (.int (zI 0)), some (.int (zI 2))], [.int (zI 0)], es)) i_194_0 rfl ?_
    refine x_ifT i_194_1 (by unfold i32 iLO iHI; omega) rfl (by simp only [zC, cR]; omega) ?_
    refine x0 (r := (10, [some (.ref 143), some (.int (zI 0)), some (.int (zI 2))], [.int (zI 0)], es)) i_194_9 rfl ?_
    refine x_ret (v := some (.int (zI 0))) i_194_10 rfl (fun _ => rfl) rfl rfl (pFin_b (by omega)) ?_
    show aW _ _ _ _ _ _ (74, [some (.ref 143), some (.int (zI a)), some (.int (zI v)), none, none], [.int (zI 0)], es)
    refine x_ifT i_174_74 (by unfold i32 iLO iHI; omega) rfl (by simp only [zC, cR]; omega) ?_
    exact K1 v1 e_v1 c2
  · refine x_cmpF i_174_62 (by unfold i32 iLO iHI; omega) (by unfold i32 iLO iHI; omega) rfl (by simp only [zC, cR]; omega) ?_
    refine x0 (r := (66, [some (.ref 143), some (.int (zI a)), some (.int (zI v)), none, none], [.int (zI 1), .ref 143], es)) i_174_65 (by rfl) ?_
    refine x0 (r := (70, [some (.ref 143), some (.int (zI a)), some (.int (zI v)), none, none], [.int (zI 1), .ref 143], es)) i_174_66 rfl ?_
    refine x0 (r := (71, [some (.ref 143), some (.int (zI a)), some (.int (zI v)), none, none], [.int (zI 2), .int (zI 1), .ref 143], es)) i_174_70 (by rfl) ?_
    refine x_call (vs := [.ref 143, .int (zI 1), .int (zI 2)]) (rs := []) i_174_71 rfl (fun _ => rfl) rfl rfl rfl rfl rfl (pCall_v (p := 79) hs_es rfl rfl rfl rfl rfl (by decide) rfl rfl rfl rfl rfl) ?_
    show aW _ _ _ _ _ _ (0, [some (.ref 143), some (.int (zI 1)), some (.int (zI 2))], [], es)
    refine x0 (r := (1, [some (.ref 143), some (.int (zI 1)), some (.int (zI 2))], [.int (zI 1)], es)) i_194_0 rfl ?_
    refine x_ifF i_194_1 (by unfold i32 iLO iHI; omega) rfl (by simp only [zC, cR]; omega) ?_
    refine x0 (r := (5, [some (.ref 143), some (.int (zI 1)), some (.int (zI 2))], [.ref 143], es)) i_194_4 rfl ?_
    refine x0 (r := (6, [some (.ref 143), some (.int (zI 1)), some (.int (zI 2))], [.int (zI 2), .ref 143], es)) i_194_5 rfl ?_
    refine x_puti (p := 79) (ty := .int) i_194_6 hs_es rfl rfl rfl (Or.inl rfl) ?_
    obtain ⟨es3, e_es3⟩ : ∃ z : PH, z = sI es 79 0 (.int (zI 2)) := ⟨_, rfl⟩
    have hs_es3 : sh es3 := by rw [e_es3]; exact sh_sI hs_es (p := 79) (b := 0) rfl rfl
    have hT_es3 : hOK tT es3 := by rw [e_es3]; exact hOK_sI hT_es (p := 79) (b := 0) (lo := iLO) (hi := iHI) rfl rfl (i32_rng _)
    rw [← e_es3]
    refine x0 (r := (10, [some (.ref 143), some (.int (zI 1)), some (.int (zI 2))], [.int (zI 1)], es3)) i_194_9 rfl ?_
    refine x_ret (v := some (.int (zI 1))) i_194_10 rfl (fun _ => rfl) rfl rfl (pFin_b (by omega)) ?_
    show aW _ _ _ _ _ _ (74, [some (.ref 143), some (.int (zI a)), some (.int (zI v)), none, none], [.int (zI 1)], es3)
    refine x_ifF i_174_74 (by unfold i32 iLO iHI; omega) rfl (by simp only [zC, cR]; omega) ?_
    refine x0 (r := (78, [some (.ref 143), some (.int (zI a)), some (.int (zI v)), none, none], [.int (zI 0)], es3)) i_174_77 (by rfl) ?_
    refine x_ret (v := some (.int (zI 0))) i_174_78 rfl (fun _ => rfl) rfl rfl rfl ?_
    exact K2 v1 e_v1 c2 es3 e_es3
theorem s_mk79 {O : pOut} {d kc ks : Nat} {Q : pRes → Prop} {es : PH} {a v : Int} (hs_es : sh es) (hw : 0 ≤ (gA es 80 0).toInt ∧ (gA es 80 0).toInt ≤ 4) (hv : 0 ≤ v ∧ v ≤ 6) (hT_es : hOK tT es)
    (K1 : ∀ v1 : Int, v1 = (gA es 80 (Int.toNat 0)).toInt → ∀ es2 : PH, es2 = sA es 80 (49 + (14 * v1)).toNat (zI a) → ∀ es3 : PH, es3 = sA es2 80 ((49 + (14 * v1)) + 1).toNat (zI v) → aW O d 174 kc ks Q (111, [some (.ref 143), some (.int (zI a)), some (.int (zI v)), some (.int (zI (49 + (14 * v1)))), some (.int (zI 0))], [], es3)) :
    aW O d 174 kc ks Q (79, [some (.ref 143), some (.int (zI a)), some (.int (zI v)), none, none], [], es) := by
  refine x0 (r := (81, [some (.ref 143), some (.int (zI a)), some (.int (zI v)), none, none], [.int (zI 49)], es)) i_174_79 (by rfl) ?_
  refine x0 (r := (83, [some (.ref 143), some (.int (zI a)), some (.int (zI v)), none, none], [.int (zI 14), .int (zI 49)], es)) i_174_81 (by rfl) ?_
  refine x0 (r := (84, [some (.ref 143), some (.int (zI a)), some (.int (zI v)), none, none], [.ref 143, .int (zI 14), .int (zI 49)], es)) i_174_83 rfl ?_
  refine x_getr (p := 79) (k := 144) i_174_84 hs_es rfl rfl ?_
  show aW _ _ _ _ _ _ (87, [some (.ref 143), some (.int (zI a)), some (.int (zI v)), none, none], [.ref 144, .int (zI 14), .int (zI 49)], es)
  refine x0 (r := (88, [some (.ref 143), some (.int (zI a)), some (.int (zI v)), none, none], [.int (zI 0), .ref 144, .int (zI 14), .int (zI 49)], es)) i_174_87 (by rfl) ?_
  refine x_iald (p := 80) i_174_88 hs_es rfl (by unfold i32 iLO iHI; omega) (by omega) (by omega) ?_
  obtain ⟨v1, e_v1⟩ : ∃ z : Int, z = (gA es 80 (Int.toNat 0)).toInt := ⟨_, rfl⟩
  rw [← e_v1]
  have r_v1 : iLO ≤ v1 ∧ v1 ≤ iHI := by rw [e_v1]; exact i32_rng _
  unfold iLO iHI at r_v1
  have b_v1 : (0 : Int) ≤ v1 ∧ v1 ≤ (5 : Int) := by rw [e_v1]; exact gA_bd hT_es (p := 80) (k := (Int.toNat 0)) rfl (by omega) (by decide)
  refine x_imul i_174_89 ?_
  refine x_iadd i_174_90 ?_
  refine x0 (r := (92, [some (.ref 143), some (.int (zI a)), some (.int (zI v)), some (.int (zI (49 + (14 * v1)))), none], [], es)) i_174_91 rfl ?_
  refine x0 (r := (93, [some (.ref 143), some (.int (zI a)), some (.int (zI v)), some (.int (zI (49 + (14 * v1)))), none], [.ref 143], es)) i_174_92 rfl ?_
  refine x_getr (p := 79) (k := 144) i_174_93 hs_es rfl rfl ?_
  show aW _ _ _ _ _ _ (96, [some (.ref 143), some (.int (zI a)), some (.int (zI v)), some (.int (zI (49 + (14 * v1)))), none], [.ref 144], es)
  refine x0 (r := (97, [some (.ref 143), some (.int (zI a)), some (.int (zI v)), some (.int (zI (49 + (14 * v1)))), none], [.int (zI (49 + (14 * v1))), .ref 144], es)) i_174_96 rfl ?_
  refine x0 (r := (98, [some (.ref 143), some (.int (zI a)), some (.int (zI v)), some (.int (zI (49 + (14 * v1)))), none], [.int (zI a), .int (zI (49 + (14 * v1))), .ref 144], es)) i_174_97 rfl ?_
  refine x_iast (p := 80) i_174_98 hs_es rfl (by unfold i32 iLO iHI; omega) (by omega) (by omega) ?_
  obtain ⟨es2, e_es2⟩ : ∃ z : PH, z = sA es 80 (49 + (14 * v1)).toNat (zI a) := ⟨_, rfl⟩
  have hs_es2 : sh es2 := by rw [e_es2]; exact sh_sA hs_es
  rw [← e_es2]
  refine x0 (r := (100, [some (.ref 143), some (.int (zI a)), some (.int (zI v)), some (.int (zI (49 + (14 * v1)))), none], [.ref 143], es2)) i_174_99 rfl ?_
  refine x_getr (p := 79) (k := 144) i_174_100 hs_es2 rfl rfl ?_
  show aW _ _ _ _ _ _ (103, [some (.ref 143), some (.int (zI a)), some (.int (zI v)), some (.int (zI (49 + (14 * v1)))), none], [.ref 144], es2)
  refine x0 (r := (104, [some (.ref 143), some (.int (zI a)), some (.int (zI v)), some (.int (zI (49 + (14 * v1)))), none], [.int (zI (49 + (14 * v1))), .ref 144], es2)) i_174_103 rfl ?_
  refine x0 (r := (105, [some (.ref 143), some (.int (zI a)), some (.int (zI v)), some (.int (zI (49 + (14 * v1)))), none], [.int (zI 1), .int (zI (49 + (14 * v1))), .ref 144], es2)) i_174_104 (by rfl) ?_
  refine x_iadd i_174_105 ?_
  refine x0 (r := (107, [some (.ref 143), some (.int (zI a)), some (.int (zI v)), some (.int (zI (49 + (14 * v1)))), none], [.int (zI v), .int (zI ((49 + (14 * v1)) + 1)), .ref 144], es2)) i_174_106 rfl ?_
  refine x_iast (p := 80) i_174_107 hs_es2 rfl (by unfold i32 iLO iHI; omega) (by omega) (by omega) ?_
  obtain ⟨es3, e_es3⟩ : ∃ z : PH, z = sA es2 80 ((49 + (14 * v1)) + 1).toNat (zI v) := ⟨_, rfl⟩
  have hs_es3 : sh es3 := by rw [e_es3]; exact sh_sA hs_es2
  rw [← e_es3]
  refine x0 (r := (109, [some (.ref 143), some (.int (zI a)), some (.int (zI v)), some (.int (zI (49 + (14 * v1)))), none], [.int (zI 0)], es3)) i_174_108 (by rfl) ?_
  refine x0 (r := (111, [some (.ref 143), some (.int (zI a)), some (.int (zI v)), some (.int (zI (49 + (14 * v1)))), some (.int (zI 0))], [], es3)) i_174_109 rfl ?_
  exact K1 v1 e_v1 es2 e_es2 es3 e_es3
theorem s_mk111 {O : pOut} {d kc ks : Nat} {Q : pRes → Prop} {es : PH} {a v t k : Int} (hs_es : sh es) (hv : 0 ≤ v ∧ v ≤ 6) (hk : 0 ≤ k ∧ k ≤ 12) (hq : 49 ≤ t ∧ t ≤ 105)
    (K1 : (2 * v) ≤ k → ∀ v2 : Int, v2 = (gA es 80 (Int.toNat 0)).toInt → ∀ es3 : PH, es3 = sA es 80 (Int.toNat 0) (zI (v2 + 1)) → ∀ v4 : Int, v4 = (gA es3 80 (Int.toNat 0)).toInt → Q (.inl (some (.int (zI (v4 - 1)))), es3, kc, ks))
    (K2 : ¬ ((2 * v) ≤ k) → ∀ v5 : Int, v5 = (gA es 84 k.toNat).toInt → ∀ es6 : PH, es6 = sA es 80 ((t + 2) + k).toNat (zI v5) → aW O d 174 kc ks Q (111, [some (.ref 143), some (.int (zI a)), some (.int (zI v)), some (.int (zI t)), some (.int (zI (k + 1)))], [], es6)) :
    aW O d 174 kc ks Q (111, [some (.ref 143), some (.int (zI a)), some (.int (zI v)), some (.int (zI t)), some (.int (zI k))], [], es) := by
  refine x0 (r := (113, [some (.ref 143), some (.int (zI a)), some (.int (zI v)), some (.int (zI t)), some (.int (zI k))], [.int (zI k)], es)) i_174_111 rfl ?_
  refine x0 (r := (114, [some (.ref 143), some (.int (zI a)), some (.int (zI v)), some (.int (zI t)), some (.int (zI k))], [.int (zI 2), .int (zI k)], es)) i_174_113 (by rfl) ?_
  refine x0 (r := (115, [some (.ref 143), some (.int (zI a)), some (.int (zI v)), some (.int (zI t)), some (.int (zI k))], [.int (zI v), .int (zI 2), .int (zI k)], es)) i_174_114 rfl ?_
  refine x_imul i_174_115 ?_
  by_cases c1 : (2 * v) ≤ k
  · refine x_cmpT i_174_116 (by unfold i32 iLO iHI; omega) (by unfold i32 iLO iHI; omega) rfl (by simp only [zC, cR]; omega) ?_
    refine x0 (r := (144, [some (.ref 143), some (.int (zI a)), some (.int (zI v)), some (.int (zI t)), some (.int (zI k))], [.ref 143], es)) i_174_143 rfl ?_
    refine x_getr (p := 79) (k := 144) i_174_144 hs_es rfl rfl ?_
    show aW _ _ _ _ _ _ (147, [some (.ref 143), some (.int (zI a)), some (.int (zI v)), some (.int (zI t)), some (.int (zI k))], [.ref 144], es)
    refine x0 (r := (148, [some (.ref 143), some (.int (zI a)), some (.int (zI v)), some (.int (zI t)), some (.int (zI k))], [.int (zI 0), .ref 144], es)) i_174_147 (by rfl) ?_
    refine x0 (r := (149, [some (.ref 143), some (.int (zI a)), some (.int (zI v)), some (.int (zI t)), some (.int (zI k))], [.int (zI 0), .ref 144, .int (zI 0), .ref 144], es)) i_174_148 rfl ?_
    refine x_iald (p := 80) i_174_149 hs_es rfl (by unfold i32 iLO iHI; omega) (by omega) (by omega) ?_
    obtain ⟨v2, e_v2⟩ : ∃ z : Int, z = (gA es 80 (Int.toNat 0)).toInt := ⟨_, rfl⟩
    rw [← e_v2]
    have r_v2 : iLO ≤ v2 ∧ v2 ≤ iHI := by rw [e_v2]; exact i32_rng _
    unfold iLO iHI at r_v2
    refine x0 (r := (151, [some (.ref 143), some (.int (zI a)), some (.int (zI v)), some (.int (zI t)), some (.int (zI k))], [.int (zI 1), .int (zI v2), .int (zI 0), .ref 144], es)) i_174_150 (by rfl) ?_
    refine x_iadd i_174_151 ?_
    refine x_iast (p := 80) i_174_152 hs_es rfl (by unfold i32 iLO iHI; omega) (by omega) (by omega) ?_
    obtain ⟨es3, e_es3⟩ : ∃ z : PH, z = sA es 80 (Int.toNat 0) (zI (v2 + 1)) := ⟨_, rfl⟩
    have hs_es3 : sh es3 := by rw [e_es3]; exact sh_sA hs_es
    rw [← e_es3]
    refine x0 (r := (154, [some (.ref 143), some (.int (zI a)), some (.int (zI v)), some (.int (zI t)), some (.int (zI k))], [.ref 143], es3)) i_174_153 rfl ?_
    refine x_getr (p := 79) (k := 144) i_174_154 hs_es3 rfl rfl ?_
    show aW _ _ _ _ _ _ (157, [some (.ref 143), some (.int (zI a)), some (.int (zI v)), some (.int (zI t)), some (.int (zI k))], [.ref 144], es3)
    refine x0 (r := (158, [some (.ref 143), some (.int (zI a)), some (.int (zI v)), some (.int (zI t)), some (.int (zI k))], [.int (zI 0), .ref 144], es3)) i_174_157 (by rfl) ?_
    refine x_iald (p := 80) i_174_158 hs_es3 rfl (by unfold i32 iLO iHI; omega) (by omega) (by omega) ?_
    obtain ⟨v4, e_v4⟩ : ∃ z : Int, z = (gA es3 80 (Int.toNat 0)).toInt := ⟨_, rfl⟩
    rw [← e_v4]
    have r_v4 : iLO ≤ v4 ∧ v4 ≤ iHI := by rw [e_v4]; exact i32_rng _
    unfold iLO iHI at r_v4
    refine x0 (r := (160, [some (.ref 143), some (.int (zI a)), some (.int (zI v)), some (.int (zI t)), some (.int (zI k))], [.int (zI 1), .int (zI v4)], es3)) i_174_159 (by rfl) ?_
    refine x_isub i_174_160 ?_
    refine x_ret (v := some (.int (zI (v4 - 1)))) i_174_161 rfl (fun _ => rfl) rfl rfl rfl ?_
    exact K1 c1 v2 e_v2 es3 e_es3 v4 e_v4
  · refine x_cmpF i_174_116 (by unfold i32 iLO iHI; omega) (by unfold i32 iLO iHI; omega) rfl (by simp only [zC, cR]; omega) ?_
    refine x0 (r := (120, [some (.ref 143), some (.int (zI a)), some (.int (zI v)), some (.int (zI t)), some (.int (zI k))], [.ref 143], es)) i_174_119 rfl ?_
    refine x_getr (p := 79) (k := 144) i_174_120 hs_es rfl rfl ?_
    show aW _ _ _ _ _ _ (123, [some (.ref 143), some (.int (zI a)), some (.int (zI v)), some (.int (zI t)), some (.int (zI k))], [.ref 144], es)
    refine x0 (r := (124, [some (.ref 143), some (.int (zI a)), some (.int (zI v)), some (.int (zI t)), some (.int (zI k))], [.int (zI t), .ref 144], es)) i_174_123 rfl ?_
    refine x0 (r := (125, [some (.ref 143), some (.int (zI a)), some (.int (zI v)), some (.int (zI t)), some (.int (zI k))], [.int (zI 2), .int (zI t), .ref 144], es)) i_174_124 (by rfl) ?_
    refine x_iadd i_174_125 ?_
    refine x0 (r := (128, [some (.ref 143), some (.int (zI a)), some (.int (zI v)), some (.int (zI t)), some (.int (zI k))], [.int (zI k), .int (zI (t + 2)), .ref 144], es)) i_174_126 rfl ?_
    refine x_iadd i_174_128 ?_
    refine x0 (r := (130, [some (.ref 143), some (.int (zI a)), some (.int (zI v)), some (.int (zI t)), some (.int (zI k))], [.ref 143, .int (zI ((t + 2) + k)), .ref 144], es)) i_174_129 rfl ?_
    refine x_getr (p := 79) (k := 148) i_174_130 hs_es rfl rfl ?_
    show aW _ _ _ _ _ _ (133, [some (.ref 143), some (.int (zI a)), some (.int (zI v)), some (.int (zI t)), some (.int (zI k))], [.ref 148, .int (zI ((t + 2) + k)), .ref 144], es)
    refine x0 (r := (135, [some (.ref 143), some (.int (zI a)), some (.int (zI v)), some (.int (zI t)), some (.int (zI k))], [.int (zI k), .ref 148, .int (zI ((t + 2) + k)), .ref 144], es)) i_174_133 rfl ?_
    refine x_iald (p := 84) i_174_135 hs_es rfl (by unfold i32 iLO iHI; omega) (by omega) (by omega) ?_
    obtain ⟨v5, e_v5⟩ : ∃ z : Int, z = (gA es 84 k.toNat).toInt := ⟨_, rfl⟩
    rw [← e_v5]
    have r_v5 : iLO ≤ v5 ∧ v5 ≤ iHI := by rw [e_v5]; exact i32_rng _
    unfold iLO iHI at r_v5
    refine x_iast (p := 80) i_174_136 hs_es rfl (by unfold i32 iLO iHI; omega) (by omega) (by omega) ?_
    obtain ⟨es6, e_es6⟩ : ∃ z : PH, z = sA es 80 ((t + 2) + k).toNat (zI v5) := ⟨_, rfl⟩
    have hs_es6 : sh es6 := by rw [e_es6]; exact sh_sA hs_es
    rw [← e_es6]
    refine x_iinc (x := k) i_174_137 rfl (by show 4 < 5; decide) ?_
    show aW _ _ _ _ _ _ (140, [some (.ref 143), some (.int (zI a)), some (.int (zI v)), some (.int (zI t)), some (.int (zI (k + 1)))], [], es6)
    refine x0 (r := (111, [some (.ref 143), some (.int (zI a)), some (.int (zI v)), some (.int (zI t)), some (.int (zI (k + 1)))], [], es6)) i_174_140 rfl ?_
    exact K2 c1 v5 e_v5 es6 e_es6
theorem s_yk0 {O : pOut} {d kc ks : Nat} {Q : pRes → Prop} {es : PH} {a : Int} (hs_es : sh es) (hT_es : hOK tT es)
    (K1 : aW O d 277 kc ks Q (4, [some (.ref 64), some (.int (zI a)), some (.ref 171), none], [.int (zI a), .ref 64, .int (zI 0), .ref 171], es)) :
    aW O d 277 kc ks Q (0, [some (.ref 64), some (.int (zI a)), some (.ref 171), none], [], es) := by
  refine x0 (r := (1, [some (.ref 64), some (.int (zI a)), some (.ref 171), none], [.ref 171], es)) i_277_0 rfl ?_
  refine x0 (r := (2, [some (.ref 64), some (.int (zI a)), some (.ref 171), none], [.int (zI 0), .ref 171], es)) i_277_1 (by rfl) ?_
  refine x0 (r := (3, [some (.ref 64), some (.int (zI a)), some (.ref 171), none], [.ref 64, .int (zI 0), .ref 171], es)) i_277_2 rfl ?_
  refine x0 (r := (4, [some (.ref 64), some (.int (zI a)), some (.ref 171), none], [.int (zI a), .ref 64, .int (zI 0), .ref 171], es)) i_277_3 rfl ?_
  exact K1
theorem s_yk7 {O : pOut} {d kc ks : Nat} {Q : pRes → Prop} {es : PH} {a v : Int} (hs_es : sh es) (hT_es : hOK tT es)
    (K1 : ∀ es1 : PH, es1 = sJ es 107 (Int.toNat 0) ((zI v).toInt64) → Q (.inl (some (.int (zI 0))), es1, kc, ks)) :
    aW O d 277 kc ks Q (7, [some (.ref 64), some (.int (zI a)), some (.ref 171), none], [.int (zI v), .int (zI 0), .ref 171], es) := by
  refine x0 (r := (8, [some (.ref 64), some (.int (zI a)), some (.ref 171), none], [.long ((zI v).toInt64), .int (zI 0), .ref 171], es)) i_277_7 rfl ?_
  refine x_last (p := 107) i_277_8 hs_es rfl (by unfold i32 iLO iHI; omega) (by omega) (by omega) ?_
  obtain ⟨es1, e_es1⟩ : ∃ z : PH, z = sJ es 107 (Int.toNat 0) ((zI v).toInt64) := ⟨_, rfl⟩
  have hs_es1 : sh es1 := by rw [e_es1]; exact sh_sJ hs_es
  have hT_es1 : hOK tT es1 := by rw [e_es1]; exact hOK_sJ hT_es
  rw [← e_es1]
  refine x0 (r := (18, [some (.ref 64), some (.int (zI a)), some (.ref 171), none], [], es1)) i_277_9 rfl ?_
  refine x0 (r := (19, [some (.ref 64), some (.int (zI a)), some (.ref 171), none], [.int (zI 0)], es1)) i_277_18 (by rfl) ?_
  refine x_ret (v := some (.int (zI 0))) i_277_19 rfl (fun _ => rfl) rfl rfl rfl ?_
  exact K1 es1 e_es1
theorem s_yk13 {O : pOut} {d kc ks : Nat} {Q : pRes → Prop} {es : PH} {a : Int} (hs_es : sh es) (hT_es : hOK tT es)
    (K1 : Q (.inl (some (.int (zI 1))), es, kc, ks)) :
    aW O d 277 kc ks Q (13, [some (.ref 64), some (.int (zI a)), some (.ref 171), none], [], es) := by
  refine x0 (r := (14, [some (.ref 64), some (.int (zI a)), some (.ref 171), none], [.int (zI 1)], es)) i_277_13 (by rfl) ?_
  refine x_ret (v := some (.int (zI 1))) i_277_14 rfl (fun _ => rfl) rfl rfl rfl ?_
  exact K1
theorem s_yk16 {O : pOut} {d kc ks : Nat} {Q : pRes → Prop} {es : PH} {a : Int} (hs_es : sh es) (hT_es : hOK tT es)
    (K1 : Q (.inl (some (.int (zI 2))), es, kc, ks)) :
    aW O d 277 kc ks Q (16, [some (.ref 64), some (.int (zI a)), some (.ref 171), none], [], es) := by
  refine x0 (r := (17, [some (.ref 64), some (.int (zI a)), some (.ref 171), none], [.int (zI 2)], es)) i_277_16 (by rfl) ?_
  refine x_ret (v := some (.int (zI 2))) i_277_17 rfl (fun _ => rfl) rfl rfl rfl ?_
  exact K1
theorem s_akk0 {O : pOut} {d kc ks : Nat} {Q : pRes → Prop} {es : PH} {a : Int} (hs_es : sh es) (hn : 0 ≤ (gI es 7 0).toInt ∧ (gI es 7 0).toInt ≤ 4) (hT_es : hOK tT es)
    (K1 : ∀ v1 : Int, v1 = (gI es 7 0).toInt → ∀ es2 : PH, stP 8 v1 a es es2 → aW O (d + 1) 98 kc ks Q (16, [some (.ref 71), some (.int (zI a)), some (.ref 67), none], [.ref 73], es2)) :
    aW O (d + 1) 98 kc ks Q (0, [some (.ref 71), some (.int (zI a)), some (.ref 67), none], [], es) := by
  refine x0 (r := (1, [some (.ref 71), some (.int (zI a)), some (.ref 67), none], [.ref 71], es)) i_98_0 rfl ?_
  refine x_getr (p := 7) (k := 72) i_98_1 hs_es rfl rfl ?_
  show aW _ _ _ _ _ _ (4, [some (.ref 71), some (.int (zI a)), some (.ref 67), none], [.ref 72], es)
  refine x0 (r := (5, [some (.ref 71), some (.int (zI a)), some (.ref 67), none], [.ref 71, .ref 72], es)) i_98_4 rfl ?_
  refine x_geti (p := 7) i_98_5 hs_es rfl rfl ?_
  obtain ⟨v1, e_v1⟩ : ∃ z : Int, z = (gI es 7 0).toInt := ⟨_, rfl⟩
  rw [← e_v1]
  have r_v1 : iLO ≤ v1 ∧ v1 ≤ iHI := by rw [e_v1]; exact i32_rng _
  unfold iLO iHI at r_v1
  refine x0 (r := (9, [some (.ref 71), some (.int (zI a)), some (.ref 67), none], [.int (zI a), .int (zI v1), .ref 72], es)) i_98_8 rfl ?_
  refine x_call (vs := [.ref 72, .int (zI v1), .int (zI a)]) (rs := []) i_98_9 rfl (fun _ => rfl) rfl rfl rfl rfl rfl rfl ?_
  show aW _ _ _ _ _ _ (0, [some (.ref 72), some (.int (zI v1)), some (.int (zI a))], [], es)
  refine set_sp (p := 8) rfl hs_es hT_es (fun _ => ⟨Int.le_refl _, Int.le_refl _⟩) (by omega) (by omega) (by decide) (fun es2 p_es2 => ?_)
  have hs_es2 : sh es2 := p_es2.1
  have hT_es2 : hOK tT es2 := p_es2.2.1
  show aW _ _ _ _ _ _ (12, [some (.ref 71), some (.int (zI a)), some (.ref 67), none], [], es2)
  refine x0 (r := (13, [some (.ref 71), some (.int (zI a)), some (.ref 67), none], [.ref 71], es2)) i_98_12 rfl ?_
  refine x_getr (p := 7) (k := 73) i_98_13 hs_es2 rfl rfl ?_
  show aW _ _ _ _ _ _ (16, [some (.ref 71), some (.int (zI a)), some (.ref 67), none], [.ref 73], es2)
  exact K1 v1 e_v1 es2 p_es2
theorem s_akk16 {O : pOut} {d kc ks : Nat} {Q : pRes → Prop} {es : PH} {a : Int} (hs_es : sh es) (hn : 0 ≤ (gI es 7 0).toInt ∧ (gI es 7 0).toInt ≤ 4) (hT_es : hOK tT es)
    (K1 : ∀ v1 : Int, v1 = (gI es 7 0).toInt → ∀ v2 : Int, v2 = (gI es 3 3).toInt → ∀ es3 : PH, stP 9 v1 v2 es es3 → aW O (d + 1) 98 kc ks Q (29, [some (.ref 71), some (.int (zI a)), some (.ref 67), some (.int (zI 0))], [], es3)) :
    aW O (d + 1) 98 kc ks Q (16, [some (.ref 71), some (.int (zI a)), some (.ref 67), none], [.ref 73], es) := by
  refine x0 (r := (17, [some (.ref 71), some (.int (zI a)), some (.ref 67), none], [.ref 71, .ref 73], es)) i_98_16 rfl ?_
  refine x_geti (p := 7) i_98_17 hs_es rfl rfl ?_
  obtain ⟨v1, e_v1⟩ : ∃ z : Int, z = (gI es 7 0).toInt := ⟨_, rfl⟩
  rw [← e_v1]
  have r_v1 : iLO ≤ v1 ∧ v1 ≤ iHI := by rw [e_v1]; exact i32_rng _
  unfold iLO iHI at r_v1
  refine x0 (r := (21, [some (.ref 71), some (.int (zI a)), some (.ref 67), none], [.ref 67, .int (zI v1), .ref 73], es)) i_98_20 rfl ?_
  refine x_geti (p := 3) i_98_21 hs_es rfl rfl ?_
  obtain ⟨v2, e_v2⟩ : ∃ z : Int, z = (gI es 3 3).toInt := ⟨_, rfl⟩
  rw [← e_v2]
  have r_v2 : iLO ≤ v2 ∧ v2 ≤ iHI := by rw [e_v2]; exact i32_rng _
  unfold iLO iHI at r_v2
  refine x_call (vs := [.ref 73, .int (zI v1), .int (zI v2)]) (rs := []) i_98_24 rfl (fun _ => rfl) rfl rfl rfl rfl rfl rfl ?_
  show aW _ _ _ _ _ _ (0, [some (.ref 73), some (.int (zI v1)), some (.int (zI v2))], [], es)
  refine set_sp (p := 9) rfl hs_es hT_es (fun _ => ⟨Int.le_refl _, Int.le_refl _⟩) (by omega) (by omega) (by decide) (fun es3 p_es3 => ?_)
  have hs_es3 : sh es3 := p_es3.1
  have hT_es3 : hOK tT es3 := p_es3.2.1
  show aW _ _ _ _ _ _ (27, [some (.ref 71), some (.int (zI a)), some (.ref 67), none], [], es3)
  refine x0 (r := (28, [some (.ref 71), some (.int (zI a)), some (.ref 67), none], [.int (zI 0)], es3)) i_98_27 (by rfl) ?_
  refine x0 (r := (29, [some (.ref 71), some (.int (zI a)), some (.ref 67), some (.int (zI 0))], [], es3)) i_98_28 rfl ?_
  exact K1 v1 e_v1 v2 e_v2 es3 p_es3
theorem s_akk29 {O : pOut} {d kc ks : Nat} {Q : pRes → Prop} {es : PH} {a k : Int} (hs_es : sh es) (hk : 0 ≤ k ∧ k ≤ 12) (hn : 0 ≤ (gI es 7 0).toInt ∧ (gI es 7 0).toInt ≤ 4) (hT_es : hOK tT es)
    (K1 : 12 ≤ k → ∀ v2 : Int, v2 = (gI es 7 0).toInt → ∀ es3 : PH, es3 = sI es 7 0 (.int (zI (v2 + 1))) → Q (.inl (none), es3, kc, ks))
    (K2 : ¬ (12 ≤ k) → ∀ v4 : Int, v4 = (gI es 7 0).toInt → ∀ v5 : Int, atP 4 k es v5 → ∀ es6 : PH, stP 10 (((v4 * 6) * 2) + k) v5 es es6 → aW O (d + 1) 98 kc ks Q (29, [some (.ref 71), some (.int (zI a)), some (.ref 67), some (.int (zI (k + 1)))], [], es6)) :
    aW O (d + 1) 98 kc ks Q (29, [some (.ref 71), some (.int (zI a)), some (.ref 67), some (.int (zI k))], [], es) := by
  refine x0 (r := (30, [some (.ref 71), some (.int (zI a)), some (.ref 67), some (.int (zI k))], [.int (zI k)], es)) i_98_29 rfl ?_
  refine x0 (r := (32, [some (.ref 71), some (.int (zI a)), some (.ref 67), some (.int (zI k))], [.int (zI 12), .int (zI k)], es)) i_98_30 (by rfl) ?_
  by_cases c1 : 12 ≤ k
  · refine x_cmpT i_98_32 (by unfold i32 iLO iHI; omega) (by unfold i32 iLO iHI; omega) rfl (by simp only [zC, cR]; omega) ?_
    refine x0 (r := (68, [some (.ref 71), some (.int (zI a)), some (.ref 67), some (.int (zI k))], [.ref 71], es)) i_98_67 rfl ?_
    refine x0 (r := (69, [some (.ref 71), some (.int (zI a)), some (.ref 67), some (.int (zI k))], [.ref 71, .ref 71], es)) i_98_68 rfl ?_
    refine x_geti (p := 7) i_98_69 hs_es rfl rfl ?_
    obtain ⟨v2, e_v2⟩ : ∃ z : Int, z = (gI es 7 0).toInt := ⟨_, rfl⟩
    rw [← e_v2]
    have r_v2 : iLO ≤ v2 ∧ v2 ≤ iHI := by rw [e_v2]; exact i32_rng _
    unfold iLO iHI at r_v2
    refine x0 (r := (73, [some (.ref 71), some (.int (zI a)), some (.ref 67), some (.int (zI k))], [.int (zI 1), .int (zI v2), .ref 71], es)) i_98_72 (by rfl) ?_
    refine x_iadd i_98_73 ?_
    refine x_puti (p := 7) (ty := .int) i_98_74 hs_es rfl rfl rfl (Or.inl rfl) ?_
    obtain ⟨es3, e_es3⟩ : ∃ z : PH, z = sI es 7 0 (.int (zI (v2 + 1))) := ⟨_, rfl⟩
    have hs_es3 : sh es3 := by rw [e_es3]; exact sh_sI hs_es (p := 7) (b := 0) rfl rfl
    have hT_es3 : hOK tT es3 := by rw [e_es3]; exact hOK_sI hT_es (p := 7) (b := 0) (lo := iLO) (hi := iHI) rfl rfl (i32_rng _)
    rw [← e_es3]
    refine x_ret (v := none) i_98_77 rfl (fun _ => rfl) rfl rfl rfl ?_
    exact K1 c1 v2 e_v2 es3 e_es3
  · refine x_cmpF i_98_32 (by unfold i32 iLO iHI; omega) (by unfold i32 iLO iHI; omega) rfl (by simp only [zC, cR]; omega) ?_
    refine x0 (r := (36, [some (.ref 71), some (.int (zI a)), some (.ref 67), some (.int (zI k))], [.ref 71], es)) i_98_35 rfl ?_
    refine x_getr (p := 7) (k := 74) i_98_36 hs_es rfl rfl ?_
    show aW _ _ _ _ _ _ (39, [some (.ref 71), some (.int (zI a)), some (.ref 67), some (.int (zI k))], [.ref 74], es)
    refine x0 (r := (40, [some (.ref 71), some (.int (zI a)), some (.ref 67), some (.int (zI k))], [.ref 71, .ref 74], es)) i_98_39 rfl ?_
    refine x_geti (p := 7) i_98_40 hs_es rfl rfl ?_
    obtain ⟨v4, e_v4⟩ : ∃ z : Int, z = (gI es 7 0).toInt := ⟨_, rfl⟩
    rw [← e_v4]
    have r_v4 : iLO ≤ v4 ∧ v4 ≤ iHI := by rw [e_v4]; exact i32_rng _
    unfold iLO iHI at r_v4
    refine x0 (r := (45, [some (.ref 71), some (.int (zI a)), some (.ref 67), some (.int (zI k))], [.int (zI 6), .int (zI v4), .ref 74], es)) i_98_43 (by rfl) ?_
    refine x_imul i_98_45 ?_
    refine x0 (r := (47, [some (.ref 71), some (.int (zI a)), some (.ref 67), some (.int (zI k))], [.int (zI 2), .int (zI (v4 * 6)), .ref 74], es)) i_98_46 (by rfl) ?_
    refine x_imul i_98_47 ?_
    refine x0 (r := (49, [some (.ref 71), some (.int (zI a)), some (.ref 67), some (.int (zI k))], [.int (zI k), .int (zI ((v4 * 6) * 2)), .ref 74], es)) i_98_48 rfl ?_
    refine x_iadd i_98_49 ?_
    refine x0 (r := (51, [some (.ref 71), some (.int (zI a)), some (.ref 67), some (.int (zI k))], [.ref 67, .int (zI (((v4 * 6) * 2) + k)), .ref 74], es)) i_98_50 rfl ?_
    refine x_getr (p := 3) (k := 68) i_98_51 hs_es rfl rfl ?_
    show aW _ _ _ _ _ _ (54, [some (.ref 71), some (.int (zI a)), some (.ref 67), some (.int (zI k))], [.ref 68, .int (zI (((v4 * 6) * 2) + k)), .ref 74], es)
    refine x0 (r := (55, [some (.ref 71), some (.int (zI a)), some (.ref 67), some (.int (zI k))], [.int (zI k), .ref 68, .int (zI (((v4 * 6) * 2) + k)), .ref 74], es)) i_98_54 rfl ?_
    refine x_call (vs := [.ref 68, .int (zI k)]) (rs := [.int (zI (((v4 * 6) * 2) + k)), .ref 74]) i_98_55 rfl (fun _ => rfl) rfl rfl rfl rfl rfl rfl ?_
    show aW _ _ _ _ _ _ (0, [some (.ref 68), some (.int (zI k))], [], es)
    refine at_sp (p := 4) rfl hs_es (by omega) (by omega) (by decide) (fun v5 p_v5 => ?_)
    have r_v5 := atP_rng p_v5
    show aW _ _ _ _ _ _ (58, [some (.ref 71), some (.int (zI a)), some (.ref 67), some (.int (zI k))], [.int (zI v5), .int (zI (((v4 * 6) * 2) + k)), .ref 74], es)
    refine x_call (vs := [.ref 74, .int (zI (((v4 * 6) * 2) + k)), .int (zI v5)]) (rs := []) i_98_58 rfl (fun _ => rfl) rfl rfl rfl rfl rfl rfl ?_
    show aW _ _ _ _ _ _ (0, [some (.ref 74), some (.int (zI (((v4 * 6) * 2) + k))), some (.int (zI v5))], [], es)
    refine set_sp (p := 10) rfl hs_es hT_es (fun _ => ⟨Int.le_refl _, Int.le_refl _⟩) (by omega) (by omega) (by decide) (fun es6 p_es6 => ?_)
    have hs_es6 : sh es6 := p_es6.1
    have hT_es6 : hOK tT es6 := p_es6.2.1
    show aW _ _ _ _ _ _ (61, [some (.ref 71), some (.int (zI a)), some (.ref 67), some (.int (zI k))], [], es6)
    refine x_iinc (x := k) i_98_61 rfl (by show 3 < 4; decide) ?_
    show aW _ _ _ _ _ _ (64, [some (.ref 71), some (.int (zI a)), some (.ref 67), some (.int (zI (k + 1)))], [], es6)
    refine x0 (r := (29, [some (.ref 71), some (.int (zI a)), some (.ref 67), some (.int (zI (k + 1)))], [], es6)) i_98_64 rfl ?_
    exact K2 c1 v4 e_v4 v5 p_v5 es6 p_es6
section
variable {O : pOut} {d kc ks : Nat} {Q : pRes → Prop} {es : PH} {R : Nat → Int32} {n : Nat}
theorem ak_loop {a w : Int} (hw : i32 (w + 1)) (K : ∀ es', hOK tT es' → (gI es' 7 0).toInt = w + 1 → gI es' 1 1 = gI es 1 1 → Q (.inl none, es', kc, ks)) : ∀ (N : Nat) (k : Int) (es1 : PH), 12 - k < (N : Int) → 0 ≤ k → k ≤ 12 → hOK tT es1 → (gI es1 7 0).toInt = w → gI es1 1 1 = gI es 1 1 → aW O (d + 1) 98 kc ks Q (29, [some (.ref 71), some (.int (zI a)), some (.ref 67), some (.int (zI k))], [], es1) := by
  intro N
  induction N with
  | zero => intro k es1 h; omega
  | succ N ih =>
    intro k es1 hN h0 h12 hT hw1 h11
    apply s_ak29 (d := d) (sh_of hT) ⟨h0, h12⟩ hT
    · intro h1 v2 e2 es3 e3
      refine K es3 (by rw [e3]; exact hOK_sI hT (p := 7) (b := 0) (lo := iLO) (hi := iHI) rfl rfl (i32_rng _)) ?_ ?_
      · rw [e3, gI_sI (sh_of hT) (p := 7) (b := 0) rfl (by decide), e2, hw1, zI_toInt hw]
      · rw [e3, gI_sI_ne (Or.inl (by decide))]; exact h11
    · intros
      rename_i es6 p6
      exact ih (k + 1) es6 (by omega) (by omega) (by omega) p6.2.1 (by rw [p6.2.2.1]; exact hw1) (by rw [p6.2.2.1]; exact h11)
theorem ak_spec {a w : Int} (hw : i32 (w + 1)) (hT : hOK tT es) (h7 : (gI es 7 0).toInt = w) (K : ∀ es', hOK tT es' → (gI es' 7 0).toInt = w + 1 → gI es' 1 1 = gI es 1 1 → Q (.inl none, es', kc, ks)) : aW O (d + 1) 98 kc ks Q (0, [some (.ref 71), some (.int (zI a)), some (.ref 67), none], [], es) :=
  s_ak0 (d := d) (sh_of hT) hT (fun v1 e1 es2 p2 v3 e3 v4 e4 es5 p5 => ak_loop hw K 13 0 es5 (by omega) (by omega) (by omega) p5.2.1 (by rw [p5.2.2.1, p2.2.2.1]; exact h7) (by rw [p5.2.2.1, p2.2.2.1]))
end
/-- when KIND is refused for its text or its value -/
def badK (R : Nat → Int32) (n : Nat) (a : Int) : Prop := ¬ ((zKt (zR R) n).2.isSome = true ∧ 0 ≤ a ∧ a ≤ 20)
def rdP (R : Nat → Int32) (n : Nat) (r : Option Value ⊕ Nat) (es1 : PH) : Prop := hOK tT es1 ∧ ((r = .inl (some (.int (zI 0))) ∧ (zKt (zR R) n).2 = none ∧ (gI es1 3 4).toInt = ((zKt (zR R) n).1 : Nat)) ∨ (r = .inl (some (.int (zI 1))) ∧ (zKt (zR R) n).2.isSome = true ∧ (gI es1 3 4).toInt = -1))
theorem fr_reads {xs : Nat → Int32} {N d : Nat} {es : PH} {a : Int} (hN : N ≤ 3584) (hd : 24 ≤ d) (ha : i32 a) (hT : hOK tT es) : aW (pO0 xs N) d 79 0 0 (fun o => fr kc_43.2.2.2.2.2.1 es o.2.1) (0, [some (.ref 67), some (.int (zI a)), none, none, none], [], es) := by
  have h := cp_of (c := kc_43) (ρ := [a]) (vs := [.ref 67, .int (zI a)]) (d := d) (I := fun _ => True) (es := es) (kv_43 (aWd_T (xs := xs) hN)) rfl hd (gE_cons' ha gE_nil') rfl (gS_consr (gS_consi ha rfl gS_nil')) hT trivial rfl
  exact aW_mono (Nat.le_refl _) (fun o ho => ho.2.2.1) h
theorem ra_taped {xs : Nat → Int32} {N d : Nat} {es : PH} (hN : N ≤ 3584) (hd : 4 ≤ d) (hT : hOK tT es) : aW (pO0 xs N) d 175 0 0 (fun o => fr kc_413.2.2.2.2.2.1 es o.2.1 ∧ (gI o.2.1 79 5).toInt = 0) (0, [some (.ref 143), some (.int (zI 1)), none], [], es) := by
  have h := cp_of (c := kc_413) (ρ := []) (vs := [.ref 143, .int (zI 1)]) (d := d) (I := fun _ => True) (es := es) (kv_413 (aWd_T (xs := xs) hN)) rfl hd gE_nil' rfl ⟨⟨143, rfl, fC_ev⟩, ⟨zI 1, rfl, fC_ev⟩, trivial⟩ hT trivial rfl
  refine aW_mono (Nat.le_refl _) (fun o ho => ?_) h
  obtain ⟨-, -, hf, out, ho, τ, -, -, hF, -⟩ := ho
  rcases List.mem_cons.mp ho with rfl | ho
  · exact ⟨hf, fact_I (hF _ List.mem_cons_self)⟩
  · cases ho
section
variable {d : Nat} {es : PH} {R : Nat → Int32} {n : Nat} {xs : Nat → Int32} {N : Nat}
theorem rd_fn {O : pOut} (hT : hOK tT es) (hj : jB R n es) : aW O (d + 4) 79 0 0 (fun o => rdP R n o.1 o.2.1) (0, [some (.ref 67), some (.int (zI 0)), none, none, none], [], es) :=
  rd_spec (d := d) hT hj (fun es' a b c => ⟨a, Or.inl ⟨rfl, b, c⟩⟩) (fun es' a b c _ _ _ => ⟨a, Or.inr ⟨rfl, b, c⟩⟩)
/-- kind of the class -/
def xkP (R : Nat → Int32) (n : Nat) (a : Int) (es : PH) (r : Option Value ⊕ Nat) (es1 : PH) : Prop := hOK tT es1 ∧ (gI es1 1 1).toInt = 0 ∧ ((r = .inr 0 ∧ badK R n a ∧ gI es1 7 0 = gI es 7 0) ∨ (r = .inr 1 ∧ ¬ badK R n a ∧ 5 ≤ (gI es 7 0).toInt ∧ gI es1 7 0 = gI es 7 0) ∨ (r = .inl (some (.int (zI (gI es 7 0).toInt))) ∧ ¬ badK R n a ∧ (gI es 7 0).toInt < 5 ∧ (gI es1 7 0).toInt = (gI es 7 0).toInt + 1))
theorem fn_xkind {a : Int} (hN : N ≤ 3584) (ha : i32 a) (hT : hOK tT es) (hj : jB R n es) (h7 : 0 ≤ (gI es 7 0).toInt ∧ (gI es 7 0).toInt ≤ 5) : aW (pO0 xs N) (d + 25) 78 0 0 (fun o => xkP R n a es o.1 o.2.1) (0, [some (.ref 64), some (.int (zI a)), none], [], es) := by
  have haa := ha
  unfold i32 iLO iHI at haa
  have z0 : (zI 0).toInt = 0 := rfl
  refine s_xk0 (sh_of hT) hT ?_
  refine x_call (vs := [.ref 67, .int (zI 0)]) (rs := []) i_78_5 rfl (fun _ => rfl) rfl rfl rfl rfl rfl (pCall_v (p := 3) (sh_of hT) rfl rfl rfl rfl rfl (by decide) rfl rfl rfl rfl rfl) ?_
  show aW _ _ _ _ _ _ (0, [some (.ref 67), some (.int (zI 0)), none, none, none], [], es)
  refine aW_sh (aW_and (fr_reads (d := d + 24) hN (by omega) (by unfold i32 iLO iHI; omega) hT) (rd_fn (d := d + 20) hT hj)) (fun r es1 c1 k1 hp => ?_)
  obtain ⟨hf1, hT1, hp1⟩ : fr kc_43.2.2.2.2.2.1 es es1 ∧ rdP R n r es1 := hp
  have g7 : gI es1 7 0 = gI es 7 0 := keepI hf1 (sh_of hT) (p := 7) (b := 0) rfl (by decide)
  have hx8 : ∀ {es2 es3 : PH} {v1 : Int}, es2 = sI es1 0 8 (.int (zI v1)) → es3 = sI es2 1 1 (.int (zI 0)) → hOK tT es3 ∧ (gI es3 1 1).toInt = 0 ∧ gI es3 7 0 = gI es 7 0 := by
    intro es2 es3 v1 e2 e3
    have hT2 : hOK tT es2 := by rw [e2]; exact hOK_sI hT1 (p := 0) (b := 8) (lo := iLO) (hi := iHI) rfl rfl (i32_rng _)
    refine ⟨by rw [e3]; exact hOK_sI hT2 (p := 1) (b := 1) (lo := iLO) (hi := iHI) rfl rfl (i32_rng _), ?_, ?_⟩
    · rw [e3, gI_sI (sh_of hT2) (p := 1) (b := 1) rfl (by decide)]; exact z0
    · rw [e3, gI_sI_ne (Or.inl (by decide)), e2, gI_sI_ne (Or.inl (by decide))]; exact g7
  rcases hp1 with ⟨rfl, g1, g2⟩ | ⟨rfl, g1, g2⟩
  · refine aK_inl ?_
    show aW _ _ _ _ _ _ (8, [some (.ref 64), some (.int (zI a)), none], [.int (zI 0)], es1)
    have bad : badK R n a := fun h => by rw [g1] at h; cases h.1
    exact s_xk8 (d := d + 24) (sh_of hT1) haa (Or.inl rfl) hT1 (fun v1 e1 es2 e2 es3 e3 h1 => ⟨(hx8 e2 e3).1, (hx8 e2 e3).2.1, Or.inl ⟨rfl, bad, (hx8 e2 e3).2.2⟩⟩) (fun v1 e1 es2 e2 es3 e3 h1 => absurd rfl h1) (fun v1 e1 es2 e2 es3 e3 h1 => absurd rfl h1) (fun v1 e1 es2 e2 es3 e3 h1 => absurd rfl h1)
  · refine aK_inl ?_
    show aW _ _ _ _ _ _ (8, [some (.ref 64), some (.int (zI a)), none], [.int (zI 1)], es1)
    refine s_xk8 (d := d + 24) (sh_of hT1) haa (Or.inr rfl) hT1 (fun v1 e1 es2 e2 es3 e3 h1 => by omega) (fun v1 e1 es2 e2 es3 e3 h1 h2 => ⟨(hx8 e2 e3).1, (hx8 e2 e3).2.1, Or.inl ⟨rfl, fun h => by omega, (hx8 e2 e3).2.2⟩⟩) (fun v1 e1 es2 e2 es3 e3 h1 h2 h3 => ?_) (fun v1 e1 es2 e2 es3 e3 h1 h2 h3 => ⟨(hx8 e2 e3).1, (hx8 e2 e3).2.1, Or.inl ⟨rfl, fun h => by omega, (hx8 e2 e3).2.2⟩⟩)
    have good : ¬ badK R n a := fun h => h ⟨g1, by omega, by omega⟩
    obtain ⟨hT3, h11, h73⟩ := hx8 e2 e3
    refine s_xk37 (sh_of hT3) hT3 (fun v4 e4 h4 => ?_) (fun v4 e4 h4 => ⟨hT3, h11, Or.inr (Or.inl ⟨rfl, good, by rw [← h73]; omega, h73⟩)⟩)
    have hlt : (gI es 7 0).toInt < 5 := by rw [← h73]; omega
    refine x_call (vs := [.ref 71, .int (zI a), .ref 67]) (rs := []) i_78_67 rfl (fun _ => rfl) rfl rfl rfl rfl rfl (pCall_v (p := 7) (sh_of hT3) rfl rfl rfl rfl rfl (by decide) rfl rfl rfl rfl rfl) ?_
    show aW _ _ _ _ _ _ (0, [some (.ref 71), some (.int (zI a)), some (.ref 67), none], [], es3)
    refine ak_spec (d := d + 23) (w := (gI es 7 0).toInt) (by unfold i32 iLO iHI; omega) hT3 (by rw [h73]) (fun es4 hT4 h74 h41 => ?_)
    refine aK_nil ?_
    show aW _ _ _ _ _ _ (70, [some (.ref 64), some (.int (zI a)), some (.int (zI 1))], [], es4)
    refine s_xk70 (d := d + 24) (sh_of hT4) hT4 (fun es5 e5 es6 e6 v7 e7 => ?_)
    have hT5 : hOK tT es5 := by rw [e5]; exact hOK_sI hT4 (p := 0) (b := 10) rfl rfl (by rw [z0]; decide)
    have hT6 : hOK tT es6 := by rw [e6]; exact hOK_sI hT5 (p := 73) (b := 3) rfl rfl (by rw [z0]; decide)
    have h76 : gI es6 7 0 = gI es4 7 0 := by rw [e6, gI_sI_ne (Or.inl (by decide)), e5, gI_sI_ne (Or.inl (by decide))]
    have h16 : gI es6 1 1 = gI es4 1 1 := by rw [e6, gI_sI_ne (Or.inl (by decide)), e5, gI_sI_ne (Or.inl (by decide))]
    have hv : v7 - 1 = (gI es 7 0).toInt := by rw [e7, h76, h74]; omega
    exact ⟨hT6, by show (gI es6 1 1).toInt = 0; rw [h16, h41]; exact h11, Or.inr (Or.inr ⟨by rw [hv], good, hlt, by show (gI es6 7 0).toInt = _; rw [h76, h74]⟩)⟩
/-- the law's call of kind -/
def ykP (R : Nat → Int32) (n : Nat) (a : Int) (es : PH) (r : Option Value ⊕ Nat) (es1 : PH) : Prop := sh es1 ∧ (gI es1 1 1).toInt = 0 ∧ ∃ k : Int, r = .inl (some (.int (zI k))) ∧ ((k = 1 ∧ badK R n a ∧ gI es1 7 0 = gI es 7 0) ∨ (k = 2 ∧ (¬ badK R n a ∧ 5 ≤ (gI es 7 0).toInt) ∧ gI es1 7 0 = gI es 7 0) ∨ (k = 0 ∧ (¬ badK R n a ∧ (gI es 7 0).toInt < 5) ∧ (gI es1 7 0).toInt = (gI es 7 0).toInt + 1 ∧ (gJ es1 107 (Int.toNat 0)).toInt = (gI es 7 0).toInt))
theorem fn_ykind {a : Int} (hN : N ≤ 3584) (ha : i32 a) (hT : hOK tT es) (hj : jB R n es) (h7 : 0 ≤ (gI es 7 0).toInt ∧ (gI es 7 0).toInt ≤ 5) : aW (pO0 xs N) (d + 26) 277 0 0 (fun o => ykP R n a es o.1 o.2.1) (0, [some (.ref 64), some (.int (zI a)), some (.ref 171), none], [], es) := by
  refine s_yk0 (sh_of hT) hT ?_
  refine x_call (vs := [.ref 64, .int (zI a)]) (rs := [.int (zI 0), .ref 171]) i_277_4 rfl (fun _ => rfl) rfl rfl rfl rfl rfl (pCall_v (p := 0) (sh_of hT) rfl rfl rfl rfl rfl (by decide) rfl rfl rfl rfl rfl) ?_
  show aW _ _ _ _ _ _ (0, [some (.ref 64), some (.int (zI a)), none], [], es)
  refine aW_mono (Nat.le_refl _) (fun o ho => ?_) (fn_xkind (d := d) (xs := xs) hN ha hT hj h7)
  obtain ⟨r, es', kc', ks'⟩ := o
  obtain ⟨hT', h11, h⟩ : xkP R n a es r es' := ho
  rcases h with ⟨rfl, h1, h2⟩ | ⟨rfl, h1, h2, h3⟩ | ⟨rfl, h1, h2, h3⟩
  · refine ⟨_, _, _, _, rfl, rfl, rfl, ?_⟩
    show aW _ _ _ _ _ _ (13, [some (.ref 64), some (.int (zI a)), some (.ref 171), none], [], es')
    exact s_yk13 (sh_of hT') hT' ⟨sh_of hT', h11, 1, rfl, Or.inl ⟨rfl, h1, h2⟩⟩
  · refine ⟨_, _, _, _, rfl, rfl, rfl, ?_⟩
    show aW _ _ _ _ _ _ (16, [some (.ref 64), some (.int (zI a)), some (.ref 171), none], [], es')
    exact s_yk16 (sh_of hT') hT' ⟨sh_of hT', h11, 2, rfl, Or.inr (Or.inl ⟨rfl, ⟨h1, h2⟩, h3⟩)⟩
  · refine aK_inl ?_
    show aW _ _ _ _ _ _ (7, [some (.ref 64), some (.int (zI a)), some (.ref 171), none], [.int (zI (gI es 7 0).toInt), .int (zI 0), .ref 171], es')
    refine s_yk7 (sh_of hT') hT' (fun es1 e_es1 => ?_)
    have g1 : gI es1 1 1 = gI es' 1 1 := by rw [e_es1, gI_sJ]
    have g2 : gI es1 7 0 = gI es' 7 0 := by rw [e_es1, gI_sJ]
    have g3 : (gJ es1 107 (Int.toNat 0)).toInt = (gI es 7 0).toInt := by
      rw [e_es1, gJ_sJ (sh_of hT') (p := 107) (n := 1) rfl]
      unfold vp_updL
      rw [if_pos rfl, i2l_int (i32_rng _)]
    exact ⟨by show sh es1; rw [e_es1]; exact sh_sJ (sh_of hT'), by show (gI es1 1 1).toInt = 0; rw [g1]; exact h11, 0, rfl, Or.inr (Or.inr ⟨rfl, ⟨h1, h2⟩, by show (gI es1 7 0).toInt = _; rw [g2]; exact h3, g3⟩)⟩
/-- kind of the reference -/
def mkP (R : Nat → Int32) (n : Nat) (a : Int) (es : PH) (r : Option Value ⊕ Nat) (es1 : PH) : Prop := (gI es1 79 5).toInt = 0 ∧ ∃ v : Int, r = .inl (some (.int (zI v))) ∧ i32 v ∧ (((gI es1 79 0).toInt = 1 ∧ badK R n a ∧ gA es1 80 0 = gA es 80 0) ∨ ((gI es1 79 0).toInt = 2 ∧ (¬ badK R n a ∧ (gA es 80 0).toInt = 5) ∧ gA es1 80 0 = gA es 80 0) ∨ ((gI es1 79 0).toInt = 0 ∧ (¬ badK R n a ∧ (gA es 80 0).toInt < 5) ∧ v = (gA es 80 0).toInt ∧ (gA es1 80 0).toInt = (gA es 80 0).toInt + 1))
theorem mk_loop {O : pOut} {kc ks : Nat} {Q : pRes → Prop} {a v t w : Int} (hw : 0 ≤ w ∧ w ≤ 4) (hv : 0 ≤ v ∧ v ≤ 6) (hq : 49 ≤ t ∧ t ≤ 105) (K : ∀ es', (gI es' 79 0).toInt = 0 → (gI es' 79 5).toInt = 0 → (gA es' 80 0).toInt = w + 1 → Q (.inl (some (.int (zI w))), es', kc, ks)) : ∀ (M : Nat) (k : Int) (es1 : PH), 12 - k < (M : Int) → 0 ≤ k → k ≤ 2 * v → sh es1 → (gI es1 79 0).toInt = 0 → (gI es1 79 5).toInt = 0 → (gA es1 80 0).toInt = w → aW O d 174 kc ks Q (111, [some (.ref 143), some (.int (zI a)), some (.int (zI v)), some (.int (zI t)), some (.int (zI k))], [], es1) := by
  intro M
  induction M with
  | zero => intro k es1 h; omega
  | succ M ih =>
    intro k es1 hM h0 h2v hs h79 h75 hw1
    refine s_mk111 hs hv ⟨h0, by omega⟩ hq (fun h1 v2 e2 es3 e3 v4 e4 => ?_) (fun h1 v5 e5 es6 e6 => ?_)
    · have h2 : v2 = w := by rw [e2]; exact hw1
      have h3 : (gA es3 80 0).toInt = w + 1 := by
        rw [e3, gA_sA hs (p := 80) (t := 0) (n := 2125) (sp := tS80) rfl (by decide)]
        unfold upd
        rw [if_pos (show (0 : Nat) = Int.toNat 0 from rfl), zI_toInt (by unfold i32 iLO iHI; omega), h2]
      have h4 : v4 - 1 = w := by rw [e4]; have h5 : (gA es3 80 (Int.toNat 0)).toInt = w + 1 := h3; omega
      rw [h4]
      exact K es3 (by rw [e3, gI_sA]; exact h79) (by rw [e3, gI_sA]; exact h75) h3
    · refine ih (k + 1) es6 (by omega) (by omega) (by omega) (by rw [e6]; exact sh_sA hs) (by rw [e6, gI_sA]; exact h79) (by rw [e6, gI_sA]; exact h75) ?_
      rw [e6, gA_sA hs (p := 80) (t := 0) (n := 2125) (sp := tS80) rfl (by decide)]
      unfold upd
      rw [if_neg (by omega)]
      exact hw1
theorem fn_mkind {a : Int} (hN : N ≤ 3584) (ha : i32 a) (hT : hOK tT es) (hR : gA es 82 = R) (hn : (gI es 79 5).toInt = (n : Int)) : aW (pO0 xs N) (d + 5) 174 0 0 (fun o => mkP R n a es o.1 o.2.1) (0, [some (.ref 143), some (.int (zI a)), none, none, none], [], es) := by
  have haa := ha
  unfold i32 iLO iHI at haa
  have z0 : (zI 0).toInt = 0 := rfl
  have z1 : (zI 1).toInt = 1 := rfl
  have z2 : (zI 2).toInt = 2 := rfl
  have i0 : i32 0 := by unfold i32 iLO iHI; omega
  refine s_mk0 (sh_of hT) hT (fun es1 e1 => ?_)
  have hT1 : hOK tT es1 := by rw [e1]; exact hOK_sI hT (p := 79) (b := 0) (lo := iLO) (hi := iHI) rfl rfl (i32_rng _)
  have h10 : (gI es1 79 0).toInt = 0 := by rw [e1, gI_sI (sh_of hT) (p := 79) (b := 0) rfl (by decide)]; exact z0
  refine x_call (vs := [.ref 143, .int (zI 1)]) (rs := []) i_174_7 rfl (fun _ => rfl) rfl rfl rfl rfl rfl (pCall_v (p := 79) (sh_of hT1) rfl rfl rfl rfl rfl (by decide) rfl rfl rfl rfl rfl) ?_
  show aW _ _ _ _ _ _ (0, [some (.ref 143), some (.int (zI 1)), none], [], es1)
  refine aW_sh (aW_and (ra_taped (xs := xs) (d := d + 4) hN (by omega) hT1) (ka_fn (d := d) (R := R) (n := n) (sh_of hT1) hT1 (by rw [e1, gA_sI]; exact hR) (by rw [e1, gI_sI_ne (Or.inr (by decide))]; exact hn))) (fun r es2 c1 k1 hp => ?_)
  obtain ⟨⟨hf2, h75⟩, v, rfl, hT2, hf2', g1, g2⟩ : (fr kc_413.2.2.2.2.2.1 es1 es2 ∧ (gI es2 79 5).toInt = 0) ∧ ∃ v, r = .inl (some (.int (zI v))) ∧ kaG R n es1 es2 v := hp
  refine aK_inl ?_
  show aW _ _ _ _ _ _ (10, [some (.ref 143), some (.int (zI a)), none, none, none], [.int (zI v)], es2)
  have h20 : (gI es2 79 0).toInt = 0 := by
    rw [keepI hf2 (sh_of hT1) (p := 79) (b := 0) rfl (by decide)]
    exact h10
  have w20 : gA es2 80 0 = gA es 80 0 := by rw [keepA hf2 (sh_of hT1) (p := 80) (t := 0) (n := 2125) (sp := tS80) rfl (by decide) (by decide) 0 (by omega), e1, gA_sI]
  have hvk : ((zKt (zR R) n).2.isSome = true ↔ 0 ≤ v) ∧ -1 ≤ v ∧ v ≤ 6 := by
    cases hk : (zKt (zR R) n).2 with
    | none =>
      have := (g1 hk).1
      exact ⟨⟨fun h => absurd h (by simp), fun h => by omega⟩, by omega, by omega⟩
    | some j =>
      have := g2 j hk
      exact ⟨⟨fun _ => by omega, fun _ => rfl⟩, by omega, by omega⟩
  have fl : ∀ (w : Int) (es3 : PH), es3 = sI es2 79 10 (.int (zI w)) → hOK tT es3 ∧ (gI es3 79 0).toInt = 0 ∧ (gI es3 79 5).toInt = 0 ∧ gA es3 80 0 = gA es 80 0 := by
    intro w es3 e3
    refine ⟨by rw [e3]; exact hOK_sI hT2 (p := 79) (b := 10) (lo := iLO) (hi := iHI) rfl rfl (i32_rng _), ?_, ?_, ?_⟩
    · rw [e3, gI_sI_ne (Or.inr (by decide))]; exact h20
    · rw [e3, gI_sI_ne (Or.inr (by decide))]; exact h75
    · rw [e3, gA_sI]; exact w20
  have thr : ∀ (w : Int) (es3 es4 : PH), es3 = sI es2 79 10 (.int (zI w)) → es4 = sI es3 79 0 (.int (zI 1)) → badK R n a → mkP R n a es (.inl (some (.int (zI 0)))) es4 := by
    intro w es3 es4 e3 e4 hb
    obtain ⟨hT3, q1, q2, q3⟩ := fl w es3 e3
    refine ⟨by rw [e4, gI_sI_ne (Or.inr (by decide))]; exact q2, 0, rfl, i0, Or.inl ⟨?_, hb, by rw [e4, gA_sI]; exact q3⟩⟩
    rw [e4, gI_sI (sh_of hT3) (p := 79) (b := 0) rfl (by decide)]
    exact z1
  refine s_mk10 (d := d + 4) (sh_of hT2) haa ⟨by omega, by omega⟩ hT2 (fun h1 es3 e3 h2 es4 e4 => ?_) (fun h1 es3 e3 h2 h3 es4 e4 => ?_) (fun h1 es3 e3 h2 h3 => ?_) (fun h1 v7 e7 es3 e3 es4 e4 => ?_)
  · exact thr _ es3 es4 e3 e4 (fun h => by omega)
  · exact thr _ es3 es4 e3 e4 (fun h => by omega)
  · obtain ⟨hT3, h30, h35, h38⟩ := fl _ es3 e3
    have good : ¬ badK R n a := fun h => h ⟨hvk.1.mpr h1, by omega, by omega⟩
    have hw : (0 : Int) ≤ (gA es3 80 0).toInt ∧ (gA es3 80 0).toInt ≤ (5 : Int) := gA_bd hT3 (p := 80) (k := 0) rfl (by omega) (by decide)
    refine s_mk54 (d := d + 4) (sh_of hT3) hw hT3 (fun v4 e4 h4 => ?_) (fun v4 e4 h4 es5 e5 => ?_)
    · have hw4 : v4 = (gA es3 80 0).toInt := e4
      refine s_mk79 (sh_of hT3) ⟨by omega, by omega⟩ ⟨by omega, by omega⟩ hT3 (fun v5 e5 es6 e6 es7 e7 => ?_)
      have hw5 : v5 = (gA es3 80 0).toInt := e5
      have hs6 : sh es6 := by rw [e6]; exact sh_sA (sh_of hT3)
      have h70 : (gA es7 80 0).toInt = (gA es3 80 0).toInt := by
        rw [e7, gA_sA hs6 (p := 80) (t := 0) (n := 2125) (sp := tS80) rfl (by decide)]
        unfold upd
        rw [if_neg (by omega), e6, gA_sA (sh_of hT3) (p := 80) (t := 0) (n := 2125) (sp := tS80) rfl (by decide)]
        unfold upd
        rw [if_neg (by omega)]
      refine mk_loop (w := (gA es3 80 0).toInt) ⟨hw.1, by omega⟩ ⟨by omega, by omega⟩ ⟨by omega, by omega⟩ (fun es' q1 q2 q3 => ?_) 13 0 es7 (by omega) (by omega) (by omega) (by rw [e7]; exact sh_sA hs6) (by rw [e7, e6, gI_sA, gI_sA]; exact h30) (by rw [e7, e6, gI_sA, gI_sA]; exact h35) h70
      exact ⟨q2, _, rfl, i32_rng _, Or.inr (Or.inr ⟨q1, ⟨good, by rw [← h38]; omega⟩, by rw [h38], by rw [← h38]; exact q3⟩)⟩
    · have hw4 : v4 = (gA es3 80 0).toInt := e4
      have q2 : (gI es5 79 0).toInt = 2 := by rw [e5, gI_sI (sh_of hT3) (p := 79) (b := 0) rfl (by decide)]; exact z2
      have q3 : (gI es5 79 5).toInt = 0 := by rw [e5, gI_sI_ne (Or.inr (by decide))]; exact h35
      have q4 : gA es5 80 0 = gA es 80 0 := by rw [e5, gA_sI]; exact h38
      exact ⟨q3, 0, rfl, i0, Or.inr (Or.inl ⟨q2, ⟨good, by rw [← h38]; omega⟩, q4⟩)⟩
  · exact thr _ es3 es4 e3 e4 (fun h => by have := hvk.1.mp h.1; omega)
end
