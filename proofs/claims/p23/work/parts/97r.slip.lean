theorem s_slip0 {O : pOut} {d kc ks : Nat} {Q : pRes → Prop} {es : PH} {bk nt : Int} (hs_es : sh es) (h0 : -2147483648 ≤ bk ∧ bk ≤ 2147483647) (h1 : -2147483648 ≤ nt ∧ nt ≤ 2147483647) (hT_es : hOK tT es)
    (K1 : ∀ es1 : PH, es1 = sI es 79 0 (.int (zI 0)) → ∀ v2 : Int, v2 = (gA es1 80 (Int.toNat 1)).toInt → bk < 0 → ∀ es4 : PH, es4 = sI es1 79 0 (.int (zI 1)) → Q (.inl (some (.int (zI 0))), es4, kc, ks))
    (K2 : ∀ es1 : PH, es1 = sI es 79 0 (.int (zI 0)) → ∀ v2 : Int, v2 = (gA es1 80 (Int.toNat 1)).toInt → ¬ (bk < 0) → (v2 - 1) < bk → ∀ es6 : PH, es6 = sI es1 79 0 (.int (zI 1)) → Q (.inl (some (.int (zI 0))), es6, kc, ks))
    (K3 : ∀ es1 : PH, es1 = sI es 79 0 (.int (zI 0)) → ∀ v2 : Int, v2 = (gA es1 80 (Int.toNat 1)).toInt → ¬ (bk < 0) → ¬ ((v2 - 1) < bk) → ∀ v7 : Int, v7 = (gA es1 80 ((119 + (98 * bk)) + 1).toNat).toInt → ∀ v8 : Int, v8 = (zI (v7 - 1)).toInt → nt < 0 → ∀ es10 : PH, es10 = sI es1 79 0 (.int (zI 1)) → Q (.inl (some (.int (zI 0))), es10, kc, ks))
    (K4 : ∀ es1 : PH, es1 = sI es 79 0 (.int (zI 0)) → ∀ v2 : Int, v2 = (gA es1 80 (Int.toNat 1)).toInt → ¬ (bk < 0) → ¬ ((v2 - 1) < bk) → ∀ v7 : Int, v7 = (gA es1 80 ((119 + (98 * bk)) + 1).toNat).toInt → ∀ v8 : Int, v8 = (zI (v7 - 1)).toInt → ¬ (nt < 0) → v8 < nt → ∀ es12 : PH, es12 = sI es1 79 0 (.int (zI 1)) → Q (.inl (some (.int (zI 0))), es12, kc, ks))
    (K5 : ∀ es1 : PH, es1 = sI es 79 0 (.int (zI 0)) → ∀ v2 : Int, v2 = (gA es1 80 (Int.toNat 1)).toInt → ¬ (bk < 0) → ¬ ((v2 - 1) < bk) → ∀ v7 : Int, v7 = (gA es1 80 ((119 + (98 * bk)) + 1).toNat).toInt → ∀ v8 : Int, v8 = (zI (v7 - 1)).toInt → ¬ (nt < 0) → ¬ (v8 < nt) → aW O (d + 4) 260 kc ks Q (22, [some (.ref 143), some (.int (zI bk)), some (.int (zI nt)), none], [.ref 143], es1)) :
    aW O (d + 4) 260 kc ks Q (0, [some (.ref 143), some (.int (zI bk)), some (.int (zI nt)), none], [], es) := by
  refine x0 (r := (1, [some (.ref 143), some (.int (zI bk)), some (.int (zI nt)), none], [.ref 143], es)) i_260_0 rfl ?_
  refine x0 (r := (2, [some (.ref 143), some (.int (zI bk)), some (.int (zI nt)), none], [.int (zI 0), .ref 143], es)) i_260_1 (by rfl) ?_
  refine x_puti (p := 79) (ty := .int) i_260_2 hs_es rfl rfl rfl (Or.inl rfl) ?_
  obtain ⟨es1, e_es1⟩ : ∃ z : PH, z = sI es 79 0 (.int (zI 0)) := ⟨_, rfl⟩
  have hs_es1 : sh es1 := by rw [e_es1]; exact sh_sI hs_es (p := 79) (b := 0) rfl rfl
  have hT_es1 : hOK tT es1 := by rw [e_es1]; exact hOK_sI hT_es (p := 79) (b := 0) (lo := iLO) (hi := iHI) rfl rfl (i32_rng _)
  rw [← e_es1]
  refine x0 (r := (6, [some (.ref 143), some (.int (zI bk)), some (.int (zI nt)), none], [.ref 143], es1)) i_260_5 rfl ?_
  refine x0 (r := (7, [some (.ref 143), some (.int (zI bk)), some (.int (zI nt)), none], [.ref 143, .ref 143], es1)) i_260_6 rfl ?_
  refine x0 (r := (8, [some (.ref 143), some (.int (zI bk)), some (.int (zI nt)), none], [.int (zI bk), .ref 143, .ref 143], es1)) i_260_7 rfl ?_
  refine x0 (r := (9, [some (.ref 143), some (.int (zI bk)), some (.int (zI nt)), none], [.int (zI nt), .int (zI bk), .ref 143, .ref 143], es1)) i_260_8 rfl ?_
  refine x_call (vs := [.ref 143, .int (zI bk), .int (zI nt)]) (rs := [.ref 143]) i_260_9 rfl (fun _ => rfl) rfl rfl rfl rfl rfl (pCall_v (p := 79) hs_es1 rfl rfl rfl rfl rfl (by decide) rfl rfl rfl rfl rfl) ?_
  show aW _ _ _ _ _ _ (0, [some (.ref 143), some (.int (zI bk)), some (.int (zI nt))], [], es1)
  refine x0 (r := (1, [some (.ref 143), some (.int (zI bk)), some (.int (zI nt))], [.ref 143], es1)) i_210_0 rfl ?_
  refine x0 (r := (2, [some (.ref 143), some (.int (zI bk)), some (.int (zI nt))], [.int (zI bk), .ref 143], es1)) i_210_1 rfl ?_
  refine x_call (vs := [.ref 143, .int (zI bk)]) (rs := []) i_210_2 rfl (fun _ => rfl) rfl rfl rfl rfl rfl (pCall_v (p := 79) hs_es1 rfl rfl rfl rfl rfl (by decide) rfl rfl rfl rfl rfl) ?_
  show aW _ _ _ _ _ _ (0, [some (.ref 143), some (.int (zI bk))], [], es1)
  refine x0 (r := (1, [some (.ref 143), some (.int (zI bk))], [.ref 143], es1)) i_203_0 rfl ?_
  refine x0 (r := (2, [some (.ref 143), some (.int (zI bk))], [.int (zI bk), .ref 143], es1)) i_203_1 rfl ?_
  refine x0 (r := (3, [some (.ref 143), some (.int (zI bk))], [.int (zI 1), .int (zI bk), .ref 143], es1)) i_203_2 (by rfl) ?_
  refine x_call (vs := [.ref 143, .int (zI bk), .int (zI 1)]) (rs := []) i_203_3 rfl (fun _ => rfl) rfl rfl rfl rfl rfl (pCall_v (p := 79) hs_es1 rfl rfl rfl rfl rfl (by decide) rfl rfl rfl rfl rfl) ?_
  show aW _ _ _ _ _ _ (0, [some (.ref 143), some (.int (zI bk)), some (.int (zI 1))], [], es1)
  refine x0 (r := (1, [some (.ref 143), some (.int (zI bk)), some (.int (zI 1))], [.int (zI bk)], es1)) i_199_0 rfl ?_
  refine x0 (r := (2, [some (.ref 143), some (.int (zI bk)), some (.int (zI 1))], [.int (zI 0), .int (zI bk)], es1)) i_199_1 (by rfl) ?_
  refine x0 (r := (3, [some (.ref 143), some (.int (zI bk)), some (.int (zI 1))], [.ref 143, .int (zI 0), .int (zI bk)], es1)) i_199_2 rfl ?_
  refine x_getr (p := 79) (k := 144) i_199_3 hs_es1 rfl rfl ?_
  show aW _ _ _ _ _ _ (6, [some (.ref 143), some (.int (zI bk)), some (.int (zI 1))], [.ref 144, .int (zI 0), .int (zI bk)], es1)
  refine x0 (r := (7, [some (.ref 143), some (.int (zI bk)), some (.int (zI 1))], [.int (zI 1), .ref 144, .int (zI 0), .int (zI bk)], es1)) i_199_6 rfl ?_
  refine x_iald (p := 80) i_199_7 hs_es1 rfl (by unfold i32 iLO iHI; omega) (by omega) (by omega) ?_
  obtain ⟨v2, e_v2⟩ : ∃ z : Int, z = (gA es1 80 (Int.toNat 1)).toInt := ⟨_, rfl⟩
  rw [← e_v2]
  have r_v2 : iLO ≤ v2 ∧ v2 ≤ iHI := by rw [e_v2]; exact i32_rng _
  unfold iLO iHI at r_v2
  have b_v2 : (0 : Int) ≤ v2 ∧ v2 ≤ (3 : Int) := by rw [e_v2]; exact gA_bd hT_es1 (p := 80) (k := (Int.toNat 1)) rfl (by omega) (by decide)
  refine x0 (r := (9, [some (.ref 143), some (.int (zI bk)), some (.int (zI 1))], [.int (zI 1), .int (zI v2), .int (zI 0), .int (zI bk)], es1)) i_199_8 (by rfl) ?_
  refine x_isub i_199_9 ?_
  refine x_call (vs := [.int (zI bk), .int (zI 0), .int (zI (v2 - 1))]) (rs := []) i_199_10 rfl (fun _ => rfl) rfl rfl rfl rfl rfl rfl ?_
  show aW _ _ _ _ _ _ (0, [some (.int (zI bk)), some (.int (zI 0)), some (.int (zI (v2 - 1)))], [], es1)
  refine x0 (r := (1, [some (.int (zI bk)), some (.int (zI 0)), some (.int (zI (v2 - 1)))], [.int (zI bk)], es1)) i_193_0 rfl ?_
  refine x0 (r := (2, [some (.int (zI bk)), some (.int (zI 0)), some (.int (zI (v2 - 1)))], [.int (zI 0), .int (zI bk)], es1)) i_193_1 rfl ?_
  by_cases c3 : bk < 0
  · refine x_cmpT i_193_2 (by unfold i32 iLO iHI; omega) (by unfold i32 iLO iHI; omega) rfl (by simp only [zC, cR]; omega) ?_
    refine x0 (r := (15, [some (.int (zI bk)), some (.int (zI 0)), some (.int (zI (v2 - 1)))], [.int (zI 0)], es1)) i_193_14 (by rfl) ?_
    refine x_ret (v := some (.int (zI 0))) i_193_15 rfl (fun _ => rfl) rfl rfl (pFin_b (by omega)) ?_
    show aW _ _ _ _ _ _ (13, [some (.ref 143), some (.int (zI bk)), some (.int (zI 1))], [.int (zI 0)], es1)
    refine x_ifF i_199_13 (by unfold i32 iLO iHI; omega) rfl (by simp only [zC, cR]; omega) ?_
    refine x0 (r := (17, [some (.ref 143), some (.int (zI bk)), some (.int (zI 1))], [.int (zI 1)], es1)) i_199_16 (by rfl) ?_
    refine x0 (r := (21, [some (.ref 143), some (.int (zI bk)), some (.int (zI 1))], [.int (zI 1)], es1)) i_199_17 rfl ?_
    refine x_ret (v := some (.int (zI 1))) i_199_21 rfl (fun _ => rfl) rfl rfl (pFin_b (by omega)) ?_
    show aW _ _ _ _ _ _ (6, [some (.ref 143), some (.int (zI bk))], [.int (zI 1)], es1)
    refine x_ret (v := some (.int (zI 1))) i_203_6 rfl (fun _ => rfl) rfl rfl (pFin_b (by omega)) ?_
    show aW _ _ _ _ _ _ (5, [some (.ref 143), some (.int (zI bk)), some (.int (zI nt))], [.int (zI 1)], es1)
    refine x_ifT i_210_5 (by unfold i32 iLO iHI; omega) rfl (by simp only [zC, cR]; omega) ?_
    refine x0 (r := (24, [some (.ref 143), some (.int (zI bk)), some (.int (zI nt))], [.int (zI 1)], es1)) i_210_23 (by rfl) ?_
    refine x0 (r := (28, [some (.ref 143), some (.int (zI bk)), some (.int (zI nt))], [.int (zI 1)], es1)) i_210_24 rfl ?_
    refine x_ret (v := some (.int (zI 1))) i_210_28 rfl (fun _ => rfl) rfl rfl (pFin_b (by omega)) ?_
    show aW _ _ _ _ _ _ (12, [some (.ref 143), some (.int (zI bk)), some (.int (zI nt)), none], [.int (zI 1), .ref 143], es1)
    refine x0 (r := (13, [some (.ref 143), some (.int (zI bk)), some (.int (zI nt)), none], [.int (zI 1), .int (zI 1), .ref 143], es1)) i_260_12 (by rfl) ?_
    refine x_call (vs := [.ref 143, .int (zI 1), .int (zI 1)]) (rs := []) i_260_13 rfl (fun _ => rfl) rfl rfl rfl rfl rfl (pCall_v (p := 79) hs_es1 rfl rfl rfl rfl rfl (by decide) rfl rfl rfl rfl rfl) ?_
    show aW _ _ _ _ _ _ (0, [some (.ref 143), some (.int (zI 1)), some (.int (zI 1))], [], es1)
    refine x0 (r := (1, [some (.ref 143), some (.int (zI 1)), some (.int (zI 1))], [.int (zI 1)], es1)) i_194_0 rfl ?_
    refine x_ifF i_194_1 (by unfold i32 iLO iHI; omega) rfl (by simp only [zC, cR]; omega) ?_
    refine x0 (r := (5, [some (.ref 143), some (.int (zI 1)), some (.int (zI 1))], [.ref 143], es1)) i_194_4 rfl ?_
    refine x0 (r := (6, [some (.ref 143), some (.int (zI 1)), some (.int (zI 1))], [.int (zI 1), .ref 143], es1)) i_194_5 rfl ?_
    refine x_puti (p := 79) (ty := .int) i_194_6 hs_es1 rfl rfl rfl (Or.inl rfl) ?_
    obtain ⟨es4, e_es4⟩ : ∃ z : PH, z = sI es1 79 0 (.int (zI 1)) := ⟨_, rfl⟩
    have hs_es4 : sh es4 := by rw [e_es4]; exact sh_sI hs_es1 (p := 79) (b := 0) rfl rfl
    have hT_es4 : hOK tT es4 := by rw [e_es4]; exact hOK_sI hT_es1 (p := 79) (b := 0) (lo := iLO) (hi := iHI) rfl rfl (i32_rng _)
    rw [← e_es4]
    refine x0 (r := (10, [some (.ref 143), some (.int (zI 1)), some (.int (zI 1))], [.int (zI 1)], es4)) i_194_9 rfl ?_
    refine x_ret (v := some (.int (zI 1))) i_194_10 rfl (fun _ => rfl) rfl rfl (pFin_b (by omega)) ?_
    show aW _ _ _ _ _ _ (16, [some (.ref 143), some (.int (zI bk)), some (.int (zI nt)), none], [.int (zI 1)], es4)
    refine x_ifF i_260_16 (by unfold i32 iLO iHI; omega) rfl (by simp only [zC, cR]; omega) ?_
    refine x0 (r := (20, [some (.ref 143), some (.int (zI bk)), some (.int (zI nt)), none], [.int (zI 0)], es4)) i_260_19 (by rfl) ?_
    refine x_ret (v := some (.int (zI 0))) i_260_20 rfl (fun _ => rfl) rfl rfl rfl ?_
    exact K1 es1 e_es1 v2 e_v2 c3 es4 e_es4
  · refine x_cmpF i_193_2 (by unfold i32 iLO iHI; omega) (by unfold i32 iLO iHI; omega) rfl (by simp only [zC, cR]; omega) ?_
    refine x0 (r := (6, [some (.int (zI bk)), some (.int (zI 0)), some (.int (zI (v2 - 1)))], [.int (zI bk)], es1)) i_193_5 rfl ?_
    refine x0 (r := (7, [some (.int (zI bk)), some (.int (zI 0)), some (.int (zI (v2 - 1)))], [.int (zI (v2 - 1)), .int (zI bk)], es1)) i_193_6 rfl ?_
    by_cases c5 : (v2 - 1) < bk
    · refine x_cmpT i_193_7 (by unfold i32 iLO iHI; omega) (by unfold i32 iLO iHI; omega) rfl (by simp only [zC, cR]; omega) ?_
      refine x0 (r := (15, [some (.int (zI bk)), some (.int (zI 0)), some (.int (zI (v2 - 1)))], [.int (zI 0)], es1)) i_193_14 (by rfl) ?_
      refine x_ret (v := some (.int (zI 0))) i_193_15 rfl (fun _ => rfl) rfl rfl (pFin_b (by omega)) ?_
      show aW _ _ _ _ _ _ (13, [some (.ref 143), some (.int (zI bk)), some (.int (zI 1))], [.int (zI 0)], es1)
      refine x_ifF i_199_13 (by unfold i32 iLO iHI; omega) rfl (by simp only [zC, cR]; omega) ?_
      refine x0 (r := (17, [some (.ref 143), some (.int (zI bk)), some (.int (zI 1))], [.int (zI 1)], es1)) i_199_16 (by rfl) ?_
      refine x0 (r := (21, [some (.ref 143), some (.int (zI bk)), some (.int (zI 1))], [.int (zI 1)], es1)) i_199_17 rfl ?_
      refine x_ret (v := some (.int (zI 1))) i_199_21 rfl (fun _ => rfl) rfl rfl (pFin_b (by omega)) ?_
      show aW _ _ _ _ _ _ (6, [some (.ref 143), some (.int (zI bk))], [.int (zI 1)], es1)
      refine x_ret (v := some (.int (zI 1))) i_203_6 rfl (fun _ => rfl) rfl rfl (pFin_b (by omega)) ?_
      show aW _ _ _ _ _ _ (5, [some (.ref 143), some (.int (zI bk)), some (.int (zI nt))], [.int (zI 1)], es1)
      refine x_ifT i_210_5 (by unfold i32 iLO iHI; omega) rfl (by simp only [zC, cR]; omega) ?_
      refine x0 (r := (24, [some (.ref 143), some (.int (zI bk)), some (.int (zI nt))], [.int (zI 1)], es1)) i_210_23 (by rfl) ?_
      refine x0 (r := (28, [some (.ref 143), some (.int (zI bk)), some (.int (zI nt))], [.int (zI 1)], es1)) i_210_24 rfl ?_
      refine x_ret (v := some (.int (zI 1))) i_210_28 rfl (fun _ => rfl) rfl rfl (pFin_b (by omega)) ?_
      show aW _ _ _ _ _ _ (12, [some (.ref 143), some (.int (zI bk)), some (.int (zI nt)), none], [.int (zI 1), .ref 143], es1)
      refine x0 (r := (13, [some (.ref 143), some (.int (zI bk)), some (.int (zI nt)), none], [.int (zI 1), .int (zI 1), .ref 143], es1)) i_260_12 (by rfl) ?_
      refine x_call (vs := [.ref 143, .int (zI 1), .int (zI 1)]) (rs := []) i_260_13 rfl (fun _ => rfl) rfl rfl rfl rfl rfl (pCall_v (p := 79) hs_es1 rfl rfl rfl rfl rfl (by decide) rfl rfl rfl rfl rfl) ?_
      show aW _ _ _ _ _ _ (0, [some (.ref 143), some (.int (zI 1)), some (.int (zI 1))], [], es1)
      refine x0 (r := (1, [some (.ref 143), some (.int (zI 1)), some (.int (zI 1))], [.int (zI 1)], es1)) i_194_0 rfl ?_
      refine x_ifF i_194_1 (by unfold i32 iLO iHI; omega) rfl (by simp only [zC, cR]; omega) ?_
      refine x0 (r := (5, [some (.ref 143), some (.int (zI 1)), some (.int (zI 1))], [.ref 143], es1)) i_194_4 rfl ?_
      refine x0 (r := (6, [some (.ref 143), some (.int (zI 1)), some (.int (zI 1))], [.int (zI 1), .ref 143], es1)) i_194_5 rfl ?_
      refine x_puti (p := 79) (ty := .int) i_194_6 hs_es1 rfl rfl rfl (Or.inl rfl) ?_
      obtain ⟨es6, e_es6⟩ : ∃ z : PH, z = sI es1 79 0 (.int (zI 1)) := ⟨_, rfl⟩
      have hs_es6 : sh es6 := by rw [e_es6]; exact sh_sI hs_es1 (p := 79) (b := 0) rfl rfl
      have hT_es6 : hOK tT es6 := by rw [e_es6]; exact hOK_sI hT_es1 (p := 79) (b := 0) (lo := iLO) (hi := iHI) rfl rfl (i32_rng _)
      rw [← e_es6]
      refine x0 (r := (10, [some (.ref 143), some (.int (zI 1)), some (.int (zI 1))], [.int (zI 1)], es6)) i_194_9 rfl ?_
      refine x_ret (v := some (.int (zI 1))) i_194_10 rfl (fun _ => rfl) rfl rfl (pFin_b (by omega)) ?_
      show aW _ _ _ _ _ _ (16, [some (.ref 143), some (.int (zI bk)), some (.int (zI nt)), none], [.int (zI 1)], es6)
      refine x_ifF i_260_16 (by unfold i32 iLO iHI; omega) rfl (by simp only [zC, cR]; omega) ?_
      refine x0 (r := (20, [some (.ref 143), some (.int (zI bk)), some (.int (zI nt)), none], [.int (zI 0)], es6)) i_260_19 (by rfl) ?_
      refine x_ret (v := some (.int (zI 0))) i_260_20 rfl (fun _ => rfl) rfl rfl rfl ?_
      exact K2 es1 e_es1 v2 e_v2 c3 c5 es6 e_es6
    · refine x_cmpF i_193_7 (by unfold i32 iLO iHI; omega) (by unfold i32 iLO iHI; omega) rfl (by simp only [zC, cR]; omega) ?_
      refine x0 (r := (11, [some (.int (zI bk)), some (.int (zI 0)), some (.int (zI (v2 - 1)))], [.int (zI 1)], es1)) i_193_10 (by rfl) ?_
      refine x0 (r := (15, [some (.int (zI bk)), some (.int (zI 0)), some (.int (zI (v2 - 1)))], [.int (zI 1)], es1)) i_193_11 rfl ?_
      refine x_ret (v := some (.int (zI 1))) i_193_15 rfl (fun _ => rfl) rfl rfl (pFin_b (by omega)) ?_
      show aW _ _ _ _ _ _ (13, [some (.ref 143), some (.int (zI bk)), some (.int (zI 1))], [.int (zI 1)], es1)
      refine x_ifT i_199_13 (by unfold i32 iLO iHI; omega) rfl (by simp only [zC, cR]; omega) ?_
      refine x0 (r := (21, [some (.ref 143), some (.int (zI bk)), some (.int (zI 1))], [.int (zI 0)], es1)) i_199_20 (by rfl) ?_
      refine x_ret (v := some (.int (zI 0))) i_199_21 rfl (fun _ => rfl) rfl rfl (pFin_b (by omega)) ?_
      show aW _ _ _ _ _ _ (6, [some (.ref 143), some (.int (zI bk))], [.int (zI 0)], es1)
      refine x_ret (v := some (.int (zI 0))) i_203_6 rfl (fun _ => rfl) rfl rfl (pFin_b (by omega)) ?_
      show aW _ _ _ _ _ _ (5, [some (.ref 143), some (.int (zI bk)), some (.int (zI nt))], [.int (zI 0)], es1)
      refine x_ifF i_210_5 (by unfold i32 iLO iHI; omega) rfl (by simp only [zC, cR]; omega) ?_
      refine x0 (r := (9, [some (.ref 143), some (.int (zI bk)), some (.int (zI nt))], [.int (zI nt)], es1)) i_210_8 rfl ?_
      refine x0 (r := (10, [some (.ref 143), some (.int (zI bk)), some (.int (zI nt))], [.int (zI 0), .int (zI nt)], es1)) i_210_9 (by rfl) ?_
      refine x0 (r := (11, [some (.ref 143), some (.int (zI bk)), some (.int (zI nt))], [.ref 143, .int (zI 0), .int (zI nt)], es1)) i_210_10 rfl ?_
      refine x0 (r := (12, [some (.ref 143), some (.int (zI bk)), some (.int (zI nt))], [.int (zI bk), .ref 143, .int (zI 0), .int (zI nt)], es1)) i_210_11 rfl ?_
      refine x_call (vs := [.ref 143, .int (zI bk)]) (rs := [.int (zI 0), .int (zI nt)]) i_210_12 rfl (fun _ => rfl) rfl rfl rfl rfl rfl (pCall_v (p := 79) hs_es1 rfl rfl rfl rfl rfl (by decide) rfl rfl rfl rfl rfl) ?_
      show aW _ _ _ _ _ _ (0, [some (.ref 143), some (.int (zI bk))], [], es1)
      refine x0 (r := (1, [some (.ref 143), some (.int (zI bk))], [.ref 143], es1)) i_205_0 rfl ?_
      refine x0 (r := (2, [some (.ref 143), some (.int (zI bk))], [.int (zI bk), .ref 143], es1)) i_205_1 rfl ?_
      refine x0 (r := (3, [some (.ref 143), some (.int (zI bk))], [.int (zI 1), .int (zI bk), .ref 143], es1)) i_205_2 (by rfl) ?_
      refine x_call (vs := [.ref 143, .int (zI bk), .int (zI 1)]) (rs := []) i_205_3 rfl (fun _ => rfl) rfl rfl rfl rfl rfl (pCall_v (p := 79) hs_es1 rfl rfl rfl rfl rfl (by decide) rfl rfl rfl rfl rfl) ?_
      show aW _ _ _ _ _ _ (0, [some (.ref 143), some (.int (zI bk)), some (.int (zI 1))], [], es1)
      refine x0 (r := (1, [some (.ref 143), some (.int (zI bk)), some (.int (zI 1))], [.ref 143], es1)) i_206_0 rfl ?_
      refine x_getr (p := 79) (k := 144) i_206_1 hs_es1 rfl rfl ?_
      show aW _ _ _ _ _ _ (4, [some (.ref 143), some (.int (zI bk)), some (.int (zI 1))], [.ref 144], es1)
      refine x0 (r := (6, [some (.ref 143), some (.int (zI bk)), some (.int (zI 1))], [.int (zI 119), .ref 144], es1)) i_206_4 (by rfl) ?_
      refine x0 (r := (8, [some (.ref 143), some (.int (zI bk)), some (.int (zI 1))], [.int (zI 98), .int (zI 119), .ref 144], es1)) i_206_6 (by rfl) ?_
      refine x0 (r := (9, [some (.ref 143), some (.int (zI bk)), some (.int (zI 1))], [.int (zI bk), .int (zI 98), .int (zI 119), .ref 144], es1)) i_206_8 rfl ?_
      refine x_imul i_206_9 ?_
      refine x_iadd i_206_10 ?_
      refine x0 (r := (12, [some (.ref 143), some (.int (zI bk)), some (.int (zI 1))], [.int (zI 1), .int (zI (119 + (98 * bk))), .ref 144], es1)) i_206_11 rfl ?_
      refine x_iadd i_206_12 ?_
      refine x_iald (p := 80) i_206_13 hs_es1 rfl (by unfold i32 iLO iHI; omega) (by omega) (by omega) ?_
      obtain ⟨v7, e_v7⟩ : ∃ z : Int, z = (gA es1 80 ((119 + (98 * bk)) + 1).toNat).toInt := ⟨_, rfl⟩
      rw [← e_v7]
      have r_v7 : iLO ≤ v7 ∧ v7 ≤ iHI := by rw [e_v7]; exact i32_rng _
      unfold iLO iHI at r_v7
      refine x_ret (v := some (.int (zI v7))) i_206_14 rfl (fun _ => rfl) rfl rfl rfl ?_
      show aW _ _ _ _ _ _ (6, [some (.ref 143), some (.int (zI bk))], [.int (zI v7)], es1)
      refine x_ret (v := some (.int (zI v7))) i_205_6 rfl (fun _ => rfl) rfl rfl rfl ?_
      show aW _ _ _ _ _ _ (15, [some (.ref 143), some (.int (zI bk)), some (.int (zI nt))], [.int (zI v7), .int (zI 0), .int (zI nt)], es1)
      refine x0 (r := (16, [some (.ref 143), some (.int (zI bk)), some (.int (zI nt))], [.int (zI 1), .int (zI v7), .int (zI 0), .int (zI nt)], es1)) i_210_15 (by rfl) ?_
      refine x_isub i_210_16 ?_
      rw [← zI_id (zI (v7 - 1))]
      obtain ⟨v8, e_v8⟩ : ∃ z : Int, z = (zI (v7 - 1)).toInt := ⟨_, rfl⟩
      rw [← e_v8]
      have r_v8 : iLO ≤ v8 ∧ v8 ≤ iHI := by rw [e_v8]; exact i32_rng _
      unfold iLO iHI at r_v8
      refine x_call (vs := [.int (zI nt), .int (zI 0), .int (zI v8)]) (rs := []) i_210_17 rfl (fun _ => rfl) rfl rfl rfl rfl rfl rfl ?_
      show aW _ _ _ _ _ _ (0, [some (.int (zI nt)), some (.int (zI 0)), some (.int (zI v8))], [], es1)
      refine x0 (r := (1, [some (.int (zI nt)), some (.int (zI 0)), some (.int (zI v8))], [.int (zI nt)], es1)) i_193_0 rfl ?_
      refine x0 (r := (2, [some (.int (zI nt)), some (.int (zI 0)), some (.int (zI v8))], [.int (zI 0), .int (zI nt)], es1)) i_193_1 rfl ?_
      by_cases c9 : nt < 0
      · refine x_cmpT i_193_2 (by unfold i32 iLO iHI; omega) (by unfold i32 iLO iHI; omega) rfl (by simp only [zC, cR]; omega) ?_
        refine x0 (r := (15, [some (.int (zI nt)), some (.int (zI 0)), some (.int (zI v8))], [.int (zI 0)], es1)) i_193_14 (by rfl) ?_
        refine x_ret (v := some (.int (zI 0))) i_193_15 rfl (fun _ => rfl) rfl rfl (pFin_b (by omega)) ?_
        show aW _ _ _ _ _ _ (20, [some (.ref 143), some (.int (zI bk)), some (.int (zI nt))], [.int (zI 0)], es1)
        refine x_ifF i_210_20 (by unfold i32 iLO iHI; omega) rfl (by simp only [zC, cR]; omega) ?_
        refine x0 (r := (24, [some (.ref 143), some (.int (zI bk)), some (.int (zI nt))], [.int (zI 1)], es1)) i_210_23 (by rfl) ?_
        refine x0 (r := (28, [some (.ref 143), some (.int (zI bk)), some (.int (zI nt))], [.int (zI 1)], es1)) i_210_24 rfl ?_
        refine x_ret (v := some (.int (zI 1))) i_210_28 rfl (fun _ => rfl) rfl rfl (pFin_b (by omega)) ?_
        show aW _ _ _ _ _ _ (12, [some (.ref 143), some (.int (zI bk)), some (.int (zI nt)), none], [.int (zI 1), .ref 143], es1)
        refine x0 (r := (13, [some (.ref 143), some (.int (zI bk)), some (.int (zI nt)), none], [.int (zI 1), .int (zI 1), .ref 143], es1)) i_260_12 (by rfl) ?_
        refine x_call (vs := [.ref 143, .int (zI 1), .int (zI 1)]) (rs := []) i_260_13 rfl (fun _ => rfl) rfl rfl rfl rfl rfl (pCall_v (p := 79) hs_es1 rfl rfl rfl rfl rfl (by decide) rfl rfl rfl rfl rfl) ?_
        show aW _ _ _ _ _ _ (0, [some (.ref 143), some (.int (zI 1)), some (.int (zI 1))], [], es1)
        refine x0 (r := (1, [some (.ref 143), some (.int (zI 1)), some (.int (zI 1))], [.int (zI 1)], es1)) i_194_0 rfl ?_
        refine x_ifF i_194_1 (by unfold i32 iLO iHI; omega) rfl (by simp only [zC, cR]; omega) ?_
        refine x0 (r := (5, [some (.ref 143), some (.int (zI 1)), some (.int (zI 1))], [.ref 143], es1)) i_194_4 rfl ?_
        refine x0 (r := (6, [some (.ref 143), some (.int (zI 1)), some (.int (zI 1))], [.int (zI 1), .ref 143], es1)) i_194_5 rfl ?_
        refine x_puti (p := 79) (ty := .int) i_194_6 hs_es1 rfl rfl rfl (Or.inl rfl) ?_
        obtain ⟨es10, e_es10⟩ : ∃ z : PH, z = sI es1 79 0 (.int (zI 1)) := ⟨_, rfl⟩
        have hs_es10 : sh es10 := by rw [e_es10]; exact sh_sI hs_es1 (p := 79) (b := 0) rfl rfl
        have hT_es10 : hOK tT es10 := by rw [e_es10]; exact hOK_sI hT_es1 (p := 79) (b := 0) (lo := iLO) (hi := iHI) rfl rfl (i32_rng _)
        rw [← e_es10]
        refine x0 (r := (10, [some (.ref 143), some (.int (zI 1)), some (.int (zI 1))], [.int (zI 1)], es10)) i_194_9 rfl ?_
        refine x_ret (v := some (.int (zI 1))) i_194_10 rfl (fun _ => rfl) rfl rfl (pFin_b (by omega)) ?_
        show aW _ _ _ _ _ _ (16, [some (.ref 143), some (.int (zI bk)), some (.int (zI nt)), none], [.int (zI 1)], es10)
        refine x_ifF i_260_16 (by unfold i32 iLO iHI; omega) rfl (by simp only [zC, cR]; omega) ?_
        refine x0 (r := (20, [some (.ref 143), some (.int (zI bk)), some (.int (zI nt)), none], [.int (zI 0)], es10)) i_260_19 (by rfl) ?_
        refine x_ret (v := some (.int (zI 0))) i_260_20 rfl (fun _ => rfl) rfl rfl rfl ?_
        exact K3 es1 e_es1 v2 e_v2 c3 c5 v7 e_v7 v8 e_v8 c9 es10 e_es10
      · refine x_cmpF i_193_2 (by unfold i32 iLO iHI; omega) (by unfold i32 iLO iHI; omega) rfl (by simp only [zC, cR]; omega) ?_
        refine x0 (r := (6, [some (.int (zI nt)), some (.int (zI 0)), some (.int (zI v8))], [.int (zI nt)], es1)) i_193_5 rfl ?_
        refine x0 (r := (7, [some (.int (zI nt)), some (.int (zI 0)), some (.int (zI v8))], [.int (zI v8), .int (zI nt)], es1)) i_193_6 rfl ?_
        by_cases c11 : v8 < nt
        · refine x_cmpT i_193_7 (by unfold i32 iLO iHI; omega) (by unfold i32 iLO iHI; omega) rfl (by simp only [zC, cR]; omega) ?_
          refine x0 (r := (15, [some (.int (zI nt)), some (.int (zI 0)), some (.int (zI v8))], [.int (zI 0)], es1)) i_193_14 (by rfl) ?_
          refine x_ret (v := some (.int (zI 0))) i_193_15 rfl (fun _ => rfl) rfl rfl (pFin_b (by omega)) ?_
          show aW _ _ _ _ _ _ (20, [some (.ref 143), some (.int (zI bk)), some (.int (zI nt))], [.int (zI 0)], es1)
          refine x_ifF i_210_20 (by unfold i32 iLO iHI; omega) rfl (by simp only [zC, cR]; omega) ?_
          refine x0 (r := (24, [some (.ref 143), some (.int (zI bk)), some (.int (zI nt))], [.int (zI 1)], es1)) i_210_23 (by rfl) ?_
          refine x0 (r := (28, [some (.ref 143), some (.int (zI bk)), some (.int (zI nt))], [.int (zI 1)], es1)) i_210_24 rfl ?_
          refine x_ret (v := some (.int (zI 1))) i_210_28 rfl (fun _ => rfl) rfl rfl (pFin_b (by omega)) ?_
          show aW _ _ _ _ _ _ (12, [some (.ref 143), some (.int (zI bk)), some (.int (zI nt)), none], [.int (zI 1), .ref 143], es1)
          refine x0 (r := (13, [some (.ref 143), some (.int (zI bk)), some (.int (zI nt)), none], [.int (zI 1), .int (zI 1), .ref 143], es1)) i_260_12 (by rfl) ?_
          refine x_call (vs := [.ref 143, .int (zI 1), .int (zI 1)]) (rs := []) i_260_13 rfl (fun _ => rfl) rfl rfl rfl rfl rfl (pCall_v (p := 79) hs_es1 rfl rfl rfl rfl rfl (by decide) rfl rfl rfl rfl rfl) ?_
          show aW _ _ _ _ _ _ (0, [some (.ref 143), some (.int (zI 1)), some (.int (zI 1))], [], es1)
          refine x0 (r := (1, [some (.ref 143), some (.int (zI 1)), some (.int (zI 1))], [.int (zI 1)], es1)) i_194_0 rfl ?_
          refine x_ifF i_194_1 (by unfold i32 iLO iHI; omega) rfl (by simp only [zC, cR]; omega) ?_
          refine x0 (r := (5, [some (.ref 143), some (.int (zI 1)), some (.int (zI 1))], [.ref 143], es1)) i_194_4 rfl ?_
          refine x0 (r := (6, [some (.ref 143), some (.int (zI 1)), some (.int (zI 1))], [.int (zI 1), .ref 143], es1)) i_194_5 rfl ?_
          refine x_puti (p := 79) (ty := .int) i_194_6 hs_es1 rfl rfl rfl (Or.inl rfl) ?_
          obtain ⟨es12, e_es12⟩ : ∃ z : PH, z = sI es1 79 0 (.int (zI 1)) := ⟨_, rfl⟩
          have hs_es12 : sh es12 := by rw [e_es12]; exact sh_sI hs_es1 (p := 79) (b := 0) rfl rfl
          have hT_es12 : hOK tT es12 := by rw [e_es12]; exact hOK_sI hT_es1 (p := 79) (b := 0) (lo := iLO) (hi := iHI) rfl rfl (i32_rng _)
          rw [← e_es12]
          refine x0 (r := (10, [some (.ref 143), some (.int (zI 1)), some (.int (zI 1))], [.int (zI 1)], es12)) i_194_9 rfl ?_
          refine x_ret (v := some (.int (zI 1))) i_194_10 rfl (fun _ => rfl) rfl rfl (pFin_b (by omega)) ?_
          show aW _ _ _ _ _ _ (16, [some (.ref 143), some (.int (zI bk)), some (.int (zI nt)), none], [.int (zI 1)], es12)
          refine x_ifF i_260_16 (by unfold i32 iLO iHI; omega) rfl (by simp only [zC, cR]; omega) ?_
          refine x0 (r := (20, [some (.ref 143), some (.int (zI bk)), some (.int (zI nt)), none], [.int (zI 0)], es12)) i_260_19 (by rfl) ?_
          refine x_ret (v := some (.int (zI 0))) i_260_20 rfl (fun _ => rfl) rfl rfl rfl ?_
          exact K4 es1 e_es1 v2 e_v2 c3 c5 v7 e_v7 v8 e_v8 c9 c11 es12 e_es12
        · refine x_cmpF i_193_7 (by unfold i32 iLO iHI; omega) (by unfold i32 iLO iHI; omega) rfl (by simp only [zC, cR]; omega) ?_
          refine x0 (r := (11, [some (.int (zI nt)), some (.int (zI 0)), some (.int (zI v8))], [.int (zI 1)], es1)) i_193_10 (by rfl) ?_
          refine x0 (r := (15, [some (.int (zI nt)), some (.int (zI 0)), some (.int (zI v8))], [.int (zI 1)], es1)) i_193_11 rfl ?_
          refine x_ret (v := some (.int (zI 1))) i_193_15 rfl (fun _ => rfl) rfl rfl (pFin_b (by omega)) ?_
          show aW _ _ _ _ _ _ (20, [some (.ref 143), some (.int (zI bk)), some (.int (zI nt))], [.int (zI 1)], es1)
          refine x_ifT i_210_20 (by unfold i32 iLO iHI; omega) rfl (by simp only [zC, cR]; omega) ?_
          refine x0 (r := (28, [some (.ref 143), some (.int (zI bk)), some (.int (zI nt))], [.int (zI 0)], es1)) i_210_27 (by rfl) ?_
          refine x_ret (v := some (.int (zI 0))) i_210_28 rfl (fun _ => rfl) rfl rfl (pFin_b (by omega)) ?_
          show aW _ _ _ _ _ _ (12, [some (.ref 143), some (.int (zI bk)), some (.int (zI nt)), none], [.int (zI 0), .ref 143], es1)
          refine x0 (r := (13, [some (.ref 143), some (.int (zI bk)), some (.int (zI nt)), none], [.int (zI 1), .int (zI 0), .ref 143], es1)) i_260_12 (by rfl) ?_
          refine x_call (vs := [.ref 143, .int (zI 0), .int (zI 1)]) (rs := []) i_260_13 rfl (fun _ => rfl) rfl rfl rfl rfl rfl (pCall_v (p := 79) hs_es1 rfl rfl rfl rfl rfl (by decide) rfl rfl rfl rfl rfl) ?_
          show aW _ _ _ _ _ _ (0, [some (.ref 143), some (.int (zI 0)), some (.int (zI 1))], [], es1)
          refine x0 (r := (1, [some (.ref 143), some (.int (zI 0)), some (.int (zI 1))], [.int (zI 0)], es1)) i_194_0 rfl ?_
          refine x_ifT i_194_1 (by unfold i32 iLO iHI; omega) rfl (by simp only [zC, cR]; omega) ?_
          refine x0 (r := (10, [some (.ref 143), some (.int (zI 0)), some (.int (zI 1))], [.int (zI 0)], es1)) i_194_9 rfl ?_
          refine x_ret (v := some (.int (zI 0))) i_194_10 rfl (fun _ => rfl) rfl rfl (pFin_b (by omega)) ?_
          show aW _ _ _ _ _ _ (16, [some (.ref 143), some (.int (zI bk)), some (.int (zI nt)), none], [.int (zI 0)], es1)
          refine x_ifT i_260_16 (by unfold i32 iLO iHI; omega) rfl (by simp only [zC, cR]; omega) ?_
          refine x0 (r := (22, [some (.ref 143), some (.int (zI bk)), some (.int (zI nt)), none], [.ref 143], es1)) i_260_21 rfl ?_
          exact K5 es1 e_es1 v2 e_v2 c3 c5 v7 e_v7 v8 e_v8 c9 c11

theorem s_slip25 {O : pOut} {d kc ks : Nat} {Q : pRes → Prop} {es : PH} {bk nt v : Int} (hs_es : sh es) (h0 : -2147483648 ≤ v ∧ v ≤ 2147483647) (hT_es : hOK tT es)
    (K1 : 0 ≤ v → aW O d 260 kc ks Q (34, [some (.ref 143), some (.int (zI bk)), some (.int (zI nt)), some (.int (zI v))], [.int (zI bk), .ref 143], es))
    (K2 : ¬ (0 ≤ v) → Q (.inl (some (.int (zI v))), es, kc, ks)) :
    aW O d 260 kc ks Q (25, [some (.ref 143), some (.int (zI bk)), some (.int (zI nt)), none], [.int (zI v)], es) := by
  refine x0 (r := (26, [some (.ref 143), some (.int (zI bk)), some (.int (zI nt)), some (.int (zI v))], [], es)) i_260_25 rfl ?_
  refine x0 (r := (27, [some (.ref 143), some (.int (zI bk)), some (.int (zI nt)), some (.int (zI v))], [.int (zI v)], es)) i_260_26 rfl ?_
  by_cases c1 : 0 ≤ v
  · refine x_ifT i_260_27 (by unfold i32 iLO iHI; omega) rfl (by simp only [zC, cR]; omega) ?_
    refine x0 (r := (33, [some (.ref 143), some (.int (zI bk)), some (.int (zI nt)), some (.int (zI v))], [.ref 143], es)) i_260_32 rfl ?_
    refine x0 (r := (34, [some (.ref 143), some (.int (zI bk)), some (.int (zI nt)), some (.int (zI v))], [.int (zI bk), .ref 143], es)) i_260_33 rfl ?_
    exact K1 c1
  · refine x_ifF i_260_27 (by unfold i32 iLO iHI; omega) rfl (by simp only [zC, cR]; omega) ?_
    refine x0 (r := (31, [some (.ref 143), some (.int (zI bk)), some (.int (zI nt)), some (.int (zI v))], [.int (zI v)], es)) i_260_30 rfl ?_
    refine x_ret (v := some (.int (zI v))) i_260_31 rfl (fun _ => rfl) rfl rfl rfl ?_
    exact K2 c1

theorem s_slip37 {O : pOut} {d kc ks : Nat} {Q : pRes → Prop} {es : PH} {bk nt v : Int} (hs_es : sh es) (hn : 0 ≤ nt ∧ nt ≤ 23) (hT_es : hOK tT es)
    (K1 : ∀ v1 : Int, v1 = (gA es 102 nt.toNat).toInt → Q (.inl (some (.int (zI v1))), es, kc, ks)) :
    aW O d 260 kc ks Q (37, [some (.ref 143), some (.int (zI bk)), some (.int (zI nt)), some (.int (zI v))], [], es) := by
  refine x0 (r := (38, [some (.ref 143), some (.int (zI bk)), some (.int (zI nt)), some (.int (zI v))], [.ref 143], es)) i_260_37 rfl ?_
  refine x_getr (p := 79) (k := 166) i_260_38 hs_es rfl rfl ?_
  show aW _ _ _ _ _ _ (41, [some (.ref 143), some (.int (zI bk)), some (.int (zI nt)), some (.int (zI v))], [.ref 166], es)
  refine x0 (r := (42, [some (.ref 143), some (.int (zI bk)), some (.int (zI nt)), some (.int (zI v))], [.int (zI nt), .ref 166], es)) i_260_41 rfl ?_
  refine x_iald (p := 102) i_260_42 hs_es rfl (by unfold i32 iLO iHI; omega) (by omega) (by omega) ?_
  obtain ⟨v1, e_v1⟩ : ∃ z : Int, z = (gA es 102 nt.toNat).toInt := ⟨_, rfl⟩
  rw [← e_v1]
  have r_v1 : iLO ≤ v1 ∧ v1 ≤ iHI := by rw [e_v1]; exact i32_rng _
  unfold iLO iHI at r_v1
  have b_v1 : (0 : Int) ≤ v1 ∧ v1 ≤ (7 : Int) := by rw [e_v1]; exact gA_bd hT_es (p := 102) (k := nt.toNat) rfl (by omega) (by decide)
  refine x_ret (v := some (.int (zI v1))) i_260_43 rfl (fun _ => rfl) rfl rfl rfl ?_
  exact K1 v1 e_v1

theorem s_sls0 {O : pOut} {d kc ks : Nat} {Q : pRes → Prop} {es : PH} {bk sl : Int} (hs_es : sh es) (h0 : -2147483648 ≤ bk ∧ bk ≤ 2147483647) (h1 : -2147483648 ≤ sl ∧ sl ≤ 2147483647) (hT_es : hOK tT es)
    (K1 : ∀ es1 : PH, es1 = sI es 79 0 (.int (zI 0)) → ∀ v2 : Int, v2 = (gA es1 80 (Int.toNat 1)).toInt → bk < 0 → ∀ es4 : PH, es4 = sI es1 79 0 (.int (zI 1)) → Q (.inl (some (.int (zI 0))), es4, kc, ks))
    (K2 : ∀ es1 : PH, es1 = sI es 79 0 (.int (zI 0)) → ∀ v2 : Int, v2 = (gA es1 80 (Int.toNat 1)).toInt → ¬ (bk < 0) → (v2 - 1) < bk → ∀ es6 : PH, es6 = sI es1 79 0 (.int (zI 1)) → Q (.inl (some (.int (zI 0))), es6, kc, ks))
    (K3 : ∀ es1 : PH, es1 = sI es 79 0 (.int (zI 0)) → ∀ v2 : Int, v2 = (gA es1 80 (Int.toNat 1)).toInt → ¬ (bk < 0) → ¬ ((v2 - 1) < bk) → sl < 1 → ∀ es8 : PH, es8 = sI es1 79 0 (.int (zI 1)) → Q (.inl (some (.int (zI 0))), es8, kc, ks))
    (K4 : ∀ es1 : PH, es1 = sI es 79 0 (.int (zI 0)) → ∀ v2 : Int, v2 = (gA es1 80 (Int.toNat 1)).toInt → ¬ (bk < 0) → ¬ ((v2 - 1) < bk) → ¬ (sl < 1) → 7 < sl → ∀ es10 : PH, es10 = sI es1 79 0 (.int (zI 1)) → Q (.inl (some (.int (zI 0))), es10, kc, ks))
    (K5 : ∀ es1 : PH, es1 = sI es 79 0 (.int (zI 0)) → ∀ v2 : Int, v2 = (gA es1 80 (Int.toNat 1)).toInt → ¬ (bk < 0) → ¬ ((v2 - 1) < bk) → ¬ (sl < 1) → ¬ (7 < sl) → aW O (d + 3) 262 kc ks Q (39, [some (.ref 143), some (.int (zI bk)), some (.int (zI sl)), none, none, none], [.ref 143], es1)) :
    aW O (d + 3) 262 kc ks Q (0, [some (.ref 143), some (.int (zI bk)), some (.int (zI sl)), none, none, none], [], es) := by
  refine x0 (r := (1, [some (.ref 143), some (.int (zI bk)), some (.int (zI sl)), none, none, none], [.ref 143], es)) i_262_0 rfl ?_
  refine x0 (r := (2, [some (.ref 143), some (.int (zI bk)), some (.int (zI sl)), none, none, none], [.int (zI 0), .ref 143], es)) i_262_1 (by rfl) ?_
  refine x_puti (p := 79) (ty := .int) i_262_2 hs_es rfl rfl rfl (Or.inl rfl) ?_
  obtain ⟨es1, e_es1⟩ : ∃ z : PH, z = sI es 79 0 (.int (zI 0)) := ⟨_, rfl⟩
  have hs_es1 : sh es1 := by rw [e_es1]; exact sh_sI hs_es (p := 79) (b := 0) rfl rfl
  have hT_es1 : hOK tT es1 := by rw [e_es1]; exact hOK_sI hT_es (p := 79) (b := 0) (lo := iLO) (hi := iHI) rfl rfl (i32_rng _)
  rw [← e_es1]
  refine x0 (r := (6, [some (.ref 143), some (.int (zI bk)), some (.int (zI sl)), none, none, none], [.ref 143], es1)) i_262_5 rfl ?_
  refine x0 (r := (7, [some (.ref 143), some (.int (zI bk)), some (.int (zI sl)), none, none, none], [.ref 143, .ref 143], es1)) i_262_6 rfl ?_
  refine x0 (r := (8, [some (.ref 143), some (.int (zI bk)), some (.int (zI sl)), none, none, none], [.int (zI bk), .ref 143, .ref 143], es1)) i_262_7 rfl ?_
  refine x_call (vs := [.ref 143, .int (zI bk)]) (rs := [.ref 143]) i_262_8 rfl (fun _ => rfl) rfl rfl rfl rfl rfl (pCall_v (p := 79) hs_es1 rfl rfl rfl rfl rfl (by decide) rfl rfl rfl rfl rfl) ?_
  show aW _ _ _ _ _ _ (0, [some (.ref 143), some (.int (zI bk))], [], es1)
  refine x0 (r := (1, [some (.ref 143), some (.int (zI bk))], [.ref 143], es1)) i_203_0 rfl ?_
  refine x0 (r := (2, [some (.ref 143), some (.int (zI bk))], [.int (zI bk), .ref 143], es1)) i_203_1 rfl ?_
  refine x0 (r := (3, [some (.ref 143), some (.int (zI bk))], [.int (zI 1), .int (zI bk), .ref 143], es1)) i_203_2 (by rfl) ?_
  refine x_call (vs := [.ref 143, .int (zI bk), .int (zI 1)]) (rs := []) i_203_3 rfl (fun _ => rfl) rfl rfl rfl rfl rfl (pCall_v (p := 79) hs_es1 rfl rfl rfl rfl rfl (by decide) rfl rfl rfl rfl rfl) ?_
  show aW _ _ _ _ _ _ (0, [some (.ref 143), some (.int (zI bk)), some (.int (zI 1))], [], es1)
  refine x0 (r := (1, [some (.ref 143), some (.int (zI bk)), some (.int (zI 1))], [.int (zI bk)], es1)) i_199_0 rfl ?_
  refine x0 (r := (2, [some (.ref 143), some (.int (zI bk)), some (.int (zI 1))], [.int (zI 0), .int (zI bk)], es1)) i_199_1 (by rfl) ?_
  refine x0 (r := (3, [some (.ref 143), some (.int (zI bk)), some (.int (zI 1))], [.ref 143, .int (zI 0), .int (zI bk)], es1)) i_199_2 rfl ?_
  refine x_getr (p := 79) (k := 144) i_199_3 hs_es1 rfl rfl ?_
  show aW _ _ _ _ _ _ (6, [some (.ref 143), some (.int (zI bk)), some (.int (zI 1))], [.ref 144, .int (zI 0), .int (zI bk)], es1)
  refine x0 (r := (7, [some (.ref 143), some (.int (zI bk)), some (.int (zI 1))], [.int (zI 1), .ref 144, .int (zI 0), .int (zI bk)], es1)) i_199_6 rfl ?_
  refine x_iald (p := 80) i_199_7 hs_es1 rfl (by unfold i32 iLO iHI; omega) (by omega) (by omega) ?_
  obtain ⟨v2, e_v2⟩ : ∃ z : Int, z = (gA es1 80 (Int.toNat 1)).toInt := ⟨_, rfl⟩
  rw [← e_v2]
  have r_v2 : iLO ≤ v2 ∧ v2 ≤ iHI := by rw [e_v2]; exact i32_rng _
  unfold iLO iHI at r_v2
  have b_v2 : (0 : Int) ≤ v2 ∧ v2 ≤ (3 : Int) := by rw [e_v2]; exact gA_bd hT_es1 (p := 80) (k := (Int.toNat 1)) rfl (by omega) (by decide)
  refine x0 (r := (9, [some (.ref 143), some (.int (zI bk)), some (.int (zI 1))], [.int (zI 1), .int (zI v2), .int (zI 0), .int (zI bk)], es1)) i_199_8 (by rfl) ?_
  refine x_isub i_199_9 ?_
  refine x_call (vs := [.int (zI bk), .int (zI 0), .int (zI (v2 - 1))]) (rs := []) i_199_10 rfl (fun _ => rfl) rfl rfl rfl rfl rfl rfl ?_
  show aW _ _ _ _ _ _ (0, [some (.int (zI bk)), some (.int (zI 0)), some (.int (zI (v2 - 1)))], [], es1)
  refine x0 (r := (1, [some (.int (zI bk)), some (.int (zI 0)), some (.int (zI (v2 - 1)))], [.int (zI bk)], es1)) i_193_0 rfl ?_
  refine x0 (r := (2, [some (.int (zI bk)), some (.int (zI 0)), some (.int (zI (v2 - 1)))], [.int (zI 0), .int (zI bk)], es1)) i_193_1 rfl ?_
  by_cases c3 : bk < 0
  · refine x_cmpT i_193_2 (by unfold i32 iLO iHI; omega) (by unfold i32 iLO iHI; omega) rfl (by simp only [zC, cR]; omega) ?_
    refine x0 (r := (15, [some (.int (zI bk)), some (.int (zI 0)), some (.int (zI (v2 - 1)))], [.int (zI 0)], es1)) i_193_14 (by rfl) ?_
    refine x_ret (v := some (.int (zI 0))) i_193_15 rfl (fun _ => rfl) rfl rfl (pFin_b (by omega)) ?_
    show aW _ _ _ _ _ _ (13, [some (.ref 143), some (.int (zI bk)), some (.int (zI 1))], [.int (zI 0)], es1)
    refine x_ifF i_199_13 (by unfold i32 iLO iHI; omega) rfl (by simp only [zC, cR]; omega) ?_
    refine x0 (r := (17, [some (.ref 143), some (.int (zI bk)), some (.int (zI 1))], [.int (zI 1)], es1)) i_199_16 (by rfl) ?_
    refine x0 (r := (21, [some (.ref 143), some (.int (zI bk)), some (.int (zI 1))], [.int (zI 1)], es1)) i_199_17 rfl ?_
    refine x_ret (v := some (.int (zI 1))) i_199_21 rfl (fun _ => rfl) rfl rfl (pFin_b (by omega)) ?_
    show aW _ _ _ _ _ _ (6, [some (.ref 143), some (.int (zI bk))], [.int (zI 1)], es1)
    refine x_ret (v := some (.int (zI 1))) i_203_6 rfl (fun _ => rfl) rfl rfl (pFin_b (by omega)) ?_
    show aW _ _ _ _ _ _ (11, [some (.ref 143), some (.int (zI bk)), some (.int (zI sl)), none, none, none], [.int (zI 1), .ref 143], es1)
    refine x_ifT i_262_11 (by unfold i32 iLO iHI; omega) rfl (by simp only [zC, cR]; omega) ?_
    refine x0 (r := (25, [some (.ref 143), some (.int (zI bk)), some (.int (zI sl)), none, none, none], [.int (zI 1), .ref 143], es1)) i_262_24 (by rfl) ?_
    refine x0 (r := (29, [some (.ref 143), some (.int (zI bk)), some (.int (zI sl)), none, none, none], [.int (zI 1), .ref 143], es1)) i_262_25 rfl ?_
    refine x0 (r := (30, [some (.ref 143), some (.int (zI bk)), some (.int (zI sl)), none, none, none], [.int (zI 1), .int (zI 1), .ref 143], es1)) i_262_29 (by rfl) ?_
    refine x_call (vs := [.ref 143, .int (zI 1), .int (zI 1)]) (rs := []) i_262_30 rfl (fun _ => rfl) rfl rfl rfl rfl rfl (pCall_v (p := 79) hs_es1 rfl rfl rfl rfl rfl (by decide) rfl rfl rfl rfl rfl) ?_
    show aW _ _ _ _ _ _ (0, [some (.ref 143), some (.int (zI 1)), some (.int (zI 1))], [], es1)
    refine x0 (r := (1, [some (.ref 143), some (.int (zI 1)), some (.int (zI 1))], [.int (zI 1)], es1)) i_194_0 rfl ?_
    refine x_ifF i_194_1 (by unfold i32 iLO iHI; omega) rfl (by simp only [zC, cR]; omega) ?_
    refine x0 (r := (5, [some (.ref 143), some (.int (zI 1)), some (.int (zI 1))], [.ref 143], es1)) i_194_4 rfl ?_
    refine x0 (r := (6, [some (.ref 143), some (.int (zI 1)), some (.int (zI 1))], [.int (zI 1), .ref 143], es1)) i_194_5 rfl ?_
    refine x_puti (p := 79) (ty := .int) i_194_6 hs_es1 rfl rfl rfl (Or.inl rfl) ?_
    obtain ⟨es4, e_es4⟩ : ∃ z : PH, z = sI es1 79 0 (.int (zI 1)) := ⟨_, rfl⟩
    have hs_es4 : sh es4 := by rw [e_es4]; exact sh_sI hs_es1 (p := 79) (b := 0) rfl rfl
    have hT_es4 : hOK tT es4 := by rw [e_es4]; exact hOK_sI hT_es1 (p := 79) (b := 0) (lo := iLO) (hi := iHI) rfl rfl (i32_rng _)
    rw [← e_es4]
    refine x0 (r := (10, [some (.ref 143), some (.int (zI 1)), some (.int (zI 1))], [.int (zI 1)], es4)) i_194_9 rfl ?_
    refine x_ret (v := some (.int (zI 1))) i_194_10 rfl (fun _ => rfl) rfl rfl (pFin_b (by omega)) ?_
    show aW _ _ _ _ _ _ (33, [some (.ref 143), some (.int (zI bk)), some (.int (zI sl)), none, none, none], [.int (zI 1)], es4)
    refine x_ifF i_262_33 (by unfold i32 iLO iHI; omega) rfl (by simp only [zC, cR]; omega) ?_
    refine x0 (r := (37, [some (.ref 143), some (.int (zI bk)), some (.int (zI sl)), none, none, none], [.int (zI 0)], es4)) i_262_36 (by rfl) ?_
    refine x_ret (v := some (.int (zI 0))) i_262_37 rfl (fun _ => rfl) rfl rfl rfl ?_
    exact K1 es1 e_es1 v2 e_v2 c3 es4 e_es4
  · refine x_cmpF i_193_2 (by unfold i32 iLO iHI; omega) (by unfold i32 iLO iHI; omega) rfl (by simp only [zC, cR]; omega) ?_
    refine x0 (r := (6, [some (.int (zI bk)), some (.int (zI 0)), some (.int (zI (v2 - 1)))], [.int (zI bk)], es1)) i_193_5 rfl ?_
    refine x0 (r := (7, [some (.int (zI bk)), some (.int (zI 0)), some (.int (zI (v2 - 1)))], [.int (zI (v2 - 1)), .int (zI bk)], es1)) i_193_6 rfl ?_
    by_cases c5 : (v2 - 1) < bk
    · refine x_cmpT i_193_7 (by unfold i32 iLO iHI; omega) (by unfold i32 iLO iHI; omega) rfl (by simp only [zC, cR]; omega) ?_
      refine x0 (r := (15, [some (.int (zI bk)), some (.int (zI 0)), some (.int (zI (v2 - 1)))], [.int (zI 0)], es1)) i_193_14 (by rfl) ?_
      refine x_ret (v := some (.int (zI 0))) i_193_15 rfl (fun _ => rfl) rfl rfl (pFin_b (by omega)) ?_
      show aW _ _ _ _ _ _ (13, [some (.ref 143), some (.int (zI bk)), some (.int (zI 1))], [.int (zI 0)], es1)
      refine x_ifF i_199_13 (by unfold i32 iLO iHI; omega) rfl (by simp only [zC, cR]; omega) ?_
      refine x0 (r := (17, [some (.ref 143), some (.int (zI bk)), some (.int (zI 1))], [.int (zI 1)], es1)) i_199_16 (by rfl) ?_
      refine x0 (r := (21, [some (.ref 143), some (.int (zI bk)), some (.int (zI 1))], [.int (zI 1)], es1)) i_199_17 rfl ?_
      refine x_ret (v := some (.int (zI 1))) i_199_21 rfl (fun _ => rfl) rfl rfl (pFin_b (by omega)) ?_
      show aW _ _ _ _ _ _ (6, [some (.ref 143), some (.int (zI bk))], [.int (zI 1)], es1)
      refine x_ret (v := some (.int (zI 1))) i_203_6 rfl (fun _ => rfl) rfl rfl (pFin_b (by omega)) ?_
      show aW _ _ _ _ _ _ (11, [some (.ref 143), some (.int (zI bk)), some (.int (zI sl)), none, none, none], [.int (zI 1), .ref 143], es1)
      refine x_ifT i_262_11 (by unfold i32 iLO iHI; omega) rfl (by simp only [zC, cR]; omega) ?_
      refine x0 (r := (25, [some (.ref 143), some (.int (zI bk)), some (.int (zI sl)), none, none, none], [.int (zI 1), .ref 143], es1)) i_262_24 (by rfl) ?_
      refine x0 (r := (29, [some (.ref 143), some (.int (zI bk)), some (.int (zI sl)), none, none, none], [.int (zI 1), .ref 143], es1)) i_262_25 rfl ?_
      refine x0 (r := (30, [some (.ref 143), some (.int (zI bk)), some (.int (zI sl)), none, none, none], [.int (zI 1), .int (zI 1), .ref 143], es1)) i_262_29 (by rfl) ?_
      refine x_call (vs := [.ref 143, .int (zI 1), .int (zI 1)]) (rs := []) i_262_30 rfl (fun _ => rfl) rfl rfl rfl rfl rfl (pCall_v (p := 79) hs_es1 rfl rfl rfl rfl rfl (by decide) rfl rfl rfl rfl rfl) ?_
      show aW _ _ _ _ _ _ (0, [some (.ref 143), some (.int (zI 1)), some (.int (zI 1))], [], es1)
      refine x0 (r := (1, [some (.ref 143), some (.int (zI 1)), some (.int (zI 1))], [.int (zI 1)], es1)) i_194_0 rfl ?_
      refine x_ifF i_194_1 (by unfold i32 iLO iHI; omega) rfl (by simp only [zC, cR]; omega) ?_
      refine x0 (r := (5, [some (.ref 143), some (.int (zI 1)), some (.int (zI 1))], [.ref 143], es1)) i_194_4 rfl ?_
      refine x0 (r := (6, [some (.ref 143), some (.int (zI 1)), some (.int (zI 1))], [.int (zI 1), .ref 143], es1)) i_194_5 rfl ?_
      refine x_puti (p := 79) (ty := .int) i_194_6 hs_es1 rfl rfl rfl (Or.inl rfl) ?_
      obtain ⟨es6, e_es6⟩ : ∃ z : PH, z = sI es1 79 0 (.int (zI 1)) := ⟨_, rfl⟩
      have hs_es6 : sh es6 := by rw [e_es6]; exact sh_sI hs_es1 (p := 79) (b := 0) rfl rfl
      have hT_es6 : hOK tT es6 := by rw [e_es6]; exact hOK_sI hT_es1 (p := 79) (b := 0) (lo := iLO) (hi := iHI) rfl rfl (i32_rng _)
      rw [← e_es6]
      refine x0 (r := (10, [some (.ref 143), some (.int (zI 1)), some (.int (zI 1))], [.int (zI 1)], es6)) i_194_9 rfl ?_
      refine x_ret (v := some (.int (zI 1))) i_194_10 rfl (fun _ => rfl) rfl rfl (pFin_b (by omega)) ?_
      show aW _ _ _ _ _ _ (33, [some (.ref 143), some (.int (zI bk)), some (.int (zI sl)), none, none, none], [.int (zI 1)], es6)
      refine x_ifF i_262_33 (by unfold i32 iLO iHI; omega) rfl (by simp only [zC, cR]; omega) ?_
      refine x0 (r := (37, [some (.ref 143), some (.int (zI bk)), some (.int (zI sl)), none, none, none], [.int (zI 0)], es6)) i_262_36 (by rfl) ?_
      refine x_ret (v := some (.int (zI 0))) i_262_37 rfl (fun _ => rfl) rfl rfl rfl ?_
      exact K2 es1 e_es1 v2 e_v2 c3 c5 es6 e_es6
    · refine x_cmpF i_193_7 (by unfold i32 iLO iHI; omega) (by unfold i32 iLO iHI; omega) rfl (by simp only [zC, cR]; omega) ?_
      refine x0 (r := (11, [some (.int (zI bk)), some (.int (zI 0)), some (.int (zI (v2 - 1)))], [.int (zI 1)], es1)) i_193_10 (by rfl) ?_
      refine x0 (r := (15, [some (.int (zI bk)), some (.int (zI 0)), some (.int (zI (v2 - 1)))], [.int (zI 1)], es1)) i_193_11 rfl ?_
      refine x_ret (v := some (.int (zI 1))) i_193_15 rfl (fun _ => rfl) rfl rfl (pFin_b (by omega)) ?_
      show aW _ _ _ _ _ _ (13, [some (.ref 143), some (.int (zI bk)), some (.int (zI 1))], [.int (zI 1)], es1)
      refine x_ifT i_199_13 (by unfold i32 iLO iHI; omega) rfl (by simp only [zC, cR]; omega) ?_
      refine x0 (r := (21, [some (.ref 143), some (.int (zI bk)), some (.int (zI 1))], [.int (zI 0)], es1)) i_199_20 (by rfl) ?_
      refine x_ret (v := some (.int (zI 0))) i_199_21 rfl (fun _ => rfl) rfl rfl (pFin_b (by omega)) ?_
      show aW _ _ _ _ _ _ (6, [some (.ref 143), some (.int (zI bk))], [.int (zI 0)], es1)
      refine x_ret (v := some (.int (zI 0))) i_203_6 rfl (fun _ => rfl) rfl rfl (pFin_b (by omega)) ?_
      show aW _ _ _ _ _ _ (11, [some (.ref 143), some (.int (zI bk)), some (.int (zI sl)), none, none, none], [.int (zI 0), .ref 143], es1)
      refine x_ifF i_262_11 (by unfold i32 iLO iHI; omega) rfl (by simp only [zC, cR]; omega) ?_
      refine x0 (r := (15, [some (.ref 143), some (.int (zI bk)), some (.int (zI sl)), none, none, none], [.int (zI sl), .ref 143], es1)) i_262_14 rfl ?_
      refine x0 (r := (16, [some (.ref 143), some (.int (zI bk)), some (.int (zI sl)), none, none, none], [.int (zI 1), .int (zI sl), .ref 143], es1)) i_262_15 (by rfl) ?_
      refine x0 (r := (18, [some (.ref 143), some (.int (zI bk)), some (.int (zI sl)), none, none, none], [.int (zI 7), .int (zI 1), .int (zI sl), .ref 143], es1)) i_262_16 (by rfl) ?_
      refine x_call (vs := [.int (zI sl), .int (zI 1), .int (zI 7)]) (rs := [.ref 143]) i_262_18 rfl (fun _ => rfl) rfl rfl rfl rfl rfl rfl ?_
      show aW _ _ _ _ _ _ (0, [some (.int (zI sl)), some (.int (zI 1)), some (.int (zI 7))], [], es1)
      refine x0 (r := (1, [some (.int (zI sl)), some (.int (zI 1)), some (.int (zI 7))], [.int (zI sl)], es1)) i_193_0 rfl ?_
      refine x0 (r := (2, [some (.int (zI sl)), some (.int (zI 1)), some (.int (zI 7))], [.int (zI 1), .int (zI sl)], es1)) i_193_1 rfl ?_
      by_cases c7 : sl < 1
      · refine x_cmpT i_193_2 (by unfold i32 iLO iHI; omega) (by unfold i32 iLO iHI; omega) rfl (by simp only [zC, cR]; omega) ?_
        refine x0 (r := (15, [some (.int (zI sl)), some (.int (zI 1)), some (.int (zI 7))], [.int (zI 0)], es1)) i_193_14 (by rfl) ?_
        refine x_ret (v := some (.int (zI 0))) i_193_15 rfl (fun _ => rfl) rfl rfl (pFin_b (by omega)) ?_
        show aW _ _ _ _ _ _ (21, [some (.ref 143), some (.int (zI bk)), some (.int (zI sl)), none, none, none], [.int (zI 0), .ref 143], es1)
        refine x_ifF i_262_21 (by unfold i32 iLO iHI; omega) rfl (by simp only [zC, cR]; omega) ?_
        refine x0 (r := (25, [some (.ref 143), some (.int (zI bk)), some (.int (zI sl)), none, none, none], [.int (zI 1), .ref 143], es1)) i_262_24 (by rfl) ?_
        refine x0 (r := (29, [some (.ref 143), some (.int (zI bk)), some (.int (zI sl)), none, none, none], [.int (zI 1), .ref 143], es1)) i_262_25 rfl ?_
        refine x0 (r := (30, [some (.ref 143), some (.int (zI bk)), some (.int (zI sl)), none, none, none], [.int (zI 1), .int (zI 1), .ref 143], es1)) i_262_29 (by rfl) ?_
        refine x_call (vs := [.ref 143, .int (zI 1), .int (zI 1)]) (rs := []) i_262_30 rfl (fun _ => rfl) rfl rfl rfl rfl rfl (pCall_v (p := 79) hs_es1 rfl rfl rfl rfl rfl (by decide) rfl rfl rfl rfl rfl) ?_
        show aW _ _ _ _ _ _ (0, [some (.ref 143), some (.int (zI 1)), some (.int (zI 1))], [], es1)
        refine x0 (r := (1, [some (.ref 143), some (.int (zI 1)), some (.int (zI 1))], [.int (zI 1)], es1)) i_194_0 rfl ?_
        refine x_ifF i_194_1 (by unfold i32 iLO iHI; omega) rfl (by simp only [zC, cR]; omega) ?_
        refine x0 (r := (5, [some (.ref 143), some (.int (zI 1)), some (.int (zI 1))], [.ref 143], es1)) i_194_4 rfl ?_
        refine x0 (r := (6, [some (.ref 143), some (.int (zI 1)), some (.int (zI 1))], [.int (zI 1), .ref 143], es1)) i_194_5 rfl ?_
        refine x_puti (p := 79) (ty := .int) i_194_6 hs_es1 rfl rfl rfl (Or.inl rfl) ?_
        obtain ⟨es8, e_es8⟩ : ∃ z : PH, z = sI es1 79 0 (.int (zI 1)) := ⟨_, rfl⟩
        have hs_es8 : sh es8 := by rw [e_es8]; exact sh_sI hs_es1 (p := 79) (b := 0) rfl rfl
        have hT_es8 : hOK tT es8 := by rw [e_es8]; exact hOK_sI hT_es1 (p := 79) (b := 0) (lo := iLO) (hi := iHI) rfl rfl (i32_rng _)
        rw [← e_es8]
        refine x0 (r := (10, [some (.ref 143), some (.int (zI 1)), some (.int (zI 1))], [.int (zI 1)], es8)) i_194_9 rfl ?_
        refine x_ret (v := some (.int (zI 1))) i_194_10 rfl (fun _ => rfl) rfl rfl (pFin_b (by omega)) ?_
        show aW _ _ _ _ _ _ (33, [some (.ref 143), some (.int (zI bk)), some (.int (zI sl)), none, none, none], [.int (zI 1)], es8)
        refine x_ifF i_262_33 (by unfold i32 iLO iHI; omega) rfl (by simp only [zC, cR]; omega) ?_
        refine x0 (r := (37, [some (.ref 143), some (.int (zI bk)), some (.int (zI sl)), none, none, none], [.int (zI 0)], es8)) i_262_36 (by rfl) ?_
        refine x_ret (v := some (.int (zI 0))) i_262_37 rfl (fun _ => rfl) rfl rfl rfl ?_
        exact K3 es1 e_es1 v2 e_v2 c3 c5 c7 es8 e_es8
      · refine x_cmpF i_193_2 (by unfold i32 iLO iHI; omega) (by unfold i32 iLO iHI; omega) rfl (by simp only [zC, cR]; omega) ?_
        refine x0 (r := (6, [some (.int (zI sl)), some (.int (zI 1)), some (.int (zI 7))], [.int (zI sl)], es1)) i_193_5 rfl ?_
        refine x0 (r := (7, [some (.int (zI sl)), some (.int (zI 1)), some (.int (zI 7))], [.int (zI 7), .int (zI sl)], es1)) i_193_6 rfl ?_
        by_cases c9 : 7 < sl
        · refine x_cmpT i_193_7 (by unfold i32 iLO iHI; omega) (by unfold i32 iLO iHI; omega) rfl (by simp only [zC, cR]; omega) ?_
          refine x0 (r := (15, [some (.int (zI sl)), some (.int (zI 1)), some (.int (zI 7))], [.int (zI 0)], es1)) i_193_14 (by rfl) ?_
          refine x_ret (v := some (.int (zI 0))) i_193_15 rfl (fun _ => rfl) rfl rfl (pFin_b (by omega)) ?_
          show aW _ _ _ _ _ _ (21, [some (.ref 143), some (.int (zI bk)), some (.int (zI sl)), none, none, none], [.int (zI 0), .ref 143], es1)
          refine x_ifF i_262_21 (by unfold i32 iLO iHI; omega) rfl (by simp only [zC, cR]; omega) ?_
          refine x0 (r := (25, [some (.ref 143), some (.int (zI bk)), some (.int (zI sl)), none, none, none], [.int (zI 1), .ref 143], es1)) i_262_24 (by rfl) ?_
          refine x0 (r := (29, [some (.ref 143), some (.int (zI bk)), some (.int (zI sl)), none, none, none], [.int (zI 1), .ref 143], es1)) i_262_25 rfl ?_
          refine x0 (r := (30, [some (.ref 143), some (.int (zI bk)), some (.int (zI sl)), none, none, none], [.int (zI 1), .int (zI 1), .ref 143], es1)) i_262_29 (by rfl) ?_
          refine x_call (vs := [.ref 143, .int (zI 1), .int (zI 1)]) (rs := []) i_262_30 rfl (fun _ => rfl) rfl rfl rfl rfl rfl (pCall_v (p := 79) hs_es1 rfl rfl rfl rfl rfl (by decide) rfl rfl rfl rfl rfl) ?_
          show aW _ _ _ _ _ _ (0, [some (.ref 143), some (.int (zI 1)), some (.int (zI 1))], [], es1)
          refine x0 (r := (1, [some (.ref 143), some (.int (zI 1)), some (.int (zI 1))], [.int (zI 1)], es1)) i_194_0 rfl ?_
          refine x_ifF i_194_1 (by unfold i32 iLO iHI; omega) rfl (by simp only [zC, cR]; omega) ?_
          refine x0 (r := (5, [some (.ref 143), some (.int (zI 1)), some (.int (zI 1))], [.ref 143], es1)) i_194_4 rfl ?_
          refine x0 (r := (6, [some (.ref 143), some (.int (zI 1)), some (.int (zI 1))], [.int (zI 1), .ref 143], es1)) i_194_5 rfl ?_
          refine x_puti (p := 79) (ty := .int) i_194_6 hs_es1 rfl rfl rfl (Or.inl rfl) ?_
          obtain ⟨es10, e_es10⟩ : ∃ z : PH, z = sI es1 79 0 (.int (zI 1)) := ⟨_, rfl⟩
          have hs_es10 : sh es10 := by rw [e_es10]; exact sh_sI hs_es1 (p := 79) (b := 0) rfl rfl
          have hT_es10 : hOK tT es10 := by rw [e_es10]; exact hOK_sI hT_es1 (p := 79) (b := 0) (lo := iLO) (hi := iHI) rfl rfl (i32_rng _)
          rw [← e_es10]
          refine x0 (r := (10, [some (.ref 143), some (.int (zI 1)), some (.int (zI 1))], [.int (zI 1)], es10)) i_194_9 rfl ?_
          refine x_ret (v := some (.int (zI 1))) i_194_10 rfl (fun _ => rfl) rfl rfl (pFin_b (by omega)) ?_
          show aW _ _ _ _ _ _ (33, [some (.ref 143), some (.int (zI bk)), some (.int (zI sl)), none, none, none], [.int (zI 1)], es10)
          refine x_ifF i_262_33 (by unfold i32 iLO iHI; omega) rfl (by simp only [zC, cR]; omega) ?_
          refine x0 (r := (37, [some (.ref 143), some (.int (zI bk)), some (.int (zI sl)), none, none, none], [.int (zI 0)], es10)) i_262_36 (by rfl) ?_
          refine x_ret (v := some (.int (zI 0))) i_262_37 rfl (fun _ => rfl) rfl rfl rfl ?_
          exact K4 es1 e_es1 v2 e_v2 c3 c5 c7 c9 es10 e_es10
        · refine x_cmpF i_193_7 (by unfold i32 iLO iHI; omega) (by unfold i32 iLO iHI; omega) rfl (by simp only [zC, cR]; omega) ?_
          refine x0 (r := (11, [some (.int (zI sl)), some (.int (zI 1)), some (.int (zI 7))], [.int (zI 1)], es1)) i_193_10 (by rfl) ?_
          refine x0 (r := (15, [some (.int (zI sl)), some (.int (zI 1)), some (.int (zI 7))], [.int (zI 1)], es1)) i_193_11 rfl ?_
          refine x_ret (v := some (.int (zI 1))) i_193_15 rfl (fun _ => rfl) rfl rfl (pFin_b (by omega)) ?_
          show aW _ _ _ _ _ _ (21, [some (.ref 143), some (.int (zI bk)), some (.int (zI sl)), none, none, none], [.int (zI 1), .ref 143], es1)
          refine x_ifT i_262_21 (by unfold i32 iLO iHI; omega) rfl (by simp only [zC, cR]; omega) ?_
          refine x0 (r := (29, [some (.ref 143), some (.int (zI bk)), some (.int (zI sl)), none, none, none], [.int (zI 0), .ref 143], es1)) i_262_28 (by rfl) ?_
          refine x0 (r := (30, [some (.ref 143), some (.int (zI bk)), some (.int (zI sl)), none, none, none], [.int (zI 1), .int (zI 0), .ref 143], es1)) i_262_29 (by rfl) ?_
          refine x_call (vs := [.ref 143, .int (zI 0), .int (zI 1)]) (rs := []) i_262_30 rfl (fun _ => rfl) rfl rfl rfl rfl rfl (pCall_v (p := 79) hs_es1 rfl rfl rfl rfl rfl (by decide) rfl rfl rfl rfl rfl) ?_
          show aW _ _ _ _ _ _ (0, [some (.ref 143), some (.int (zI 0)), some (.int (zI 1))], [], es1)
          refine x0 (r := (1, [some (.ref 143), some (.int (zI 0)), some (.int (zI 1))], [.int (zI 0)], es1)) i_194_0 rfl ?_
          refine x_ifT i_194_1 (by unfold i32 iLO iHI; omega) rfl (by simp only [zC, cR]; omega) ?_
          refine x0 (r := (10, [some (.ref 143), some (.int (zI 0)), some (.int (zI 1))], [.int (zI 0)], es1)) i_194_9 rfl ?_
          refine x_ret (v := some (.int (zI 0))) i_194_10 rfl (fun _ => rfl) rfl rfl (pFin_b (by omega)) ?_
          show aW _ _ _ _ _ _ (33, [some (.ref 143), some (.int (zI bk)), some (.int (zI sl)), none, none, none], [.int (zI 0)], es1)
          refine x_ifT i_262_33 (by unfold i32 iLO iHI; omega) rfl (by simp only [zC, cR]; omega) ?_
          refine x0 (r := (39, [some (.ref 143), some (.int (zI bk)), some (.int (zI sl)), none, none, none], [.ref 143], es1)) i_262_38 rfl ?_
          exact K5 es1 e_es1 v2 e_v2 c3 c5 c7 c9

theorem s_sls42 {O : pOut} {d kc ks : Nat} {Q : pRes → Prop} {es : PH} {bk sl v : Int} (hs_es : sh es) (h0 : -2147483648 ≤ v ∧ v ≤ 2147483647) (hT_es : hOK tT es)
    (K1 : 0 ≤ v → aW O d 262 kc ks Q (51, [some (.ref 143), some (.int (zI bk)), some (.int (zI sl)), some (.int (zI v)), none, none], [.int (zI bk), .ref 143], es))
    (K2 : ¬ (0 ≤ v) → Q (.inl (some (.int (zI v))), es, kc, ks)) :
    aW O d 262 kc ks Q (42, [some (.ref 143), some (.int (zI bk)), some (.int (zI sl)), none, none, none], [.int (zI v)], es) := by
  refine x0 (r := (43, [some (.ref 143), some (.int (zI bk)), some (.int (zI sl)), some (.int (zI v)), none, none], [], es)) i_262_42 rfl ?_
  refine x0 (r := (44, [some (.ref 143), some (.int (zI bk)), some (.int (zI sl)), some (.int (zI v)), none, none], [.int (zI v)], es)) i_262_43 rfl ?_
  by_cases c1 : 0 ≤ v
  · refine x_ifT i_262_44 (by unfold i32 iLO iHI; omega) rfl (by simp only [zC, cR]; omega) ?_
    refine x0 (r := (50, [some (.ref 143), some (.int (zI bk)), some (.int (zI sl)), some (.int (zI v)), none, none], [.ref 143], es)) i_262_49 rfl ?_
    refine x0 (r := (51, [some (.ref 143), some (.int (zI bk)), some (.int (zI sl)), some (.int (zI v)), none, none], [.int (zI bk), .ref 143], es)) i_262_50 rfl ?_
    exact K1 c1
  · refine x_ifF i_262_44 (by unfold i32 iLO iHI; omega) rfl (by simp only [zC, cR]; omega) ?_
    refine x0 (r := (48, [some (.ref 143), some (.int (zI bk)), some (.int (zI sl)), some (.int (zI v)), none, none], [.int (zI v)], es)) i_262_47 rfl ?_
    refine x_ret (v := some (.int (zI v))) i_262_48 rfl (fun _ => rfl) rfl rfl rfl ?_
    exact K2 c1

theorem s_sls54 {O : pOut} {d kc ks : Nat} {Q : pRes → Prop} {es : PH} {bk sl v : Int} (hs_es : sh es) (hT_es : hOK tT es)
    (K1 : aW O d 262 kc ks Q (60, [some (.ref 143), some (.int (zI bk)), some (.int (zI sl)), some (.int (zI v)), some (.int (zI 0)), some (.int (zI 0))], [], es)) :
    aW O d 262 kc ks Q (54, [some (.ref 143), some (.int (zI bk)), some (.int (zI sl)), some (.int (zI v)), none, none], [], es) := by
  refine x0 (r := (55, [some (.ref 143), some (.int (zI bk)), some (.int (zI sl)), some (.int (zI v)), none, none], [.int (zI 0)], es)) i_262_54 (by rfl) ?_
  refine x0 (r := (57, [some (.ref 143), some (.int (zI bk)), some (.int (zI sl)), some (.int (zI v)), some (.int (zI 0)), none], [], es)) i_262_55 rfl ?_
  refine x0 (r := (58, [some (.ref 143), some (.int (zI bk)), some (.int (zI sl)), some (.int (zI v)), some (.int (zI 0)), none], [.int (zI 0)], es)) i_262_57 (by rfl) ?_
  refine x0 (r := (60, [some (.ref 143), some (.int (zI bk)), some (.int (zI sl)), some (.int (zI v)), some (.int (zI 0)), some (.int (zI 0))], [], es)) i_262_58 rfl ?_
  exact K1

theorem s_sls60 {O : pOut} {d kc ks : Nat} {Q : pRes → Prop} {es : PH} {bk sl v c k : Int} (hs_es : sh es) (hb : 0 ≤ bk ∧ bk ≤ 2) (hz : 1 ≤ sl ∧ sl ≤ 7) (hc : 0 ≤ c ∧ c ≤ 24) (hk : 0 ≤ k ∧ k ≤ 24) (hN : 0 ≤ (gA es 80 ((119 + (98 * bk)) + 1).toNat).toInt ∧ (gA es 80 ((119 + (98 * bk)) + 1).toNat).toInt ≤ 24) (hT_es : hOK tT es)
    (K1 : ∀ v1 : Int, v1 = (gA es 80 ((119 + (98 * bk)) + 1).toNat).toInt → v1 ≤ k → aW O (d + 2) 262 kc ks Q (100, [some (.ref 143), some (.int (zI bk)), some (.int (zI sl)), some (.int (zI v)), some (.int (zI c)), some (.int (zI 0))], [], es))
    (K2 : ∀ v1 : Int, v1 = (gA es 80 ((119 + (98 * bk)) + 1).toNat).toInt → ¬ (v1 ≤ k) → ∀ v3 : Int, v3 = (gA es 102 k.toNat).toInt → v3 ≠ sl → aW O (d + 2) 262 kc ks Q (60, [some (.ref 143), some (.int (zI bk)), some (.int (zI sl)), some (.int (zI v)), some (.int (zI (c + 0))), some (.int (zI (k + 1)))], [], es))
    (K3 : ∀ v1 : Int, v1 = (gA es 80 ((119 + (98 * bk)) + 1).toNat).toInt → ¬ (v1 ≤ k) → ∀ v3 : Int, v3 = (gA es 102 k.toNat).toInt → ¬ (v3 ≠ sl) → aW O (d + 2) 262 kc ks Q (60, [some (.ref 143), some (.int (zI bk)), some (.int (zI sl)), some (.int (zI v)), some (.int (zI (c + 1))), some (.int (zI (k + 1)))], [], es)) :
    aW O (d + 2) 262 kc ks Q (60, [some (.ref 143), some (.int (zI bk)), some (.int (zI sl)), some (.int (zI v)), some (.int (zI c)), some (.int (zI k))], [], es) := by
  refine x0 (r := (62, [some (.ref 143), some (.int (zI bk)), some (.int (zI sl)), some (.int (zI v)), some (.int (zI c)), some (.int (zI k))], [.int (zI k)], es)) i_262_60 rfl ?_
  refine x0 (r := (63, [some (.ref 143), some (.int (zI bk)), some (.int (zI sl)), some (.int (zI v)), some (.int (zI c)), some (.int (zI k))], [.ref 143, .int (zI k)], es)) i_262_62 rfl ?_
  refine x0 (r := (64, [some (.ref 143), some (.int (zI bk)), some (.int (zI sl)), some (.int (zI v)), some (.int (zI c)), some (.int (zI k))], [.int (zI bk), .ref 143, .int (zI k)], es)) i_262_63 rfl ?_
  refine x_call (vs := [.ref 143, .int (zI bk)]) (rs := [.int (zI k)]) i_262_64 rfl (fun _ => rfl) rfl rfl rfl rfl rfl (pCall_v (p := 79) hs_es rfl rfl rfl rfl rfl (by decide) rfl rfl rfl rfl rfl) ?_
  show aW _ _ _ _ _ _ (0, [some (.ref 143), some (.int (zI bk))], [], es)
  refine x0 (r := (1, [some (.ref 143), some (.int (zI bk))], [.ref 143], es)) i_205_0 rfl ?_
  refine x0 (r := (2, [some (.ref 143), some (.int (zI bk))], [.int (zI bk), .ref 143], es)) i_205_1 rfl ?_
  refine x0 (r := (3, [some (.ref 143), some (.int (zI bk))], [.int (zI 1), .int (zI bk), .ref 143], es)) i_205_2 (by rfl) ?_
  refine x_call (vs := [.ref 143, .int (zI bk), .int (zI 1)]) (rs := []) i_205_3 rfl (fun _ => rfl) rfl rfl rfl rfl rfl (pCall_v (p := 79) hs_es rfl rfl rfl rfl rfl (by decide) rfl rfl rfl rfl rfl) ?_
  show aW _ _ _ _ _ _ (0, [some (.ref 143), some (.int (zI bk)), some (.int (zI 1))], [], es)
  refine x0 (r := (1, [some (.ref 143), some (.int (zI bk)), some (.int (zI 1))], [.ref 143], es)) i_206_0 rfl ?_
  refine x_getr (p := 79) (k := 144) i_206_1 hs_es rfl rfl ?_
  show aW _ _ _ _ _ _ (4, [some (.ref 143), some (.int (zI bk)), some (.int (zI 1))], [.ref 144], es)
  refine x0 (r := (6, [some (.ref 143), some (.int (zI bk)), some (.int (zI 1))], [.int (zI 119), .ref 144], es)) i_206_4 (by rfl) ?_
  refine x0 (r := (8, [some (.ref 143), some (.int (zI bk)), some (.int (zI 1))], [.int (zI 98), .int (zI 119), .ref 144], es)) i_206_6 (by rfl) ?_
  refine x0 (r := (9, [some (.ref 143), some (.int (zI bk)), some (.int (zI 1))], [.int (zI bk), .int (zI 98), .int (zI 119), .ref 144], es)) i_206_8 rfl ?_
  refine x_imul i_206_9 ?_
  refine x_iadd i_206_10 ?_
  refine x0 (r := (12, [some (.ref 143), some (.int (zI bk)), some (.int (zI 1))], [.int (zI 1), .int (zI (119 + (98 * bk))), .ref 144], es)) i_206_11 rfl ?_
  refine x_iadd i_206_12 ?_
  refine x_iald (p := 80) i_206_13 hs_es rfl (by unfold i32 iLO iHI; omega) (by omega) (by omega) ?_
  obtain ⟨v1, e_v1⟩ : ∃ z : Int, z = (gA es 80 ((119 + (98 * bk)) + 1).toNat).toInt := ⟨_, rfl⟩
  rw [← e_v1]
  have r_v1 : iLO ≤ v1 ∧ v1 ≤ iHI := by rw [e_v1]; exact i32_rng _
  unfold iLO iHI at r_v1
  refine x_ret (v := some (.int (zI v1))) i_206_14 rfl (fun _ => rfl) rfl rfl rfl ?_
  show aW _ _ _ _ _ _ (6, [some (.ref 143), some (.int (zI bk))], [.int (zI v1)], es)
  refine x_ret (v := some (.int (zI v1))) i_205_6 rfl (fun _ => rfl) rfl rfl rfl ?_
  show aW _ _ _ _ _ _ (67, [some (.ref 143), some (.int (zI bk)), some (.int (zI sl)), some (.int (zI v)), some (.int (zI c)), some (.int (zI k))], [.int (zI v1), .int (zI k)], es)
  by_cases c2 : v1 ≤ k
  · refine x_cmpT i_262_67 (by unfold i32 iLO iHI; omega) (by unfold i32 iLO iHI; omega) rfl (by simp only [zC, cR]; omega) ?_
    refine x0 (r := (98, [some (.ref 143), some (.int (zI bk)), some (.int (zI sl)), some (.int (zI v)), some (.int (zI c)), some (.int (zI k))], [.int (zI 0)], es)) i_262_97 (by rfl) ?_
    refine x0 (r := (100, [some (.ref 143), some (.int (zI bk)), some (.int (zI sl)), some (.int (zI v)), some (.int (zI c)), some (.int (zI 0))], [], es)) i_262_98 rfl ?_
    exact K1 v1 e_v1 c2
  · refine x_cmpF i_262_67 (by unfold i32 iLO iHI; omega) (by unfold i32 iLO iHI; omega) rfl (by simp only [zC, cR]; omega) ?_
    refine x0 (r := (72, [some (.ref 143), some (.int (zI bk)), some (.int (zI sl)), some (.int (zI v)), some (.int (zI c)), some (.int (zI k))], [.int (zI c)], es)) i_262_70 rfl ?_
    refine x0 (r := (73, [some (.ref 143), some (.int (zI bk)), some (.int (zI sl)), some (.int (zI v)), some (.int (zI c)), some (.int (zI k))], [.ref 143, .int (zI c)], es)) i_262_72 rfl ?_
    refine x_getr (p := 79) (k := 166) i_262_73 hs_es rfl rfl ?_
    show aW _ _ _ _ _ _ (76, [some (.ref 143), some (.int (zI bk)), some (.int (zI sl)), some (.int (zI v)), some (.int (zI c)), some (.int (zI k))], [.ref 166, .int (zI c)], es)
    refine x0 (r := (78, [some (.ref 143), some (.int (zI bk)), some (.int (zI sl)), some (.int (zI v)), some (.int (zI c)), some (.int (zI k))], [.int (zI k), .ref 166, .int (zI c)], es)) i_262_76 rfl ?_
    refine x_iald (p := 102) i_262_78 hs_es rfl (by unfold i32 iLO iHI; omega) (by omega) (by omega) ?_
    obtain ⟨v3, e_v3⟩ : ∃ z : Int, z = (gA es 102 k.toNat).toInt := ⟨_, rfl⟩
    rw [← e_v3]
    have r_v3 : iLO ≤ v3 ∧ v3 ≤ iHI := by rw [e_v3]; exact i32_rng _
    unfold iLO iHI at r_v3
    have b_v3 : (0 : Int) ≤ v3 ∧ v3 ≤ (7 : Int) := by rw [e_v3]; exact gA_bd hT_es (p := 102) (k := k.toNat) rfl (by omega) (by decide)
    refine x0 (r := (80, [some (.ref 143), some (.int (zI bk)), some (.int (zI sl)), some (.int (zI v)), some (.int (zI c)), some (.int (zI k))], [.int (zI sl), .int (zI v3), .int (zI c)], es)) i_262_79 rfl ?_
    by_cases c4 : v3 ≠ sl
    · refine x_cmpT i_262_80 (by unfold i32 iLO iHI; omega) (by unfold i32 iLO iHI; omega) rfl (by simp only [zC, cR]; omega) ?_
      refine x0 (r := (88, [some (.ref 143), some (.int (zI bk)), some (.int (zI sl)), some (.int (zI v)), some (.int (zI c)), some (.int (zI k))], [.int (zI 0), .int (zI c)], es)) i_262_87 (by rfl) ?_
      refine x_iadd i_262_88 ?_
      refine x0 (r := (91, [some (.ref 143), some (.int (zI bk)), some (.int (zI sl)), some (.int (zI v)), some (.int (zI (c + 0))), some (.int (zI k))], [], es)) i_262_89 rfl ?_
      refine x_iinc (x := k) i_262_91 rfl (by show 5 < 6; decide) ?_
      show aW _ _ _ _ _ _ (94, [some (.ref 143), some (.int (zI bk)), some (.int (zI sl)), some (.int (zI v)), some (.int (zI (c + 0))), some (.int (zI (k + 1)))], [], es)
      refine x0 (r := (60, [some (.ref 143), some (.int (zI bk)), some (.int (zI sl)), some (.int (zI v)), some (.int (zI (c + 0))), some (.int (zI (k + 1)))], [], es)) i_262_94 rfl ?_
      exact K2 v1 e_v1 c2 v3 e_v3 c4
    · refine x_cmpF i_262_80 (by unfold i32 iLO iHI; omega) (by unfold i32 iLO iHI; omega) rfl (by simp only [zC, cR]; omega) ?_
      refine x0 (r := (84, [some (.ref 143), some (.int (zI bk)), some (.int (zI sl)), some (.int (zI v)), some (.int (zI c)), some (.int (zI k))], [.int (zI 1), .int (zI c)], es)) i_262_83 (by rfl) ?_
      refine x0 (r := (88, [some (.ref 143), some (.int (zI bk)), some (.int (zI sl)), some (.int (zI v)), some (.int (zI c)), some (.int (zI k))], [.int (zI 1), .int (zI c)], es)) i_262_84 rfl ?_
      refine x_iadd i_262_88 ?_
      refine x0 (r := (91, [some (.ref 143), some (.int (zI bk)), some (.int (zI sl)), some (.int (zI v)), some (.int (zI (c + 1))), some (.int (zI k))], [], es)) i_262_89 rfl ?_
      refine x_iinc (x := k) i_262_91 rfl (by show 5 < 6; decide) ?_
      show aW _ _ _ _ _ _ (94, [some (.ref 143), some (.int (zI bk)), some (.int (zI sl)), some (.int (zI v)), some (.int (zI (c + 1))), some (.int (zI (k + 1)))], [], es)
      refine x0 (r := (60, [some (.ref 143), some (.int (zI bk)), some (.int (zI sl)), some (.int (zI v)), some (.int (zI (c + 1))), some (.int (zI (k + 1)))], [], es)) i_262_94 rfl ?_
      exact K3 v1 e_v1 c2 v3 e_v3 c4

theorem s_sls100 {O : pOut} {d kc ks : Nat} {Q : pRes → Prop} {es : PH} {bk sl v c k : Int} (hs_es : sh es) (hz : 1 ≤ sl ∧ sl ≤ 7) (hc : 0 ≤ c ∧ c ≤ 60) (hk : 0 ≤ k ∧ k ≤ 30) (hL : (gI es 79 41).toInt ≤ 30) (hT_es : hOK tT es)
    (K1 : ∀ v1 : Int, v1 = (gI es 79 41).toInt → v1 ≤ k → Q (.inl (some (.int (zI c))), es, kc, ks))
    (K2 : ∀ v1 : Int, v1 = (gI es 79 41).toInt → ¬ (v1 ≤ k) → sl ≠ 6 → Q (.inl (some (.int (zI c))), es, kc, ks))
    (K3 : ∀ v1 : Int, v1 = (gI es 79 41).toInt → ¬ (v1 ≤ k) → ¬ (sl ≠ 6) → ∀ v4 : Int, v4 = (gA es 103 k.toNat).toInt → 0 ≤ v4 → aW O d 262 kc ks Q (100, [some (.ref 143), some (.int (zI bk)), some (.int (zI sl)), some (.int (zI v)), some (.int (zI (c + 0))), some (.int (zI (k + 1)))], [], es))
    (K4 : ∀ v1 : Int, v1 = (gI es 79 41).toInt → ¬ (v1 ≤ k) → ¬ (sl ≠ 6) → ∀ v4 : Int, v4 = (gA es 103 k.toNat).toInt → ¬ (0 ≤ v4) → aW O d 262 kc ks Q (100, [some (.ref 143), some (.int (zI bk)), some (.int (zI sl)), some (.int (zI v)), some (.int (zI (c + 1))), some (.int (zI (k + 1)))], [], es)) :
    aW O d 262 kc ks Q (100, [some (.ref 143), some (.int (zI bk)), some (.int (zI sl)), some (.int (zI v)), some (.int (zI c)), some (.int (zI k))], [], es) := by
  refine x0 (r := (102, [some (.ref 143), some (.int (zI bk)), some (.int (zI sl)), some (.int (zI v)), some (.int (zI c)), some (.int (zI k))], [.int (zI k)], es)) i_262_100 rfl ?_
  refine x0 (r := (103, [some (.ref 143), some (.int (zI bk)), some (.int (zI sl)), some (.int (zI v)), some (.int (zI c)), some (.int (zI k))], [.ref 143, .int (zI k)], es)) i_262_102 rfl ?_
  refine x_geti (p := 79) i_262_103 hs_es rfl rfl ?_
  obtain ⟨v1, e_v1⟩ : ∃ z : Int, z = (gI es 79 41).toInt := ⟨_, rfl⟩
  rw [← e_v1]
  have r_v1 : iLO ≤ v1 ∧ v1 ≤ iHI := by rw [e_v1]; exact i32_rng _
  unfold iLO iHI at r_v1
  have b_v1 : (0 : Int) ≤ v1 ∧ v1 ≤ (30 : Int) := by rw [e_v1]; exact gI_bd hT_es (p := 79) (b := 41) rfl rfl
  by_cases c2 : v1 ≤ k
  · refine x_cmpT i_262_106 (by unfold i32 iLO iHI; omega) (by unfold i32 iLO iHI; omega) rfl (by simp only [zC, cR]; omega) ?_
    refine x0 (r := (143, [some (.ref 143), some (.int (zI bk)), some (.int (zI sl)), some (.int (zI v)), some (.int (zI c)), some (.int (zI k))], [.int (zI c)], es)) i_262_141 rfl ?_
    refine x_ret (v := some (.int (zI c))) i_262_143 rfl (fun _ => rfl) rfl rfl rfl ?_
    exact K1 v1 e_v1 c2
  · refine x_cmpF i_262_106 (by unfold i32 iLO iHI; omega) (by unfold i32 iLO iHI; omega) rfl (by simp only [zC, cR]; omega) ?_
    refine x0 (r := (110, [some (.ref 143), some (.int (zI bk)), some (.int (zI sl)), some (.int (zI v)), some (.int (zI c)), some (.int (zI k))], [.int (zI sl)], es)) i_262_109 rfl ?_
    refine x0 (r := (112, [some (.ref 143), some (.int (zI bk)), some (.int (zI sl)), some (.int (zI v)), some (.int (zI c)), some (.int (zI k))], [.int (zI 6), .int (zI sl)], es)) i_262_110 (by rfl) ?_
    by_cases c3 : sl ≠ 6
    · refine x_cmpT i_262_112 (by unfold i32 iLO iHI; omega) (by unfold i32 iLO iHI; omega) rfl (by simp only [zC, cR]; omega) ?_
      refine x0 (r := (143, [some (.ref 143), some (.int (zI bk)), some (.int (zI sl)), some (.int (zI v)), some (.int (zI c)), some (.int (zI k))], [.int (zI c)], es)) i_262_141 rfl ?_
      refine x_ret (v := some (.int (zI c))) i_262_143 rfl (fun _ => rfl) rfl rfl rfl ?_
      exact K2 v1 e_v1 c2 c3
    · refine x_cmpF i_262_112 (by unfold i32 iLO iHI; omega) (by unfold i32 iLO iHI; omega) rfl (by simp only [zC, cR]; omega) ?_
      refine x0 (r := (117, [some (.ref 143), some (.int (zI bk)), some (.int (zI sl)), some (.int (zI v)), some (.int (zI c)), some (.int (zI k))], [.int (zI c)], es)) i_262_115 rfl ?_
      refine x0 (r := (118, [some (.ref 143), some (.int (zI bk)), some (.int (zI sl)), some (.int (zI v)), some (.int (zI c)), some (.int (zI k))], [.ref 143, .int (zI c)], es)) i_262_117 rfl ?_
      refine x_getr (p := 79) (k := 167) i_262_118 hs_es rfl rfl ?_
      show aW _ _ _ _ _ _ (121, [some (.ref 143), some (.int (zI bk)), some (.int (zI sl)), some (.int (zI v)), some (.int (zI c)), some (.int (zI k))], [.ref 167, .int (zI c)], es)
      refine x0 (r := (123, [some (.ref 143), some (.int (zI bk)), some (.int (zI sl)), some (.int (zI v)), some (.int (zI c)), some (.int (zI k))], [.int (zI k), .ref 167, .int (zI c)], es)) i_262_121 rfl ?_
      refine x_iald (p := 103) i_262_123 hs_es rfl (by unfold i32 iLO iHI; omega) (by omega) (by omega) ?_
      obtain ⟨v4, e_v4⟩ : ∃ z : Int, z = (gA es 103 k.toNat).toInt := ⟨_, rfl⟩
      rw [← e_v4]
      have r_v4 : iLO ≤ v4 ∧ v4 ≤ iHI := by rw [e_v4]; exact i32_rng _
      unfold iLO iHI at r_v4
      have b_v4 : (-1 : Int) ≤ v4 ∧ v4 ≤ (23 : Int) := by rw [e_v4]; exact gA_bd hT_es (p := 103) (k := k.toNat) rfl (by omega) (by decide)
      by_cases c5 : 0 ≤ v4
      · refine x_ifT i_262_124 (by unfold i32 iLO iHI; omega) rfl (by simp only [zC, cR]; omega) ?_
        refine x0 (r := (132, [some (.ref 143), some (.int (zI bk)), some (.int (zI sl)), some (.int (zI v)), some (.int (zI c)), some (.int (zI k))], [.int (zI 0), .int (zI c)], es)) i_262_131 (by rfl) ?_
        refine x_iadd i_262_132 ?_
        refine x0 (r := (135, [some (.ref 143), some (.int (zI bk)), some (.int (zI sl)), some (.int (zI v)), some (.int (zI (c + 0))), some (.int (zI k))], [], es)) i_262_133 rfl ?_
        refine x_iinc (x := k) i_262_135 rfl (by show 5 < 6; decide) ?_
        show aW _ _ _ _ _ _ (138, [some (.ref 143), some (.int (zI bk)), some (.int (zI sl)), some (.int (zI v)), some (.int (zI (c + 0))), some (.int (zI (k + 1)))], [], es)
        refine x0 (r := (100, [some (.ref 143), some (.int (zI bk)), some (.int (zI sl)), some (.int (zI v)), some (.int (zI (c + 0))), some (.int (zI (k + 1)))], [], es)) i_262_138 rfl ?_
        exact K3 v1 e_v1 c2 c3 v4 e_v4 c5
      · refine x_ifF i_262_124 (by unfold i32 iLO iHI; omega) rfl (by simp only [zC, cR]; omega) ?_
        refine x0 (r := (128, [some (.ref 143), some (.int (zI bk)), some (.int (zI sl)), some (.int (zI v)), some (.int (zI c)), some (.int (zI k))], [.int (zI 1), .int (zI c)], es)) i_262_127 (by rfl) ?_
        refine x0 (r := (132, [some (.ref 143), some (.int (zI bk)), some (.int (zI sl)), some (.int (zI v)), some (.int (zI c)), some (.int (zI k))], [.int (zI 1), .int (zI c)], es)) i_262_128 rfl ?_
        refine x_iadd i_262_132 ?_
        refine x0 (r := (135, [some (.ref 143), some (.int (zI bk)), some (.int (zI sl)), some (.int (zI v)), some (.int (zI (c + 1))), some (.int (zI k))], [], es)) i_262_133 rfl ?_
        refine x_iinc (x := k) i_262_135 rfl (by show 5 < 6; decide) ?_
        show aW _ _ _ _ _ _ (138, [some (.ref 143), some (.int (zI bk)), some (.int (zI sl)), some (.int (zI v)), some (.int (zI (c + 1))), some (.int (zI (k + 1)))], [], es)
        refine x0 (r := (100, [some (.ref 143), some (.int (zI bk)), some (.int (zI sl)), some (.int (zI v)), some (.int (zI (c + 1))), some (.int (zI (k + 1)))], [], es)) i_262_138 rfl ?_
        exact K4 v1 e_v1 c2 c3 v4 e_v4 c5
theorem s_sh0 {O : pOut} {d kc ks : Nat} {Q : pRes → Prop} {es : PH} {fi se cp : Int} (hs_es : sh es) (h0 : -2147483648 ≤ fi ∧ fi ≤ 2147483647) (h1 : -2147483648 ≤ se ∧ se ≤ 2147483647) (h2 : -2147483648 ≤ cp ∧ cp ≤ 2147483647) (hT_es : hOK tT es)
    (K1 : ∀ es1 : PH, es1 = sI es 79 0 (.int (zI 0)) → ∀ v2 : Int, v2 = (gA es1 80 (Int.toNat 1)).toInt → fi < 0 → ∀ es4 : PH, es4 = sI es1 79 0 (.int (zI 1)) → Q (.inl (some (.int (zI 0))), es4, kc, ks))
    (K2 : ∀ es1 : PH, es1 = sI es 79 0 (.int (zI 0)) → ∀ v2 : Int, v2 = (gA es1 80 (Int.toNat 1)).toInt → ¬ (fi < 0) → (v2 - 1) < fi → ∀ es6 : PH, es6 = sI es1 79 0 (.int (zI 1)) → Q (.inl (some (.int (zI 0))), es6, kc, ks))
    (K3 : ∀ es1 : PH, es1 = sI es 79 0 (.int (zI 0)) → ∀ v2 : Int, v2 = (gA es1 80 (Int.toNat 1)).toInt → ¬ (fi < 0) → ¬ ((v2 - 1) < fi) → ∀ v7 : Int, v7 = (gA es1 80 (Int.toNat 1)).toInt → se < 0 → ∀ es9 : PH, es9 = sI es1 79 0 (.int (zI 1)) → Q (.inl (some (.int (zI 0))), es9, kc, ks))
    (K4 : ∀ es1 : PH, es1 = sI es 79 0 (.int (zI 0)) → ∀ v2 : Int, v2 = (gA es1 80 (Int.toNat 1)).toInt → ¬ (fi < 0) → ¬ ((v2 - 1) < fi) → ∀ v7 : Int, v7 = (gA es1 80 (Int.toNat 1)).toInt → ¬ (se < 0) → (v7 - 1) < se → ∀ es11 : PH, es11 = sI es1 79 0 (.int (zI 1)) → Q (.inl (some (.int (zI 0))), es11, kc, ks))
    (K5 : ∀ es1 : PH, es1 = sI es 79 0 (.int (zI 0)) → ∀ v2 : Int, v2 = (gA es1 80 (Int.toNat 1)).toInt → ¬ (fi < 0) → ¬ ((v2 - 1) < fi) → ∀ v7 : Int, v7 = (gA es1 80 (Int.toNat 1)).toInt → ¬ (se < 0) → ¬ ((v7 - 1) < se) → aW O (d + 3) 269 kc ks Q (37, [some (.ref 143), some (.int (zI fi)), some (.int (zI se)), some (.int (zI cp)), none, none, none, none, none, none], [.ref 143], es1)) :
    aW O (d + 3) 269 kc ks Q (0, [some (.ref 143), some (.int (zI fi)), some (.int (zI se)), some (.int (zI cp)), none, none, none, none, none, none], [], es) := by
  refine x0 (r := (1, [some (.ref 143), some (.int (zI fi)), some (.int (zI se)), some (.int (zI cp)), none, none, none, none, none, none], [.ref 143], es)) i_269_0 rfl ?_
  refine x0 (r := (2, [some (.ref 143), some (.int (zI fi)), some (.int (zI se)), some (.int (zI cp)), none, none, none, none, none, none], [.int (zI 0), .ref 143], es)) i_269_1 (by rfl) ?_
  refine x_puti (p := 79) (ty := .int) i_269_2 hs_es rfl rfl rfl (Or.inl rfl) ?_
  obtain ⟨es1, e_es1⟩ : ∃ z : PH, z = sI es 79 0 (.int (zI 0)) := ⟨_, rfl⟩
  have hs_es1 : sh es1 := by rw [e_es1]; exact sh_sI hs_es (p := 79) (b := 0) rfl rfl
  have hT_es1 : hOK tT es1 := by rw [e_es1]; exact hOK_sI hT_es (p := 79) (b := 0) (lo := iLO) (hi := iHI) rfl rfl (i32_rng _)
  rw [← e_es1]
  refine x0 (r := (6, [some (.ref 143), some (.int (zI fi)), some (.int (zI se)), some (.int (zI cp)), none, none, none, none, none, none], [.ref 143], es1)) i_269_5 rfl ?_
  refine x0 (r := (7, [some (.ref 143), some (.int (zI fi)), some (.int (zI se)), some (.int (zI cp)), none, none, none, none, none, none], [.ref 143, .ref 143], es1)) i_269_6 rfl ?_
  refine x0 (r := (8, [some (.ref 143), some (.int (zI fi)), some (.int (zI se)), some (.int (zI cp)), none, none, none, none, none, none], [.int (zI fi), .ref 143, .ref 143], es1)) i_269_7 rfl ?_
  refine x_call (vs := [.ref 143, .int (zI fi)]) (rs := [.ref 143]) i_269_8 rfl (fun _ => rfl) rfl rfl rfl rfl rfl (pCall_v (p := 79) hs_es1 rfl rfl rfl rfl rfl (by decide) rfl rfl rfl rfl rfl) ?_
  show aW _ _ _ _ _ _ (0, [some (.ref 143), some (.int (zI fi))], [], es1)
  refine x0 (r := (1, [some (.ref 143), some (.int (zI fi))], [.ref 143], es1)) i_203_0 rfl ?_
  refine x0 (r := (2, [some (.ref 143), some (.int (zI fi))], [.int (zI fi), .ref 143], es1)) i_203_1 rfl ?_
  refine x0 (r := (3, [some (.ref 143), some (.int (zI fi))], [.int (zI 1), .int (zI fi), .ref 143], es1)) i_203_2 (by rfl) ?_
  refine x_call (vs := [.ref 143, .int (zI fi), .int (zI 1)]) (rs := []) i_203_3 rfl (fun _ => rfl) rfl rfl rfl rfl rfl (pCall_v (p := 79) hs_es1 rfl rfl rfl rfl rfl (by decide) rfl rfl rfl rfl rfl) ?_
  show aW _ _ _ _ _ _ (0, [some (.ref 143), some (.int (zI fi)), some (.int (zI 1))], [], es1)
  refine x0 (r := (1, [some (.ref 143), some (.int (zI fi)), some (.int (zI 1))], [.int (zI fi)], es1)) i_199_0 rfl ?_
  refine x0 (r := (2, [some (.ref 143), some (.int (zI fi)), some (.int (zI 1))], [.int (zI 0), .int (zI fi)], es1)) i_199_1 (by rfl) ?_
  refine x0 (r := (3, [some (.ref 143), some (.int (zI fi)), some (.int (zI 1))], [.ref 143, .int (zI 0), .int (zI fi)], es1)) i_199_2 rfl ?_
  refine x_getr (p := 79) (k := 144) i_199_3 hs_es1 rfl rfl ?_
  show aW _ _ _ _ _ _ (6, [some (.ref 143), some (.int (zI fi)), some (.int (zI 1))], [.ref 144, .int (zI 0), .int (zI fi)], es1)
  refine x0 (r := (7, [some (.ref 143), some (.int (zI fi)), some (.int (zI 1))], [.int (zI 1), .ref 144, .int (zI 0), .int (zI fi)], es1)) i_199_6 rfl ?_
  refine x_iald (p := 80) i_199_7 hs_es1 rfl (by unfold i32 iLO iHI; omega) (by omega) (by omega) ?_
  obtain ⟨v2, e_v2⟩ : ∃ z : Int, z = (gA es1 80 (Int.toNat 1)).toInt := ⟨_, rfl⟩
  rw [← e_v2]
  have r_v2 : iLO ≤ v2 ∧ v2 ≤ iHI := by rw [e_v2]; exact i32_rng _
  unfold iLO iHI at r_v2
  have b_v2 : (0 : Int) ≤ v2 ∧ v2 ≤ (3 : Int) := by rw [e_v2]; exact gA_bd hT_es1 (p := 80) (k := (Int.toNat 1)) rfl (by omega) (by decide)
  refine x0 (r := (9, [some (.ref 143), some (.int (zI fi)), some (.int (zI 1))], [.int (zI 1), .int (zI v2), .int (zI 0), .int (zI fi)], es1)) i_199_8 (by rfl) ?_
  refine x_isub i_199_9 ?_
  refine x_call (vs := [.int (zI fi), .int (zI 0), .int (zI (v2 - 1))]) (rs := []) i_199_10 rfl (fun _ => rfl) rfl rfl rfl rfl rfl rfl ?_
  show aW _ _ _ _ _ _ (0, [some (.int (zI fi)), some (.int (zI 0)), some (.int (zI (v2 - 1)))], [], es1)
  refine x0 (r := (1, [some (.int (zI fi)), some (.int (zI 0)), some (.int (zI (v2 - 1)))], [.int (zI fi)], es1)) i_193_0 rfl ?_
  refine x0 (r := (2, [some (.int (zI fi)), some (.int (zI 0)), some (.int (zI (v2 - 1)))], [.int (zI 0), .int (zI fi)], es1)) i_193_1 rfl ?_
  by_cases c3 : fi < 0
  · refine x_cmpT i_193_2 (by unfold i32 iLO iHI; omega) (by unfold i32 iLO iHI; omega) rfl (by simp only [zC, cR]; omega) ?_
    refine x0 (r := (15, [some (.int (zI fi)), some (.int (zI 0)), some (.int (zI (v2 - 1)))], [.int (zI 0)], es1)) i_193_14 (by rfl) ?_
    refine x_ret (v := some (.int (zI 0))) i_193_15 rfl (fun _ => rfl) rfl rfl (pFin_b (by omega)) ?_
    show aW _ _ _ _ _ _ (13, [some (.ref 143), some (.int (zI fi)), some (.int (zI 1))], [.int (zI 0)], es1)
    refine x_ifF i_199_13 (by unfold i32 iLO iHI; omega) rfl (by simp only [zC, cR]; omega) ?_
    refine x0 (r := (17, [some (.ref 143), some (.int (zI fi)), some (.int (zI 1))], [.int (zI 1)], es1)) i_199_16 (by rfl) ?_
    refine x0 (r := (21, [some (.ref 143), some (.int (zI fi)), some (.int (zI 1))], [.int (zI 1)], es1)) i_199_17 rfl ?_
    refine x_ret (v := some (.int (zI 1))) i_199_21 rfl (fun _ => rfl) rfl rfl (pFin_b (by omega)) ?_
    show aW _ _ _ _ _ _ (6, [some (.ref 143), some (.int (zI fi))], [.int (zI 1)], es1)
    refine x_ret (v := some (.int (zI 1))) i_203_6 rfl (fun _ => rfl) rfl rfl (pFin_b (by omega)) ?_
    show aW _ _ _ _ _ _ (11, [some (.ref 143), some (.int (zI fi)), some (.int (zI se)), some (.int (zI cp)), none, none, none, none, none, none], [.int (zI 1), .ref 143], es1)
    refine x_ifT i_269_11 (by unfold i32 iLO iHI; omega) rfl (by simp only [zC, cR]; omega) ?_
    refine x0 (r := (23, [some (.ref 143), some (.int (zI fi)), some (.int (zI se)), some (.int (zI cp)), none, none, none, none, none, none], [.int (zI 1), .ref 143], es1)) i_269_22 (by rfl) ?_
    refine x0 (r := (27, [some (.ref 143), some (.int (zI fi)), some (.int (zI se)), some (.int (zI cp)), none, none, none, none, none, none], [.int (zI 1), .ref 143], es1)) i_269_23 rfl ?_
    refine x0 (r := (28, [some (.ref 143), some (.int (zI fi)), some (.int (zI se)), some (.int (zI cp)), none, none, none, none, none, none], [.int (zI 1), .int (zI 1), .ref 143], es1)) i_269_27 (by rfl) ?_
    refine x_call (vs := [.ref 143, .int (zI 1), .int (zI 1)]) (rs := []) i_269_28 rfl (fun _ => rfl) rfl rfl rfl rfl rfl (pCall_v (p := 79) hs_es1 rfl rfl rfl rfl rfl (by decide) rfl rfl rfl rfl rfl) ?_
    show aW _ _ _ _ _ _ (0, [some (.ref 143), some (.int (zI 1)), some (.int (zI 1))], [], es1)
    refine x0 (r := (1, [some (.ref 143), some (.int (zI 1)), some (.int (zI 1))], [.int (zI 1)], es1)) i_194_0 rfl ?_
    refine x_ifF i_194_1 (by unfold i32 iLO iHI; omega) rfl (by simp only [zC, cR]; omega) ?_
    refine x0 (r := (5, [some (.ref 143), some (.int (zI 1)), some (.int (zI 1))], [.ref 143], es1)) i_194_4 rfl ?_
    refine x0 (r := (6, [some (.ref 143), some (.int (zI 1)), some (.int (zI 1))], [.int (zI 1), .ref 143], es1)) i_194_5 rfl ?_
    refine x_puti (p := 79) (ty := .int) i_194_6 hs_es1 rfl rfl rfl (Or.inl rfl) ?_
    obtain ⟨es4, e_es4⟩ : ∃ z : PH, z = sI es1 79 0 (.int (zI 1)) := ⟨_, rfl⟩
    have hs_es4 : sh es4 := by rw [e_es4]; exact sh_sI hs_es1 (p := 79) (b := 0) rfl rfl
    have hT_es4 : hOK tT es4 := by rw [e_es4]; exact hOK_sI hT_es1 (p := 79) (b := 0) (lo := iLO) (hi := iHI) rfl rfl (i32_rng _)
    rw [← e_es4]
    refine x0 (r := (10, [some (.ref 143), some (.int (zI 1)), some (.int (zI 1))], [.int (zI 1)], es4)) i_194_9 rfl ?_
    refine x_ret (v := some (.int (zI 1))) i_194_10 rfl (fun _ => rfl) rfl rfl (pFin_b (by omega)) ?_
    show aW _ _ _ _ _ _ (31, [some (.ref 143), some (.int (zI fi)), some (.int (zI se)), some (.int (zI cp)), none, none, none, none, none, none], [.int (zI 1)], es4)
    refine x_ifF i_269_31 (by unfold i32 iLO iHI; omega) rfl (by simp only [zC, cR]; omega) ?_
    refine x0 (r := (35, [some (.ref 143), some (.int (zI fi)), some (.int (zI se)), some (.int (zI cp)), none, none, none, none, none, none], [.int (zI 0)], es4)) i_269_34 (by rfl) ?_
    refine x_ret (v := some (.int (zI 0))) i_269_35 rfl (fun _ => rfl) rfl rfl rfl ?_
    exact K1 es1 e_es1 v2 e_v2 c3 es4 e_es4
  · refine x_cmpF i_193_2 (by unfold i32 iLO iHI; omega) (by unfold i32 iLO iHI; omega) rfl (by simp only [zC, cR]; omega) ?_
    refine x0 (r := (6, [some (.int (zI fi)), some (.int (zI 0)), some (.int (zI (v2 - 1)))], [.int (zI fi)], es1)) i_193_5 rfl ?_
    refine x0 (r := (7, [some (.int (zI fi)), some (.int (zI 0)), some (.int (zI (v2 - 1)))], [.int (zI (v2 - 1)), .int (zI fi)], es1)) i_193_6 rfl ?_
    by_cases c5 : (v2 - 1) < fi
    · refine x_cmpT i_193_7 (by unfold i32 iLO iHI; omega) (by unfold i32 iLO iHI; omega) rfl (by simp only [zC, cR]; omega) ?_
      refine x0 (r := (15, [some (.int (zI fi)), some (.int (zI 0)), some (.int (zI (v2 - 1)))], [.int (zI 0)], es1)) i_193_14 (by rfl) ?_
      refine x_ret (v := some (.int (zI 0))) i_193_15 rfl (fun _ => rfl) rfl rfl (pFin_b (by omega)) ?_
      show aW _ _ _ _ _ _ (13, [some (.ref 143), some (.int (zI fi)), some (.int (zI 1))], [.int (zI 0)], es1)
      refine x_ifF i_199_13 (by unfold i32 iLO iHI; omega) rfl (by simp only [zC, cR]; omega) ?_
      refine x0 (r := (17, [some (.ref 143), some (.int (zI fi)), some (.int (zI 1))], [.int (zI 1)], es1)) i_199_16 (by rfl) ?_
      refine x0 (r := (21, [some (.ref 143), some (.int (zI fi)), some (.int (zI 1))], [.int (zI 1)], es1)) i_199_17 rfl ?_
      refine x_ret (v := some (.int (zI 1))) i_199_21 rfl (fun _ => rfl) rfl rfl (pFin_b (by omega)) ?_
      show aW _ _ _ _ _ _ (6, [some (.ref 143), some (.int (zI fi))], [.int (zI 1)], es1)
      refine x_ret (v := some (.int (zI 1))) i_203_6 rfl (fun _ => rfl) rfl rfl (pFin_b (by omega)) ?_
      show aW _ _ _ _ _ _ (11, [some (.ref 143), some (.int (zI fi)), some (.int (zI se)), some (.int (zI cp)), none, none, none, none, none, none], [.int (zI 1), .ref 143], es1)
      refine x_ifT i_269_11 (by unfold i32 iLO iHI; omega) rfl (by simp only [zC, cR]; omega) ?_
      refine x0 (r := (23, [some (.ref 143), some (.int (zI fi)), some (.int (zI se)), some (.int (zI cp)), none, none, none, none, none, none], [.int (zI 1), .ref 143], es1)) i_269_22 (by rfl) ?_
      refine x0 (r := (27, [some (.ref 143), some (.int (zI fi)), some (.int (zI se)), some (.int (zI cp)), none, none, none, none, none, none], [.int (zI 1), .ref 143], es1)) i_269_23 rfl ?_
      refine x0 (r := (28, [some (.ref 143), some (.int (zI fi)), some (.int (zI se)), some (.int (zI cp)), none, none, none, none, none, none], [.int (zI 1), .int (zI 1), .ref 143], es1)) i_269_27 (by rfl) ?_
      refine x_call (vs := [.ref 143, .int (zI 1), .int (zI 1)]) (rs := []) i_269_28 rfl (fun _ => rfl) rfl rfl rfl rfl rfl (pCall_v (p := 79) hs_es1 rfl rfl rfl rfl rfl (by decide) rfl rfl rfl rfl rfl) ?_
      show aW _ _ _ _ _ _ (0, [some (.ref 143), some (.int (zI 1)), some (.int (zI 1))], [], es1)
      refine x0 (r := (1, [some (.ref 143), some (.int (zI 1)), some (.int (zI 1))], [.int (zI 1)], es1)) i_194_0 rfl ?_
      refine x_ifF i_194_1 (by unfold i32 iLO iHI; omega) rfl (by simp only [zC, cR]; omega) ?_
      refine x0 (r := (5, [some (.ref 143), some (.int (zI 1)), some (.int (zI 1))], [.ref 143], es1)) i_194_4 rfl ?_
      refine x0 (r := (6, [some (.ref 143), some (.int (zI 1)), some (.int (zI 1))], [.int (zI 1), .ref 143], es1)) i_194_5 rfl ?_
      refine x_puti (p := 79) (ty := .int) i_194_6 hs_es1 rfl rfl rfl (Or.inl rfl) ?_
      obtain ⟨es6, e_es6⟩ : ∃ z : PH, z = sI es1 79 0 (.int (zI 1)) := ⟨_, rfl⟩
      have hs_es6 : sh es6 := by rw [e_es6]; exact sh_sI hs_es1 (p := 79) (b := 0) rfl rfl
      have hT_es6 : hOK tT es6 := by rw [e_es6]; exact hOK_sI hT_es1 (p := 79) (b := 0) (lo := iLO) (hi := iHI) rfl rfl (i32_rng _)
      rw [← e_es6]
      refine x0 (r := (10, [some (.ref 143), some (.int (zI 1)), some (.int (zI 1))], [.int (zI 1)], es6)) i_194_9 rfl ?_
      refine x_ret (v := some (.int (zI 1))) i_194_10 rfl (fun _ => rfl) rfl rfl (pFin_b (by omega)) ?_
      show aW _ _ _ _ _ _ (31, [some (.ref 143), some (.int (zI fi)), some (.int (zI se)), some (.int (zI cp)), none, none, none, none, none, none], [.int (zI 1)], es6)
      refine x_ifF i_269_31 (by unfold i32 iLO iHI; omega) rfl (by simp only [zC, cR]; omega) ?_
      refine x0 (r := (35, [some (.ref 143), some (.int (zI fi)), some (.int (zI se)), some (.int (zI cp)), none, none, none, none, none, none], [.int (zI 0)], es6)) i_269_34 (by rfl) ?_
      refine x_ret (v := some (.int (zI 0))) i_269_35 rfl (fun _ => rfl) rfl rfl rfl ?_
      exact K2 es1 e_es1 v2 e_v2 c3 c5 es6 e_es6
    · refine x_cmpF i_193_7 (by unfold i32 iLO iHI; omega) (by unfold i32 iLO iHI; omega) rfl (by simp only [zC, cR]; omega) ?_
      refine x0 (r := (11, [some (.int (zI fi)), some (.int (zI 0)), some (.int (zI (v2 - 1)))], [.int (zI 1)], es1)) i_193_10 (by rfl) ?_
      refine x0 (r := (15, [some (.int (zI fi)), some (.int (zI 0)), some (.int (zI (v2 - 1)))], [.int (zI 1)], es1)) i_193_11 rfl ?_
      refine x_ret (v := some (.int (zI 1))) i_193_15 rfl (fun _ => rfl) rfl rfl (pFin_b (by omega)) ?_
      show aW _ _ _ _ _ _ (13, [some (.ref 143), some (.int (zI fi)), some (.int (zI 1))], [.int (zI 1)], es1)
      refine x_ifT i_199_13 (by unfold i32 iLO iHI; omega) rfl (by simp only [zC, cR]; omega) ?_
      refine x0 (r := (21, [some (.ref 143), some (.int (zI fi)), some (.int (zI 1))], [.int (zI 0)], es1)) i_199_20 (by rfl) ?_
      refine x_ret (v := some (.int (zI 0))) i_199_21 rfl (fun _ => rfl) rfl rfl (pFin_b (by omega)) ?_
      show aW _ _ _ _ _ _ (6, [some (.ref 143), some (.int (zI fi))], [.int (zI 0)], es1)
      refine x_ret (v := some (.int (zI 0))) i_203_6 rfl (fun _ => rfl) rfl rfl (pFin_b (by omega)) ?_
      show aW _ _ _ _ _ _ (11, [some (.ref 143), some (.int (zI fi)), some (.int (zI se)), some (.int (zI cp)), none, none, none, none, none, none], [.int (zI 0), .ref 143], es1)
      refine x_ifF i_269_11 (by unfold i32 iLO iHI; omega) rfl (by simp only [zC, cR]; omega) ?_
      refine x0 (r := (15, [some (.ref 143), some (.int (zI fi)), some (.int (zI se)), some (.int (zI cp)), none, none, none, none, none, none], [.ref 143, .ref 143], es1)) i_269_14 rfl ?_
      refine x0 (r := (16, [some (.ref 143), some (.int (zI fi)), some (.int (zI se)), some (.int (zI cp)), none, none, none, none, none, none], [.int (zI se), .ref 143, .ref 143], es1)) i_269_15 rfl ?_
      refine x_call (vs := [.ref 143, .int (zI se)]) (rs := [.ref 143]) i_269_16 rfl (fun _ => rfl) rfl rfl rfl rfl rfl (pCall_v (p := 79) hs_es1 rfl rfl rfl rfl rfl (by decide) rfl rfl rfl rfl rfl) ?_
      show aW _ _ _ _ _ _ (0, [some (.ref 143), some (.int (zI se))], [], es1)
      refine x0 (r := (1, [some (.ref 143), some (.int (zI se))], [.ref 143], es1)) i_203_0 rfl ?_
      refine x0 (r := (2, [some (.ref 143), some (.int (zI se))], [.int (zI se), .ref 143], es1)) i_203_1 rfl ?_
      refine x0 (r := (3, [some (.ref 143), some (.int (zI se))], [.int (zI 1), .int (zI se), .ref 143], es1)) i_203_2 (by rfl) ?_
      refine x_call (vs := [.ref 143, .int (zI se), .int (zI 1)]) (rs := []) i_203_3 rfl (fun _ => rfl) rfl rfl rfl rfl rfl (pCall_v (p := 79) hs_es1 rfl rfl rfl rfl rfl (by decide) rfl rfl rfl rfl rfl) ?_
      show aW _ _ _ _ _ _ (0, [some (.ref 143), some (.int (zI se)), some (.int (zI 1))], [], es1)
      refine x0 (r := (1, [some (.ref 143), some (.int (zI se)), some (.int (zI 1))], [.int (zI se)], es1)) i_199_0 rfl ?_
      refine x0 (r := (2, [some (.ref 143), some (.int (zI se)), some (.int (zI 1))], [.int (zI 0), .int (zI se)], es1)) i_199_1 (by rfl) ?_
      refine x0 (r := (3, [some (.ref 143), some (.int (zI se)), some (.int (zI 1))], [.ref 143, .int (zI 0), .int (zI se)], es1)) i_199_2 rfl ?_
      refine x_getr (p := 79) (k := 144) i_199_3 hs_es1 rfl rfl ?_
      show aW _ _ _ _ _ _ (6, [some (.ref 143), some (.int (zI se)), some (.int (zI 1))], [.ref 144, .int (zI 0), .int (zI se)], es1)
      refine x0 (r := (7, [some (.ref 143), some (.int (zI se)), some (.int (zI 1))], [.int (zI 1), .ref 144, .int (zI 0), .int (zI se)], es1)) i_199_6 rfl ?_
      refine x_iald (p := 80) i_199_7 hs_es1 rfl (by unfold i32 iLO iHI; omega) (by omega) (by omega) ?_
      obtain ⟨v7, e_v7⟩ : ∃ z : Int, z = (gA es1 80 (Int.toNat 1)).toInt := ⟨_, rfl⟩
      rw [← e_v7]
      have r_v7 : iLO ≤ v7 ∧ v7 ≤ iHI := by rw [e_v7]; exact i32_rng _
      unfold iLO iHI at r_v7
      have b_v7 : (0 : Int) ≤ v7 ∧ v7 ≤ (3 : Int) := by rw [e_v7]; exact gA_bd hT_es1 (p := 80) (k := (Int.toNat 1)) rfl (by omega) (by decide)
      refine x0 (r := (9, [some (.ref 143), some (.int (zI se)), some (.int (zI 1))], [.int (zI 1), .int (zI v7), .int (zI 0), .int (zI se)], es1)) i_199_8 (by rfl) ?_
      refine x_isub i_199_9 ?_
      refine x_call (vs := [.int (zI se), .int (zI 0), .int (zI (v7 - 1))]) (rs := []) i_199_10 rfl (fun _ => rfl) rfl rfl rfl rfl rfl rfl ?_
      show aW _ _ _ _ _ _ (0, [some (.int (zI se)), some (.int (zI 0)), some (.int (zI (v7 - 1)))], [], es1)
      refine x0 (r := (1, [some (.int (zI se)), some (.int (zI 0)), some (.int (zI (v7 - 1)))], [.int (zI se)], es1)) i_193_0 rfl ?_
      refine x0 (r := (2, [some (.int (zI se)), some (.int (zI 0)), some (.int (zI (v7 - 1)))], [.int (zI 0), .int (zI se)], es1)) i_193_1 rfl ?_
      by_cases c8 : se < 0
      · refine x_cmpT i_193_2 (by unfold i32 iLO iHI; omega) (by unfold i32 iLO iHI; omega) rfl (by simp only [zC, cR]; omega) ?_
        refine x0 (r := (15, [some (.int (zI se)), some (.int (zI 0)), some (.int (zI (v7 - 1)))], [.int (zI 0)], es1)) i_193_14 (by rfl) ?_
        refine x_ret (v := some (.int (zI 0))) i_193_15 rfl (fun _ => rfl) rfl rfl (pFin_b (by omega)) ?_
        show aW _ _ _ _ _ _ (13, [some (.ref 143), some (.int (zI se)), some (.int (zI 1))], [.int (zI 0)], es1)
        refine x_ifF i_199_13 (by unfold i32 iLO iHI; omega) rfl (by simp only [zC, cR]; omega) ?_
        refine x0 (r := (17, [some (.ref 143), some (.int (zI se)), some (.int (zI 1))], [.int (zI 1)], es1)) i_199_16 (by rfl) ?_
        refine x0 (r := (21, [some (.ref 143), some (.int (zI se)), some (.int (zI 1))], [.int (zI 1)], es1)) i_199_17 rfl ?_
        refine x_ret (v := some (.int (zI 1))) i_199_21 rfl (fun _ => rfl) rfl rfl (pFin_b (by omega)) ?_
        show aW _ _ _ _ _ _ (6, [some (.ref 143), some (.int (zI se))], [.int (zI 1)], es1)
        refine x_ret (v := some (.int (zI 1))) i_203_6 rfl (fun _ => rfl) rfl rfl (pFin_b (by omega)) ?_
        show aW _ _ _ _ _ _ (19, [some (.ref 143), some (.int (zI fi)), some (.int (zI se)), some (.int (zI cp)), none, none, none, none, none, none], [.int (zI 1), .ref 143], es1)
        refine x_ifF i_269_19 (by unfold i32 iLO iHI; omega) rfl (by simp only [zC, cR]; omega) ?_
        refine x0 (r := (23, [some (.ref 143), some (.int (zI fi)), some (.int (zI se)), some (.int (zI cp)), none, none, none, none, none, none], [.int (zI 1), .ref 143], es1)) i_269_22 (by rfl) ?_
        refine x0 (r := (27, [some (.ref 143), some (.int (zI fi)), some (.int (zI se)), some (.int (zI cp)), none, none, none, none, none, none], [.int (zI 1), .ref 143], es1)) i_269_23 rfl ?_
        refine x0 (r := (28, [some (.ref 143), some (.int (zI fi)), some (.int (zI se)), some (.int (zI cp)), none, none, none, none, none, none], [.int (zI 1), .int (zI 1), .ref 143], es1)) i_269_27 (by rfl) ?_
        refine x_call (vs := [.ref 143, .int (zI 1), .int (zI 1)]) (rs := []) i_269_28 rfl (fun _ => rfl) rfl rfl rfl rfl rfl (pCall_v (p := 79) hs_es1 rfl rfl rfl rfl rfl (by decide) rfl rfl rfl rfl rfl) ?_
        show aW _ _ _ _ _ _ (0, [some (.ref 143), some (.int (zI 1)), some (.int (zI 1))], [], es1)
        refine x0 (r := (1, [some (.ref 143), some (.int (zI 1)), some (.int (zI 1))], [.int (zI 1)], es1)) i_194_0 rfl ?_
        refine x_ifF i_194_1 (by unfold i32 iLO iHI; omega) rfl (by simp only [zC, cR]; omega) ?_
        refine x0 (r := (5, [some (.ref 143), some (.int (zI 1)), some (.int (zI 1))], [.ref 143], es1)) i_194_4 rfl ?_
        refine x0 (r := (6, [some (.ref 143), some (.int (zI 1)), some (.int (zI 1))], [.int (zI 1), .ref 143], es1)) i_194_5 rfl ?_
        refine x_puti (p := 79) (ty := .int) i_194_6 hs_es1 rfl rfl rfl (Or.inl rfl) ?_
        obtain ⟨es9, e_es9⟩ : ∃ z : PH, z = sI es1 79 0 (.int (zI 1)) := ⟨_, rfl⟩
        have hs_es9 : sh es9 := by rw [e_es9]; exact sh_sI hs_es1 (p := 79) (b := 0) rfl rfl
        have hT_es9 : hOK tT es9 := by rw [e_es9]; exact hOK_sI hT_es1 (p := 79) (b := 0) (lo := iLO) (hi := iHI) rfl rfl (i32_rng _)
        rw [← e_es9]
        refine x0 (r := (10, [some (.ref 143), some (.int (zI 1)), some (.int (zI 1))], [.int (zI 1)], es9)) i_194_9 rfl ?_
        refine x_ret (v := some (.int (zI 1))) i_194_10 rfl (fun _ => rfl) rfl rfl (pFin_b (by omega)) ?_
        show aW _ _ _ _ _ _ (31, [some (.ref 143), some (.int (zI fi)), some (.int (zI se)), some (.int (zI cp)), none, none, none, none, none, none], [.int (zI 1)], es9)
        refine x_ifF i_269_31 (by unfold i32 iLO iHI; omega) rfl (by simp only [zC, cR]; omega) ?_
        refine x0 (r := (35, [some (.ref 143), some (.int (zI fi)), some (.int (zI se)), some (.int (zI cp)), none, none, none, none, none, none], [.int (zI 0)], es9)) i_269_34 (by rfl) ?_
        refine x_ret (v := some (.int (zI 0))) i_269_35 rfl (fun _ => rfl) rfl rfl rfl ?_
        exact K3 es1 e_es1 v2 e_v2 c3 c5 v7 e_v7 c8 es9 e_es9
      · refine x_cmpF i_193_2 (by unfold i32 iLO iHI; omega) (by unfold i32 iLO iHI; omega) rfl (by simp only [zC, cR]; omega) ?_
        refine x0 (r := (6, [some (.int (zI se)), some (.int (zI 0)), some (.int (zI (v7 - 1)))], [.int (zI se)], es1)) i_193_5 rfl ?_
        refine x0 (r := (7, [some (.int (zI se)), some (.int (zI 0)), some (.int (zI (v7 - 1)))], [.int (zI (v7 - 1)), .int (zI se)], es1)) i_193_6 rfl ?_
        by_cases c10 : (v7 - 1) < se
        · refine x_cmpT i_193_7 (by unfold i32 iLO iHI; omega) (by unfold i32 iLO iHI; omega) rfl (by simp only [zC, cR]; omega) ?_
          refine x0 (r := (15, [some (.int (zI se)), some (.int (zI 0)), some (.int (zI (v7 - 1)))], [.int (zI 0)], es1)) i_193_14 (by rfl) ?_
          refine x_ret (v := some (.int (zI 0))) i_193_15 rfl (fun _ => rfl) rfl rfl (pFin_b (by omega)) ?_
          show aW _ _ _ _ _ _ (13, [some (.ref 143), some (.int (zI se)), some (.int (zI 1))], [.int (zI 0)], es1)
          refine x_ifF i_199_13 (by unfold i32 iLO iHI; omega) rfl (by simp only [zC, cR]; omega) ?_
          refine x0 (r := (17, [some (.ref 143), some (.int (zI se)), some (.int (zI 1))], [.int (zI 1)], es1)) i_199_16 (by rfl) ?_
          refine x0 (r := (21, [some (.ref 143), some (.int (zI se)), some (.int (zI 1))], [.int (zI 1)], es1)) i_199_17 rfl ?_
          refine x_ret (v := some (.int (zI 1))) i_199_21 rfl (fun _ => rfl) rfl rfl (pFin_b (by omega)) ?_
          show aW _ _ _ _ _ _ (6, [some (.ref 143), some (.int (zI se))], [.int (zI 1)], es1)
          refine x_ret (v := some (.int (zI 1))) i_203_6 rfl (fun _ => rfl) rfl rfl (pFin_b (by omega)) ?_
          show aW _ _ _ _ _ _ (19, [some (.ref 143), some (.int (zI fi)), some (.int (zI se)), some (.int (zI cp)), none, none, none, none, none, none], [.int (zI 1), .ref 143], es1)
          refine x_ifF i_269_19 (by unfold i32 iLO iHI; omega) rfl (by simp only [zC, cR]; omega) ?_
          refine x0 (r := (23, [some (.ref 143), some (.int (zI fi)), some (.int (zI se)), some (.int (zI cp)), none, none, none, none, none, none], [.int (zI 1), .ref 143], es1)) i_269_22 (by rfl) ?_
          refine x0 (r := (27, [some (.ref 143), some (.int (zI fi)), some (.int (zI se)), some (.int (zI cp)), none, none, none, none, none, none], [.int (zI 1), .ref 143], es1)) i_269_23 rfl ?_
          refine x0 (r := (28, [some (.ref 143), some (.int (zI fi)), some (.int (zI se)), some (.int (zI cp)), none, none, none, none, none, none], [.int (zI 1), .int (zI 1), .ref 143], es1)) i_269_27 (by rfl) ?_
          refine x_call (vs := [.ref 143, .int (zI 1), .int (zI 1)]) (rs := []) i_269_28 rfl (fun _ => rfl) rfl rfl rfl rfl rfl (pCall_v (p := 79) hs_es1 rfl rfl rfl rfl rfl (by decide) rfl rfl rfl rfl rfl) ?_
          show aW _ _ _ _ _ _ (0, [some (.ref 143), some (.int (zI 1)), some (.int (zI 1))], [], es1)
          refine x0 (r := (1, [some (.ref 143), some (.int (zI 1)), some (.int (zI 1))], [.int (zI 1)], es1)) i_194_0 rfl ?_
          refine x_ifF i_194_1 (by unfold i32 iLO iHI; omega) rfl (by simp only [zC, cR]; omega) ?_
          refine x0 (r := (5, [some (.ref 143), some (.int (zI 1)), some (.int (zI 1))], [.ref 143], es1)) i_194_4 rfl ?_
          refine x0 (r := (6, [some (.ref 143), some (.int (zI 1)), some (.int (zI 1))], [.int (zI 1), .ref 143], es1)) i_194_5 rfl ?_
          refine x_puti (p := 79) (ty := .int) i_194_6 hs_es1 rfl rfl rfl (Or.inl rfl) ?_
          obtain ⟨es11, e_es11⟩ : ∃ z : PH, z = sI es1 79 0 (.int (zI 1)) := ⟨_, rfl⟩
          have hs_es11 : sh es11 := by rw [e_es11]; exact sh_sI hs_es1 (p := 79) (b := 0) rfl rfl
          have hT_es11 : hOK tT es11 := by rw [e_es11]; exact hOK_sI hT_es1 (p := 79) (b := 0) (lo := iLO) (hi := iHI) rfl rfl (i32_rng _)
          rw [← e_es11]
          refine x0 (r := (10, [some (.ref 143), some (.int (zI 1)), some (.int (zI 1))], [.int (zI 1)], es11)) i_194_9 rfl ?_
          refine x_ret (v := some (.int (zI 1))) i_194_10 rfl (fun _ => rfl) rfl rfl (pFin_b (by omega)) ?_
          show aW _ _ _ _ _ _ (31, [some (.ref 143), some (.int (zI fi)), some (.int (zI se)), some (.int (zI cp)), none, none, none, none, none, none], [.int (zI 1)], es11)
          refine x_ifF i_269_31 (by unfold i32 iLO iHI; omega) rfl (by simp only [zC, cR]; omega) ?_
          refine x0 (r := (35, [some (.ref 143), some (.int (zI fi)), some (.int (zI se)), some (.int (zI cp)), none, none, none, none, none, none], [.int (zI 0)], es11)) i_269_34 (by rfl) ?_
          refine x_ret (v := some (.int (zI 0))) i_269_35 rfl (fun _ => rfl) rfl rfl rfl ?_
          exact K4 es1 e_es1 v2 e_v2 c3 c5 v7 e_v7 c8 c10 es11 e_es11
        · refine x_cmpF i_193_7 (by unfold i32 iLO iHI; omega) (by unfold i32 iLO iHI; omega) rfl (by simp only [zC, cR]; omega) ?_
          refine x0 (r := (11, [some (.int (zI se)), some (.int (zI 0)), some (.int (zI (v7 - 1)))], [.int (zI 1)], es1)) i_193_10 (by rfl) ?_
          refine x0 (r := (15, [some (.int (zI se)), some (.int (zI 0)), some (.int (zI (v7 - 1)))], [.int (zI 1)], es1)) i_193_11 rfl ?_
          refine x_ret (v := some (.int (zI 1))) i_193_15 rfl (fun _ => rfl) rfl rfl (pFin_b (by omega)) ?_
          show aW _ _ _ _ _ _ (13, [some (.ref 143), some (.int (zI se)), some (.int (zI 1))], [.int (zI 1)], es1)
          refine x_ifT i_199_13 (by unfold i32 iLO iHI; omega) rfl (by simp only [zC, cR]; omega) ?_
          refine x0 (r := (21, [some (.ref 143), some (.int (zI se)), some (.int (zI 1))], [.int (zI 0)], es1)) i_199_20 (by rfl) ?_
          refine x_ret (v := some (.int (zI 0))) i_199_21 rfl (fun _ => rfl) rfl rfl (pFin_b (by omega)) ?_
          show aW _ _ _ _ _ _ (6, [some (.ref 143), some (.int (zI se))], [.int (zI 0)], es1)
          refine x_ret (v := some (.int (zI 0))) i_203_6 rfl (fun _ => rfl) rfl rfl (pFin_b (by omega)) ?_
          show aW _ _ _ _ _ _ (19, [some (.ref 143), some (.int (zI fi)), some (.int (zI se)), some (.int (zI cp)), none, none, none, none, none, none], [.int (zI 0), .ref 143], es1)
          refine x_ifT i_269_19 (by unfold i32 iLO iHI; omega) rfl (by simp only [zC, cR]; omega) ?_
          refine x0 (r := (27, [some (.ref 143), some (.int (zI fi)), some (.int (zI se)), some (.int (zI cp)), none, none, none, none, none, none], [.int (zI 0), .ref 143], es1)) i_269_26 (by rfl) ?_
          refine x0 (r := (28, [some (.ref 143), some (.int (zI fi)), some (.int (zI se)), some (.int (zI cp)), none, none, none, none, none, none], [.int (zI 1), .int (zI 0), .ref 143], es1)) i_269_27 (by rfl) ?_
          refine x_call (vs := [.ref 143, .int (zI 0), .int (zI 1)]) (rs := []) i_269_28 rfl (fun _ => rfl) rfl rfl rfl rfl rfl (pCall_v (p := 79) hs_es1 rfl rfl rfl rfl rfl (by decide) rfl rfl rfl rfl rfl) ?_
          show aW _ _ _ _ _ _ (0, [some (.ref 143), some (.int (zI 0)), some (.int (zI 1))], [], es1)
          refine x0 (r := (1, [some (.ref 143), some (.int (zI 0)), some (.int (zI 1))], [.int (zI 0)], es1)) i_194_0 rfl ?_
          refine x_ifT i_194_1 (by unfold i32 iLO iHI; omega) rfl (by simp only [zC, cR]; omega) ?_
          refine x0 (r := (10, [some (.ref 143), some (.int (zI 0)), some (.int (zI 1))], [.int (zI 0)], es1)) i_194_9 rfl ?_
          refine x_ret (v := some (.int (zI 0))) i_194_10 rfl (fun _ => rfl) rfl rfl (pFin_b (by omega)) ?_
          show aW _ _ _ _ _ _ (31, [some (.ref 143), some (.int (zI fi)), some (.int (zI se)), some (.int (zI cp)), none, none, none, none, none, none], [.int (zI 0)], es1)
          refine x_ifT i_269_31 (by unfold i32 iLO iHI; omega) rfl (by simp only [zC, cR]; omega) ?_
          refine x0 (r := (37, [some (.ref 143), some (.int (zI fi)), some (.int (zI se)), some (.int (zI cp)), none, none, none, none, none, none], [.ref 143], es1)) i_269_36 rfl ?_
          exact K5 es1 e_es1 v2 e_v2 c3 c5 v7 e_v7 c8 c10

theorem s_sh40 {O : pOut} {d kc ks : Nat} {Q : pRes → Prop} {es : PH} {fi se cp v : Int} (hs_es : sh es) (h0 : -2147483648 ≤ v ∧ v ≤ 2147483647) (hT_es : hOK tT es)
    (K1 : 0 ≤ v → aW O d 269 kc ks Q (52, [some (.ref 143), some (.int (zI fi)), some (.int (zI se)), some (.int (zI cp)), some (.int (zI v)), none, none, none, none, none], [.int (zI fi), .ref 143], es))
    (K2 : ¬ (0 ≤ v) → Q (.inl (some (.int (zI v))), es, kc, ks)) :
    aW O d 269 kc ks Q (40, [some (.ref 143), some (.int (zI fi)), some (.int (zI se)), some (.int (zI cp)), none, none, none, none, none, none], [.int (zI v)], es) := by
  refine x0 (r := (42, [some (.ref 143), some (.int (zI fi)), some (.int (zI se)), some (.int (zI cp)), some (.int (zI v)), none, none, none, none, none], [], es)) i_269_40 rfl ?_
  refine x0 (r := (44, [some (.ref 143), some (.int (zI fi)), some (.int (zI se)), some (.int (zI cp)), some (.int (zI v)), none, none, none, none, none], [.int (zI v)], es)) i_269_42 rfl ?_
  by_cases c1 : 0 ≤ v
  · refine x_ifT i_269_44 (by unfold i32 iLO iHI; omega) rfl (by simp only [zC, cR]; omega) ?_
    refine x0 (r := (51, [some (.ref 143), some (.int (zI fi)), some (.int (zI se)), some (.int (zI cp)), some (.int (zI v)), none, none, none, none, none], [.ref 143], es)) i_269_50 rfl ?_
    refine x0 (r := (52, [some (.ref 143), some (.int (zI fi)), some (.int (zI se)), some (.int (zI cp)), some (.int (zI v)), none, none, none, none, none], [.int (zI fi), .ref 143], es)) i_269_51 rfl ?_
    exact K1 c1
  · refine x_ifF i_269_44 (by unfold i32 iLO iHI; omega) rfl (by simp only [zC, cR]; omega) ?_
    refine x0 (r := (49, [some (.ref 143), some (.int (zI fi)), some (.int (zI se)), some (.int (zI cp)), some (.int (zI v)), none, none, none, none, none], [.int (zI v)], es)) i_269_47 rfl ?_
    refine x_ret (v := some (.int (zI v))) i_269_49 rfl (fun _ => rfl) rfl rfl rfl ?_
    exact K2 c1

theorem s_sh55 {O : pOut} {d kc ks : Nat} {Q : pRes → Prop} {es : PH} {fi se cp v : Int} (hs_es : sh es) (hT_es : hOK tT es)
    (K1 : aW O d 269 kc ks Q (58, [some (.ref 143), some (.int (zI fi)), some (.int (zI se)), some (.int (zI cp)), some (.int (zI v)), some (.int (zI 0)), none, none, none, none], [], es)) :
    aW O d 269 kc ks Q (55, [some (.ref 143), some (.int (zI fi)), some (.int (zI se)), some (.int (zI cp)), some (.int (zI v)), none, none, none, none, none], [], es) := by
  refine x0 (r := (56, [some (.ref 143), some (.int (zI fi)), some (.int (zI se)), some (.int (zI cp)), some (.int (zI v)), none, none, none, none, none], [.int (zI 0)], es)) i_269_55 (by rfl) ?_
  refine x0 (r := (58, [some (.ref 143), some (.int (zI fi)), some (.int (zI se)), some (.int (zI cp)), some (.int (zI v)), some (.int (zI 0)), none, none, none, none], [], es)) i_269_56 rfl ?_
  exact K1

theorem s_sh58 {O : pOut} {d kc ks : Nat} {Q : pRes → Prop} {es : PH} {fi se cp v k : Int} (hs_es : sh es) (hf : 0 ≤ fi ∧ fi ≤ 2) (hk : 0 ≤ k ∧ k ≤ 24) (hN : 0 ≤ (gA es 80 ((119 + (98 * fi)) + 1).toNat).toInt ∧ (gA es 80 ((119 + (98 * fi)) + 1).toNat).toInt ≤ 24) (hT_es : hOK tT es)
    (K1 : ∀ v1 : Int, v1 = (gA es 80 ((119 + (98 * fi)) + 1).toNat).toInt → v1 ≤ k → aW O (d + 2) 269 kc ks Q (91, [some (.ref 143), some (.int (zI fi)), some (.int (zI se)), some (.int (zI cp)), some (.int (zI v)), some (.int (zI 0)), none, none, none, none], [], es))
    (K2 : ∀ v1 : Int, v1 = (gA es 80 ((119 + (98 * fi)) + 1).toNat).toInt → ¬ (v1 ≤ k) → ∀ v3 : Int, v3 = (gA es 102 k.toNat).toInt → ∀ es4 : PH, es4 = sA es 104 k.toNat (zI v3) → aW O (d + 2) 269 kc ks Q (58, [some (.ref 143), some (.int (zI fi)), some (.int (zI se)), some (.int (zI cp)), some (.int (zI v)), some (.int (zI (k + 1))), none, none, none, none], [], es4)) :
    aW O (d + 2) 269 kc ks Q (58, [some (.ref 143), some (.int (zI fi)), some (.int (zI se)), some (.int (zI cp)), some (.int (zI v)), some (.int (zI k)), none, none, none, none], [], es) := by
  refine x0 (r := (60, [some (.ref 143), some (.int (zI fi)), some (.int (zI se)), some (.int (zI cp)), some (.int (zI v)), some (.int (zI k)), none, none, none, none], [.int (zI k)], es)) i_269_58 rfl ?_
  refine x0 (r := (61, [some (.ref 143), some (.int (zI fi)), some (.int (zI se)), some (.int (zI cp)), some (.int (zI v)), some (.int (zI k)), none, none, none, none], [.ref 143, .int (zI k)], es)) i_269_60 rfl ?_
  refine x0 (r := (62, [some (.ref 143), some (.int (zI fi)), some (.int (zI se)), some (.int (zI cp)), some (.int (zI v)), some (.int (zI k)), none, none, none, none], [.int (zI fi), .ref 143, .int (zI k)], es)) i_269_61 rfl ?_
  refine x_call (vs := [.ref 143, .int (zI fi)]) (rs := [.int (zI k)]) i_269_62 rfl (fun _ => rfl) rfl rfl rfl rfl rfl (pCall_v (p := 79) hs_es rfl rfl rfl rfl rfl (by decide) rfl rfl rfl rfl rfl) ?_
  show aW _ _ _ _ _ _ (0, [some (.ref 143), some (.int (zI fi))], [], es)
  refine x0 (r := (1, [some (.ref 143), some (.int (zI fi))], [.ref 143], es)) i_205_0 rfl ?_
  refine x0 (r := (2, [some (.ref 143), some (.int (zI fi))], [.int (zI fi), .ref 143], es)) i_205_1 rfl ?_
  refine x0 (r := (3, [some (.ref 143), some (.int (zI fi))], [.int (zI 1), .int (zI fi), .ref 143], es)) i_205_2 (by rfl) ?_
  refine x_call (vs := [.ref 143, .int (zI fi), .int (zI 1)]) (rs := []) i_205_3 rfl (fun _ => rfl) rfl rfl rfl rfl rfl (pCall_v (p := 79) hs_es rfl rfl rfl rfl rfl (by decide) rfl rfl rfl rfl rfl) ?_
  show aW _ _ _ _ _ _ (0, [some (.ref 143), some (.int (zI fi)), some (.int (zI 1))], [], es)
  refine x0 (r := (1, [some (.ref 143), some (.int (zI fi)), some (.int (zI 1))], [.ref 143], es)) i_206_0 rfl ?_
  refine x_getr (p := 79) (k := 144) i_206_1 hs_es rfl rfl ?_
  show aW _ _ _ _ _ _ (4, [some (.ref 143), some (.int (zI fi)), some (.int (zI 1))], [.ref 144], es)
  refine x0 (r := (6, [some (.ref 143), some (.int (zI fi)), some (.int (zI 1))], [.int (zI 119), .ref 144], es)) i_206_4 (by rfl) ?_
  refine x0 (r := (8, [some (.ref 143), some (.int (zI fi)), some (.int (zI 1))], [.int (zI 98), .int (zI 119), .ref 144], es)) i_206_6 (by rfl) ?_
  refine x0 (r := (9, [some (.ref 143), some (.int (zI fi)), some (.int (zI 1))], [.int (zI fi), .int (zI 98), .int (zI 119), .ref 144], es)) i_206_8 rfl ?_
  refine x_imul i_206_9 ?_
  refine x_iadd i_206_10 ?_
  refine x0 (r := (12, [some (.ref 143), some (.int (zI fi)), some (.int (zI 1))], [.int (zI 1), .int (zI (119 + (98 * fi))), .ref 144], es)) i_206_11 rfl ?_
  refine x_iadd i_206_12 ?_
  refine x_iald (p := 80) i_206_13 hs_es rfl (by unfold i32 iLO iHI; omega) (by omega) (by omega) ?_
  obtain ⟨v1, e_v1⟩ : ∃ z : Int, z = (gA es 80 ((119 + (98 * fi)) + 1).toNat).toInt := ⟨_, rfl⟩
  rw [← e_v1]
  have r_v1 : iLO ≤ v1 ∧ v1 ≤ iHI := by rw [e_v1]; exact i32_rng _
  unfold iLO iHI at r_v1
  refine x_ret (v := some (.int (zI v1))) i_206_14 rfl (fun _ => rfl) rfl rfl rfl ?_
  show aW _ _ _ _ _ _ (6, [some (.ref 143), some (.int (zI fi))], [.int (zI v1)], es)
  refine x_ret (v := some (.int (zI v1))) i_205_6 rfl (fun _ => rfl) rfl rfl rfl ?_
  show aW _ _ _ _ _ _ (65, [some (.ref 143), some (.int (zI fi)), some (.int (zI se)), some (.int (zI cp)), some (.int (zI v)), some (.int (zI k)), none, none, none, none], [.int (zI v1), .int (zI k)], es)
  by_cases c2 : v1 ≤ k
  · refine x_cmpT i_269_65 (by unfold i32 iLO iHI; omega) (by unfold i32 iLO iHI; omega) rfl (by simp only [zC, cR]; omega) ?_
    refine x0 (r := (89, [some (.ref 143), some (.int (zI fi)), some (.int (zI se)), some (.int (zI cp)), some (.int (zI v)), some (.int (zI k)), none, none, none, none], [.int (zI 0)], es)) i_269_88 (by rfl) ?_
    refine x0 (r := (91, [some (.ref 143), some (.int (zI fi)), some (.int (zI se)), some (.int (zI cp)), some (.int (zI v)), some (.int (zI 0)), none, none, none, none], [], es)) i_269_89 rfl ?_
    exact K1 v1 e_v1 c2
  · refine x_cmpF i_269_65 (by unfold i32 iLO iHI; omega) (by unfold i32 iLO iHI; omega) rfl (by simp only [zC, cR]; omega) ?_
    refine x0 (r := (69, [some (.ref 143), some (.int (zI fi)), some (.int (zI se)), some (.int (zI cp)), some (.int (zI v)), some (.int (zI k)), none, none, none, none], [.ref 143], es)) i_269_68 rfl ?_
    refine x_getr (p := 79) (k := 168) i_269_69 hs_es rfl rfl ?_
    show aW _ _ _ _ _ _ (72, [some (.ref 143), some (.int (zI fi)), some (.int (zI se)), some (.int (zI cp)), some (.int (zI v)), some (.int (zI k)), none, none, none, none], [.ref 168], es)
    refine x0 (r := (74, [some (.ref 143), some (.int (zI fi)), some (.int (zI se)), some (.int (zI cp)), some (.int (zI v)), some (.int (zI k)), none, none, none, none], [.int (zI k), .ref 168], es)) i_269_72 rfl ?_
    refine x0 (r := (75, [some (.ref 143), some (.int (zI fi)), some (.int (zI se)), some (.int (zI cp)), some (.int (zI v)), some (.int (zI k)), none, none, none, none], [.ref 143, .int (zI k), .ref 168], es)) i_269_74 rfl ?_
    refine x_getr (p := 79) (k := 166) i_269_75 hs_es rfl rfl ?_
    show aW _ _ _ _ _ _ (78, [some (.ref 143), some (.int (zI fi)), some (.int (zI se)), some (.int (zI cp)), some (.int (zI v)), some (.int (zI k)), none, none, none, none], [.ref 166, .int (zI k), .ref 168], es)
    refine x0 (r := (80, [some (.ref 143), some (.int (zI fi)), some (.int (zI se)), some (.int (zI cp)), some (.int (zI v)), some (.int (zI k)), none, none, none, none], [.int (zI k), .ref 166, .int (zI k), .ref 168], es)) i_269_78 rfl ?_
    refine x_iald (p := 102) i_269_80 hs_es rfl (by unfold i32 iLO iHI; omega) (by omega) (by omega) ?_
    obtain ⟨v3, e_v3⟩ : ∃ z : Int, z = (gA es 102 k.toNat).toInt := ⟨_, rfl⟩
    rw [← e_v3]
    have r_v3 : iLO ≤ v3 ∧ v3 ≤ iHI := by rw [e_v3]; exact i32_rng _
    unfold iLO iHI at r_v3
    have b_v3 : (0 : Int) ≤ v3 ∧ v3 ≤ (7 : Int) := by rw [e_v3]; exact gA_bd hT_es (p := 102) (k := k.toNat) rfl (by omega) (by decide)
    refine x_iast (p := 104) i_269_81 hs_es rfl (by unfold i32 iLO iHI; omega) (by omega) (by omega) ?_
    obtain ⟨es4, e_es4⟩ : ∃ z : PH, z = sA es 104 k.toNat (zI v3) := ⟨_, rfl⟩
    have hs_es4 : sh es4 := by rw [e_es4]; exact sh_sA hs_es
    have hT_es4 : hOK tT es4 := by rw [e_es4]; exact hOK_sA hT_es (p := 104) (n := 24) rfl (fun _ => by rw [zI_toInt (by unfold i32 iLO iHI; omega)]; exact ⟨by show (0 : Int) ≤ v3; omega, by show v3 ≤ (7 : Int); omega⟩)
    rw [← e_es4]
    refine x_iinc (x := k) i_269_82 rfl (by show 5 < 10; decide) ?_
    show aW _ _ _ _ _ _ (85, [some (.ref 143), some (.int (zI fi)), some (.int (zI se)), some (.int (zI cp)), some (.int (zI v)), some (.int (zI (k + 1))), none, none, none, none], [], es4)
    refine x0 (r := (58, [some (.ref 143), some (.int (zI fi)), some (.int (zI se)), some (.int (zI cp)), some (.int (zI v)), some (.int (zI (k + 1))), none, none, none, none], [], es4)) i_269_85 rfl ?_
    exact K2 v1 e_v1 c2 v3 e_v3 es4 e_es4

theorem s_sh91 {O : pOut} {d kc ks : Nat} {Q : pRes → Prop} {es : PH} {fi se cp v k : Int} (hs_es : sh es) (hk : 0 ≤ k ∧ k ≤ 30) (hL : 0 ≤ (gI es 79 41).toInt ∧ (gI es 79 41).toInt ≤ 30) (hT_es : hOK tT es)
    (K1 : ∀ v1 : Int, v1 = (gI es 79 41).toInt → v1 ≤ k → aW O d 269 kc ks Q (122, [some (.ref 143), some (.int (zI fi)), some (.int (zI se)), some (.int (zI cp)), some (.int (zI v)), some (.int (zI k)), none, none, none, none], [.int (zI se), .ref 143], es))
    (K2 : ∀ v1 : Int, v1 = (gI es 79 41).toInt → ¬ (v1 ≤ k) → ∀ v3 : Int, v3 = (gA es 103 k.toNat).toInt → ∀ es4 : PH, es4 = sA es 105 k.toNat (zI v3) → aW O d 269 kc ks Q (91, [some (.ref 143), some (.int (zI fi)), some (.int (zI se)), some (.int (zI cp)), some (.int (zI v)), some (.int (zI (k + 1))), none, none, none, none], [], es4)) :
    aW O d 269 kc ks Q (91, [some (.ref 143), some (.int (zI fi)), some (.int (zI se)), some (.int (zI cp)), some (.int (zI v)), some (.int (zI k)), none, none, none, none], [], es) := by
  refine x0 (r := (93, [some (.ref 143), some (.int (zI fi)), some (.int (zI se)), some (.int (zI cp)), some (.int (zI v)), some (.int (zI k)), none, none, none, none], [.int (zI k)], es)) i_269_91 rfl ?_
  refine x0 (r := (94, [some (.ref 143), some (.int (zI fi)), some (.int (zI se)), some (.int (zI cp)), some (.int (zI v)), some (.int (zI k)), none, none, none, none], [.ref 143, .int (zI k)], es)) i_269_93 rfl ?_
  refine x_geti (p := 79) i_269_94 hs_es rfl rfl ?_
  obtain ⟨v1, e_v1⟩ : ∃ z : Int, z = (gI es 79 41).toInt := ⟨_, rfl⟩
  rw [← e_v1]
  have r_v1 : iLO ≤ v1 ∧ v1 ≤ iHI := by rw [e_v1]; exact i32_rng _
  unfold iLO iHI at r_v1
  have b_v1 : (0 : Int) ≤ v1 ∧ v1 ≤ (30 : Int) := by rw [e_v1]; exact gI_bd hT_es (p := 79) (b := 41) rfl rfl
  by_cases c2 : v1 ≤ k
  · refine x_cmpT i_269_97 (by unfold i32 iLO iHI; omega) (by unfold i32 iLO iHI; omega) rfl (by simp only [zC, cR]; omega) ?_
    refine x0 (r := (121, [some (.ref 143), some (.int (zI fi)), some (.int (zI se)), some (.int (zI cp)), some (.int (zI v)), some (.int (zI k)), none, none, none, none], [.ref 143], es)) i_269_120 rfl ?_
    refine x0 (r := (122, [some (.ref 143), some (.int (zI fi)), some (.int (zI se)), some (.int (zI cp)), some (.int (zI v)), some (.int (zI k)), none, none, none, none], [.int (zI se), .ref 143], es)) i_269_121 rfl ?_
    exact K1 v1 e_v1 c2
  · refine x_cmpF i_269_97 (by unfold i32 iLO iHI; omega) (by unfold i32 iLO iHI; omega) rfl (by simp only [zC, cR]; omega) ?_
    refine x0 (r := (101, [some (.ref 143), some (.int (zI fi)), some (.int (zI se)), some (.int (zI cp)), some (.int (zI v)), some (.int (zI k)), none, none, none, none], [.ref 143], es)) i_269_100 rfl ?_
    refine x_getr (p := 79) (k := 169) i_269_101 hs_es rfl rfl ?_
    show aW _ _ _ _ _ _ (104, [some (.ref 143), some (.int (zI fi)), some (.int (zI se)), some (.int (zI cp)), some (.int (zI v)), some (.int (zI k)), none, none, none, none], [.ref 169], es)
    refine x0 (r := (106, [some (.ref 143), some (.int (zI fi)), some (.int (zI se)), some (.int (zI cp)), some (.int (zI v)), some (.int (zI k)), none, none, none, none], [.int (zI k), .ref 169], es)) i_269_104 rfl ?_
    refine x0 (r := (107, [some (.ref 143), some (.int (zI fi)), some (.int (zI se)), some (.int (zI cp)), some (.int (zI v)), some (.int (zI k)), none, none, none, none], [.ref 143, .int (zI k), .ref 169], es)) i_269_106 rfl ?_
    refine x_getr (p := 79) (k := 167) i_269_107 hs_es rfl rfl ?_
    show aW _ _ _ _ _ _ (110, [some (.ref 143), some (.int (zI fi)), some (.int (zI se)), some (.int (zI cp)), some (.int (zI v)), some (.int (zI k)), none, none, none, none], [.ref 167, .int (zI k), .ref 169], es)
    refine x0 (r := (112, [some (.ref 143), some (.int (zI fi)), some (.int (zI se)), some (.int (zI cp)), some (.int (zI v)), some (.int (zI k)), none, none, none, none], [.int (zI k), .ref 167, .int (zI k), .ref 169], es)) i_269_110 rfl ?_
    refine x_iald (p := 103) i_269_112 hs_es rfl (by unfold i32 iLO iHI; omega) (by omega) (by omega) ?_
    obtain ⟨v3, e_v3⟩ : ∃ z : Int, z = (gA es 103 k.toNat).toInt := ⟨_, rfl⟩
    rw [← e_v3]
    have r_v3 : iLO ≤ v3 ∧ v3 ≤ iHI := by rw [e_v3]; exact i32_rng _
    unfold iLO iHI at r_v3
    have b_v3 : (-1 : Int) ≤ v3 ∧ v3 ≤ (23 : Int) := by rw [e_v3]; exact gA_bd hT_es (p := 103) (k := k.toNat) rfl (by omega) (by decide)
    refine x_iast (p := 105) i_269_113 hs_es rfl (by unfold i32 iLO iHI; omega) (by omega) (by omega) ?_
    obtain ⟨es4, e_es4⟩ : ∃ z : PH, z = sA es 105 k.toNat (zI v3) := ⟨_, rfl⟩
    have hs_es4 : sh es4 := by rw [e_es4]; exact sh_sA hs_es
    have hT_es4 : hOK tT es4 := by rw [e_es4]; exact hOK_sA hT_es (p := 105) (n := 30) rfl (fun _ => by rw [zI_toInt (by unfold i32 iLO iHI; omega)]; exact ⟨by show (-1 : Int) ≤ v3; omega, by show v3 ≤ (23 : Int); omega⟩)
    rw [← e_es4]
    refine x_iinc (x := k) i_269_114 rfl (by show 5 < 10; decide) ?_
    show aW _ _ _ _ _ _ (117, [some (.ref 143), some (.int (zI fi)), some (.int (zI se)), some (.int (zI cp)), some (.int (zI v)), some (.int (zI (k + 1))), none, none, none, none], [], es4)
    refine x0 (r := (91, [some (.ref 143), some (.int (zI fi)), some (.int (zI se)), some (.int (zI cp)), some (.int (zI v)), some (.int (zI (k + 1))), none, none, none, none], [], es4)) i_269_117 rfl ?_
    exact K2 v1 e_v1 c2 v3 e_v3 es4 e_es4

theorem s_sh125 {O : pOut} {d kc ks : Nat} {Q : pRes → Prop} {es : PH} {fi se cp v k : Int} (hs_es : sh es) (hT_es : hOK tT es)
    (K1 : aW O d 269 kc ks Q (134, [some (.ref 143), some (.int (zI fi)), some (.int (zI se)), some (.int (zI cp)), some (.int (zI v)), some (.int (zI 0)), some (.int (zI 0)), some (.int (zI 0)), none, none], [], es)) :
    aW O d 269 kc ks Q (125, [some (.ref 143), some (.int (zI fi)), some (.int (zI se)), some (.int (zI cp)), some (.int (zI v)), some (.int (zI k)), none, none, none, none], [], es) := by
  refine x0 (r := (126, [some (.ref 143), some (.int (zI fi)), some (.int (zI se)), some (.int (zI cp)), some (.int (zI v)), some (.int (zI k)), none, none, none, none], [.int (zI 0)], es)) i_269_125 (by rfl) ?_
  refine x0 (r := (128, [some (.ref 143), some (.int (zI fi)), some (.int (zI se)), some (.int (zI cp)), some (.int (zI v)), some (.int (zI 0)), none, none, none, none], [], es)) i_269_126 rfl ?_
  refine x0 (r := (129, [some (.ref 143), some (.int (zI fi)), some (.int (zI se)), some (.int (zI cp)), some (.int (zI v)), some (.int (zI 0)), none, none, none, none], [.int (zI 0)], es)) i_269_128 (by rfl) ?_
  refine x0 (r := (131, [some (.ref 143), some (.int (zI fi)), some (.int (zI se)), some (.int (zI cp)), some (.int (zI v)), some (.int (zI 0)), some (.int (zI 0)), none, none, none], [], es)) i_269_129 rfl ?_
  refine x0 (r := (132, [some (.ref 143), some (.int (zI fi)), some (.int (zI se)), some (.int (zI cp)), some (.int (zI v)), some (.int (zI 0)), some (.int (zI 0)), none, none, none], [.int (zI 0)], es)) i_269_131 (by rfl) ?_
  refine x0 (r := (134, [some (.ref 143), some (.int (zI fi)), some (.int (zI se)), some (.int (zI cp)), some (.int (zI v)), some (.int (zI 0)), some (.int (zI 0)), some (.int (zI 0)), none, none], [], es)) i_269_132 rfl ?_
  exact K1

theorem s_sh134 {O : pOut} {d kc ks : Nat} {Q : pRes → Prop} {es : PH} {fi se cp v bo ow k : Int} {x8 x9 : Option Value} (hs_es : sh es) (hb : 0 ≤ bo ∧ bo ≤ 40) (ho : 0 ≤ ow ∧ ow ≤ 40) (hk : 0 ≤ k ∧ k ≤ 30) (hL : 0 ≤ (gI es 79 41).toInt ∧ (gI es 79 41).toInt ≤ 30) (hT_es : hOK tT es)
    (K1 : ∀ v1 : Int, v1 = (gI es 79 41).toInt → v1 ≤ k → aW O d 269 kc ks Q (302, [some (.ref 143), some (.int (zI fi)), some (.int (zI se)), some (.int (zI cp)), some (.int (zI v)), some (.int (zI bo)), some (.int (zI ow)), some (.int (zI k)), x8, x9], [], es))
    (K2 : ∀ v1 : Int, v1 = (gI es 79 41).toInt → ¬ (v1 ≤ k) → ∀ v3 : Int, v3 = (gA es 105 k.toNat).toInt → ∀ v4 : Int, v4 = (gA es 103 k.toNat).toInt → v4 < 0 → aW O d 269 kc ks Q (296, [some (.ref 143), some (.int (zI fi)), some (.int (zI se)), some (.int (zI cp)), some (.int (zI v)), some (.int (zI bo)), some (.int (zI ow)), some (.int (zI k)), some (.int (zI v3)), some (.int (zI v4))], [], es))
    (K3 : ∀ v1 : Int, v1 = (gI es 79 41).toInt → ¬ (v1 ≤ k) → ∀ v3 : Int, v3 = (gA es 105 k.toNat).toInt → ∀ v4 : Int, v4 = (gA es 103 k.toNat).toInt → ¬ (v4 < 0) → aW O d 269 kc ks Q (166, [some (.ref 143), some (.int (zI fi)), some (.int (zI se)), some (.int (zI cp)), some (.int (zI v)), some (.int (zI bo)), some (.int (zI ow)), some (.int (zI k)), some (.int (zI v3)), some (.int (zI v4))], [], es)) :
    aW O d 269 kc ks Q (134, [some (.ref 143), some (.int (zI fi)), some (.int (zI se)), some (.int (zI cp)), some (.int (zI v)), some (.int (zI bo)), some (.int (zI ow)), some (.int (zI k)), x8, x9], [], es) := by
  refine x0 (r := (136, [some (.ref 143), some (.int (zI fi)), some (.int (zI se)), some (.int (zI cp)), some (.int (zI v)), some (.int (zI bo)), some (.int (zI ow)), some (.int (zI k)), x8, x9], [.int (zI k)], es)) i_269_134 rfl ?_
  refine x0 (r := (137, [some (.ref 143), some (.int (zI fi)), some (.int (zI se)), some (.int (zI cp)), some (.int (zI v)), some (.int (zI bo)), some (.int (zI ow)), some (.int (zI k)), x8, x9], [.ref 143, .int (zI k)], es)) i_269_136 rfl ?_
  refine x_geti (p := 79) i_269_137 hs_es rfl rfl ?_
  obtain ⟨v1, e_v1⟩ : ∃ z : Int, z = (gI es 79 41).toInt := ⟨_, rfl⟩
  rw [← e_v1]
  have r_v1 : iLO ≤ v1 ∧ v1 ≤ iHI := by rw [e_v1]; exact i32_rng _
  unfold iLO iHI at r_v1
  have b_v1 : (0 : Int) ≤ v1 ∧ v1 ≤ (30 : Int) := by rw [e_v1]; exact gI_bd hT_es (p := 79) (b := 41) rfl rfl
  by_cases c2 : v1 ≤ k
  · refine x_cmpT i_269_140 (by unfold i32 iLO iHI; omega) (by unfold i32 iLO iHI; omega) rfl (by simp only [zC, cR]; omega) ?_
    exact K1 v1 e_v1 c2
  · refine x_cmpF i_269_140 (by unfold i32 iLO iHI; omega) (by unfold i32 iLO iHI; omega) rfl (by simp only [zC, cR]; omega) ?_
    refine x0 (r := (144, [some (.ref 143), some (.int (zI fi)), some (.int (zI se)), some (.int (zI cp)), some (.int (zI v)), some (.int (zI bo)), some (.int (zI ow)), some (.int (zI k)), x8, x9], [.ref 143], es)) i_269_143 rfl ?_
    refine x_getr (p := 79) (k := 169) i_269_144 hs_es rfl rfl ?_
    show aW _ _ _ _ _ _ (147, [some (.ref 143), some (.int (zI fi)), some (.int (zI se)), some (.int (zI cp)), some (.int (zI v)), some (.int (zI bo)), some (.int (zI ow)), some (.int (zI k)), x8, x9], [.ref 169], es)
    refine x0 (r := (149, [some (.ref 143), some (.int (zI fi)), some (.int (zI se)), some (.int (zI cp)), some (.int (zI v)), some (.int (zI bo)), some (.int (zI ow)), some (.int (zI k)), x8, x9], [.int (zI k), .ref 169], es)) i_269_147 rfl ?_
    refine x_iald (p := 105) i_269_149 hs_es rfl (by unfold i32 iLO iHI; omega) (by omega) (by omega) ?_
    obtain ⟨v3, e_v3⟩ : ∃ z : Int, z = (gA es 105 k.toNat).toInt := ⟨_, rfl⟩
    rw [← e_v3]
    have r_v3 : iLO ≤ v3 ∧ v3 ≤ iHI := by rw [e_v3]; exact i32_rng _
    unfold iLO iHI at r_v3
    have b_v3 : (-1 : Int) ≤ v3 ∧ v3 ≤ (23 : Int) := by rw [e_v3]; exact gA_bd hT_es (p := 105) (k := k.toNat) rfl (by omega) (by decide)
    refine x0 (r := (152, [some (.ref 143), some (.int (zI fi)), some (.int (zI se)), some (.int (zI cp)), some (.int (zI v)), some (.int (zI bo)), some (.int (zI ow)), some (.int (zI k)), some (.int (zI v3)), x9], [], es)) i_269_150 rfl ?_
    refine x0 (r := (153, [some (.ref 143), some (.int (zI fi)), some (.int (zI se)), some (.int (zI cp)), some (.int (zI v)), some (.int (zI bo)), some (.int (zI ow)), some (.int (zI k)), some (.int (zI v3)), x9], [.ref 143], es)) i_269_152 rfl ?_
    refine x_getr (p := 79) (k := 167) i_269_153 hs_es rfl rfl ?_
    show aW _ _ _ _ _ _ (156, [some (.ref 143), some (.int (zI fi)), some (.int (zI se)), some (.int (zI cp)), some (.int (zI v)), some (.int (zI bo)), some (.int (zI ow)), some (.int (zI k)), some (.int (zI v3)), x9], [.ref 167], es)
    refine x0 (r := (158, [some (.ref 143), some (.int (zI fi)), some (.int (zI se)), some (.int (zI cp)), some (.int (zI v)), some (.int (zI bo)), some (.int (zI ow)), some (.int (zI k)), some (.int (zI v3)), x9], [.int (zI k), .ref 167], es)) i_269_156 rfl ?_
    refine x_iald (p := 103) i_269_158 hs_es rfl (by unfold i32 iLO iHI; omega) (by omega) (by omega) ?_
    obtain ⟨v4, e_v4⟩ : ∃ z : Int, z = (gA es 103 k.toNat).toInt := ⟨_, rfl⟩
    rw [← e_v4]
    have r_v4 : iLO ≤ v4 ∧ v4 ≤ iHI := by rw [e_v4]; exact i32_rng _
    unfold iLO iHI at r_v4
    have b_v4 : (-1 : Int) ≤ v4 ∧ v4 ≤ (23 : Int) := by rw [e_v4]; exact gA_bd hT_es (p := 103) (k := k.toNat) rfl (by omega) (by decide)
    refine x0 (r := (161, [some (.ref 143), some (.int (zI fi)), some (.int (zI se)), some (.int (zI cp)), some (.int (zI v)), some (.int (zI bo)), some (.int (zI ow)), some (.int (zI k)), some (.int (zI v3)), some (.int (zI v4))], [], es)) i_269_159 rfl ?_
    refine x0 (r := (163, [some (.ref 143), some (.int (zI fi)), some (.int (zI se)), some (.int (zI cp)), some (.int (zI v)), some (.int (zI bo)), some (.int (zI ow)), some (.int (zI k)), some (.int (zI v3)), some (.int (zI v4))], [.int (zI v4)], es)) i_269_161 rfl ?_
    by_cases c5 : v4 < 0
    · refine x_ifT i_269_163 (by unfold i32 iLO iHI; omega) rfl (by simp only [zC, cR]; omega) ?_
      exact K2 v1 e_v1 c2 v3 e_v3 v4 e_v4 c5
    · refine x_ifF i_269_163 (by unfold i32 iLO iHI; omega) rfl (by simp only [zC, cR]; omega) ?_
      exact K3 v1 e_v1 c2 v3 e_v3 v4 e_v4 c5

theorem s_sh166 {O : pOut} {d kc ks : Nat} {Q : pRes → Prop} {es : PH} {fi se cp v bo ow k a b : Int} (hs_es : sh es) (hb : 0 ≤ bo ∧ bo ≤ 40) (ho : 0 ≤ ow ∧ ow ≤ 40) (hk : 0 ≤ k ∧ k ≤ 30) (ha : -1 ≤ a ∧ a ≤ 23) (hb2 : 0 ≤ b ∧ b ≤ 23) (hT_es : hOK tT es)
    (K1 : ∀ v1 : Int, v1 = (gA es 102 b.toNat).toInt → v1 < 1 → aW O (d + 2) 269 kc ks Q (296, [some (.ref 143), some (.int (zI fi)), some (.int (zI se)), some (.int (zI cp)), some (.int (zI v)), some (.int (zI bo)), some (.int (zI ow)), some (.int (zI k)), some (.int (zI a)), some (.int (zI b))], [], es))
    (K2 : ∀ v1 : Int, v1 = (gA es 102 b.toNat).toInt → ¬ (v1 < 1) → 5 < v1 → aW O (d + 2) 269 kc ks Q (296, [some (.ref 143), some (.int (zI fi)), some (.int (zI se)), some (.int (zI cp)), some (.int (zI v)), some (.int (zI bo)), some (.int (zI ow)), some (.int (zI k)), some (.int (zI a)), some (.int (zI b))], [], es))
    (K3 : ∀ v1 : Int, v1 = (gA es 102 b.toNat).toInt → ¬ (v1 < 1) → ¬ (5 < v1) → aW O (d + 2) 269 kc ks Q (182, [some (.ref 143), some (.int (zI fi)), some (.int (zI se)), some (.int (zI cp)), some (.int (zI v)), some (.int (zI bo)), some (.int (zI ow)), some (.int (zI k)), some (.int (zI a)), some (.int (zI b))], [], es)) :
    aW O (d + 2) 269 kc ks Q (166, [some (.ref 143), some (.int (zI fi)), some (.int (zI se)), some (.int (zI cp)), some (.int (zI v)), some (.int (zI bo)), some (.int (zI ow)), some (.int (zI k)), some (.int (zI a)), some (.int (zI b))], [], es) := by
  refine x0 (r := (167, [some (.ref 143), some (.int (zI fi)), some (.int (zI se)), some (.int (zI cp)), some (.int (zI v)), some (.int (zI bo)), some (.int (zI ow)), some (.int (zI k)), some (.int (zI a)), some (.int (zI b))], [.ref 143], es)) i_269_166 rfl ?_
  refine x_getr (p := 79) (k := 166) i_269_167 hs_es rfl rfl ?_
  show aW _ _ _ _ _ _ (170, [some (.ref 143), some (.int (zI fi)), some (.int (zI se)), some (.int (zI cp)), some (.int (zI v)), some (.int (zI bo)), some (.int (zI ow)), some (.int (zI k)), some (.int (zI a)), some (.int (zI b))], [.ref 166], es)
  refine x0 (r := (172, [some (.ref 143), some (.int (zI fi)), some (.int (zI se)), some (.int (zI cp)), some (.int (zI v)), some (.int (zI bo)), some (.int (zI ow)), some (.int (zI k)), some (.int (zI a)), some (.int (zI b))], [.int (zI b), .ref 166], es)) i_269_170 rfl ?_
  refine x_iald (p := 102) i_269_172 hs_es rfl (by unfold i32 iLO iHI; omega) (by omega) (by omega) ?_
  obtain ⟨v1, e_v1⟩ : ∃ z : Int, z = (gA es 102 b.toNat).toInt := ⟨_, rfl⟩
  rw [← e_v1]
  have r_v1 : iLO ≤ v1 ∧ v1 ≤ iHI := by rw [e_v1]; exact i32_rng _
  unfold iLO iHI at r_v1
  have b_v1 : (0 : Int) ≤ v1 ∧ v1 ≤ (7 : Int) := by rw [e_v1]; exact gA_bd hT_es (p := 102) (k := b.toNat) rfl (by omega) (by decide)
  refine x_call (vs := [.int (zI v1)]) (rs := []) i_269_173 rfl (fun _ => rfl) rfl rfl rfl rfl rfl rfl ?_
  show aW _ _ _ _ _ _ (0, [some (.int (zI v1))], [], es)
  refine x0 (r := (1, [some (.int (zI v1))], [.int (zI v1)], es)) i_270_0 rfl ?_
  refine x0 (r := (2, [some (.int (zI v1))], [.int (zI 1), .int (zI v1)], es)) i_270_1 (by rfl) ?_
  refine x0 (r := (3, [some (.int (zI v1))], [.int (zI 5), .int (zI 1), .int (zI v1)], es)) i_270_2 (by rfl) ?_
  refine x_call (vs := [.int (zI v1), .int (zI 1), .int (zI 5)]) (rs := []) i_270_3 rfl (fun _ => rfl) rfl rfl rfl rfl rfl rfl ?_
  show aW _ _ _ _ _ _ (0, [some (.int (zI v1)), some (.int (zI 1)), some (.int (zI 5))], [], es)
  refine x0 (r := (1, [some (.int (zI v1)), some (.int (zI 1)), some (.int (zI 5))], [.int (zI v1)], es)) i_193_0 rfl ?_
  refine x0 (r := (2, [some (.int (zI v1)), some (.int (zI 1)), some (.int (zI 5))], [.int (zI 1), .int (zI v1)], es)) i_193_1 rfl ?_
  by_cases c2 : v1 < 1
  · refine x_cmpT i_193_2 (by unfold i32 iLO iHI; omega) (by unfold i32 iLO iHI; omega) rfl (by simp only [zC, cR]; omega) ?_
    refine x0 (r := (15, [some (.int (zI v1)), some (.int (zI 1)), some (.int (zI 5))], [.int (zI 0)], es)) i_193_14 (by rfl) ?_
    refine x_ret (v := some (.int (zI 0))) i_193_15 rfl (fun _ => rfl) rfl rfl (pFin_b (by omega)) ?_
    show aW _ _ _ _ _ _ (6, [some (.int (zI v1))], [.int (zI 0)], es)
    refine x_ret (v := some (.int (zI 0))) i_270_6 rfl (fun _ => rfl) rfl rfl (pFin_b (by omega)) ?_
    show aW _ _ _ _ _ _ (176, [some (.ref 143), some (.int (zI fi)), some (.int (zI se)), some (.int (zI cp)), some (.int (zI v)), some (.int (zI bo)), some (.int (zI ow)), some (.int (zI k)), some (.int (zI a)), some (.int (zI b))], [.int (zI 0)], es)
    refine x_ifF i_269_176 (by unfold i32 iLO iHI; omega) rfl (by simp only [zC, cR]; omega) ?_
    refine x0 (r := (296, [some (.ref 143), some (.int (zI fi)), some (.int (zI se)), some (.int (zI cp)), some (.int (zI v)), some (.int (zI bo)), some (.int (zI ow)), some (.int (zI k)), some (.int (zI a)), some (.int (zI b))], [], es)) i_269_179 rfl ?_
    exact K1 v1 e_v1 c2
  · refine x_cmpF i_193_2 (by unfold i32 iLO iHI; omega) (by unfold i32 iLO iHI; omega) rfl (by simp only [zC, cR]; omega) ?_
    refine x0 (r := (6, [some (.int (zI v1)), some (.int (zI 1)), some (.int (zI 5))], [.int (zI v1)], es)) i_193_5 rfl ?_
    refine x0 (r := (7, [some (.int (zI v1)), some (.int (zI 1)), some (.int (zI 5))], [.int (zI 5), .int (zI v1)], es)) i_193_6 rfl ?_
    by_cases c3 : 5 < v1
    · refine x_cmpT i_193_7 (by unfold i32 iLO iHI; omega) (by unfold i32 iLO iHI; omega) rfl (by simp only [zC, cR]; omega) ?_
      refine x0 (r := (15, [some (.int (zI v1)), some (.int (zI 1)), some (.int (zI 5))], [.int (zI 0)], es)) i_193_14 (by rfl) ?_
      refine x_ret (v := some (.int (zI 0))) i_193_15 rfl (fun _ => rfl) rfl rfl (pFin_b (by omega)) ?_
      show aW _ _ _ _ _ _ (6, [some (.int (zI v1))], [.int (zI 0)], es)
      refine x_ret (v := some (.int (zI 0))) i_270_6 rfl (fun _ => rfl) rfl rfl (pFin_b (by omega)) ?_
      show aW _ _ _ _ _ _ (176, [some (.ref 143), some (.int (zI fi)), some (.int (zI se)), some (.int (zI cp)), some (.int (zI v)), some (.int (zI bo)), some (.int (zI ow)), some (.int (zI k)), some (.int (zI a)), some (.int (zI b))], [.int (zI 0)], es)
      refine x_ifF i_269_176 (by unfold i32 iLO iHI; omega) rfl (by simp only [zC, cR]; omega) ?_
      refine x0 (r := (296, [some (.ref 143), some (.int (zI fi)), some (.int (zI se)), some (.int (zI cp)), some (.int (zI v)), some (.int (zI bo)), some (.int (zI ow)), some (.int (zI k)), some (.int (zI a)), some (.int (zI b))], [], es)) i_269_179 rfl ?_
      exact K2 v1 e_v1 c2 c3
    · refine x_cmpF i_193_7 (by unfold i32 iLO iHI; omega) (by unfold i32 iLO iHI; omega) rfl (by simp only [zC, cR]; omega) ?_
      refine x0 (r := (11, [some (.int (zI v1)), some (.int (zI 1)), some (.int (zI 5))], [.int (zI 1)], es)) i_193_10 (by rfl) ?_
      refine x0 (r := (15, [some (.int (zI v1)), some (.int (zI 1)), some (.int (zI 5))], [.int (zI 1)], es)) i_193_11 rfl ?_
      refine x_ret (v := some (.int (zI 1))) i_193_15 rfl (fun _ => rfl) rfl rfl (pFin_b (by omega)) ?_
      show aW _ _ _ _ _ _ (6, [some (.int (zI v1))], [.int (zI 1)], es)
      refine x_ret (v := some (.int (zI 1))) i_270_6 rfl (fun _ => rfl) rfl rfl (pFin_b (by omega)) ?_
      show aW _ _ _ _ _ _ (176, [some (.ref 143), some (.int (zI fi)), some (.int (zI se)), some (.int (zI cp)), some (.int (zI v)), some (.int (zI bo)), some (.int (zI ow)), some (.int (zI k)), some (.int (zI a)), some (.int (zI b))], [.int (zI 1)], es)
      refine x_ifT i_269_176 (by unfold i32 iLO iHI; omega) rfl (by simp only [zC, cR]; omega) ?_
      exact K3 v1 e_v1 c2 c3

theorem s_sh182 {O : pOut} {d kc ks : Nat} {Q : pRes → Prop} {es : PH} {fi se cp v bo ow k a b : Int} (hs_es : sh es) (hb : 0 ≤ bo ∧ bo ≤ 40) (ho : 0 ≤ ow ∧ ow ≤ 40) (hk : 0 ≤ k ∧ k ≤ 30) (ha : -1 ≤ a ∧ a ≤ 23) (hb2 : 0 ≤ b ∧ b ≤ 23) (hT_es : hOK tT es)
    (K1 : a < 0 → aW O d 269 kc ks Q (207, [some (.ref 143), some (.int (zI fi)), some (.int (zI se)), some (.int (zI cp)), some (.int (zI v)), some (.int (zI bo)), some (.int (zI (ow + 1))), some (.int (zI k)), some (.int (zI a)), some (.int (zI b))], [], es))
    (K2 : ¬ (a < 0) → ∀ v2 : Int, v2 = (gA es 104 a.toNat).toInt → v2 ≠ 0 → aW O d 269 kc ks Q (207, [some (.ref 143), some (.int (zI fi)), some (.int (zI se)), some (.int (zI cp)), some (.int (zI v)), some (.int (zI bo)), some (.int (zI (ow + 0))), some (.int (zI k)), some (.int (zI a)), some (.int (zI b))], [], es))
    (K3 : ¬ (a < 0) → ∀ v2 : Int, v2 = (gA es 104 a.toNat).toInt → ¬ (v2 ≠ 0) → aW O d 269 kc ks Q (207, [some (.ref 143), some (.int (zI fi)), some (.int (zI se)), some (.int (zI cp)), some (.int (zI v)), some (.int (zI bo)), some (.int (zI (ow + 1))), some (.int (zI k)), some (.int (zI a)), some (.int (zI b))], [], es)) :
    aW O d 269 kc ks Q (182, [some (.ref 143), some (.int (zI fi)), some (.int (zI se)), some (.int (zI cp)), some (.int (zI v)), some (.int (zI bo)), some (.int (zI ow)), some (.int (zI k)), some (.int (zI a)), some (.int (zI b))], [], es) := by
  refine x0 (r := (184, [some (.ref 143), some (.int (zI fi)), some (.int (zI se)), some (.int (zI cp)), some (.int (zI v)), some (.int (zI bo)), some (.int (zI ow)), some (.int (zI k)), some (.int (zI a)), some (.int (zI b))], [.int (zI ow)], es)) i_269_182 rfl ?_
  refine x0 (r := (186, [some (.ref 143), some (.int (zI fi)), some (.int (zI se)), some (.int (zI cp)), some (.int (zI v)), some (.int (zI bo)), some (.int (zI ow)), some (.int (zI k)), some (.int (zI a)), some (.int (zI b))], [.int (zI a), .int (zI ow)], es)) i_269_184 rfl ?_
  by_cases c1 : a < 0
  · refine x_ifT i_269_186 (by unfold i32 iLO iHI; omega) rfl (by simp only [zC, cR]; omega) ?_
    refine x0 (r := (200, [some (.ref 143), some (.int (zI fi)), some (.int (zI se)), some (.int (zI cp)), some (.int (zI v)), some (.int (zI bo)), some (.int (zI ow)), some (.int (zI k)), some (.int (zI a)), some (.int (zI b))], [.int (zI 1), .int (zI ow)], es)) i_269_199 (by rfl) ?_
    refine x0 (r := (204, [some (.ref 143), some (.int (zI fi)), some (.int (zI se)), some (.int (zI cp)), some (.int (zI v)), some (.int (zI bo)), some (.int (zI ow)), some (.int (zI k)), some (.int (zI a)), some (.int (zI b))], [.int (zI 1), .int (zI ow)], es)) i_269_200 rfl ?_
    refine x_iadd i_269_204 ?_
    refine x0 (r := (207, [some (.ref 143), some (.int (zI fi)), some (.int (zI se)), some (.int (zI cp)), some (.int (zI v)), some (.int (zI bo)), some (.int (zI (ow + 1))), some (.int (zI k)), some (.int (zI a)), some (.int (zI b))], [], es)) i_269_205 rfl ?_
    exact K1 c1
  · refine x_ifF i_269_186 (by unfold i32 iLO iHI; omega) rfl (by simp only [zC, cR]; omega) ?_
    refine x0 (r := (190, [some (.ref 143), some (.int (zI fi)), some (.int (zI se)), some (.int (zI cp)), some (.int (zI v)), some (.int (zI bo)), some (.int (zI ow)), some (.int (zI k)), some (.int (zI a)), some (.int (zI b))], [.ref 143, .int (zI ow)], es)) i_269_189 rfl ?_
    refine x_getr (p := 79) (k := 168) i_269_190 hs_es rfl rfl ?_
    show aW _ _ _ _ _ _ (193, [some (.ref 143), some (.int (zI fi)), some (.int (zI se)), some (.int (zI cp)), some (.int (zI v)), some (.int (zI bo)), some (.int (zI ow)), some (.int (zI k)), some (.int (zI a)), some (.int (zI b))], [.ref 168, .int (zI ow)], es)
    refine x0 (r := (195, [some (.ref 143), some (.int (zI fi)), some (.int (zI se)), some (.int (zI cp)), some (.int (zI v)), some (.int (zI bo)), some (.int (zI ow)), some (.int (zI k)), some (.int (zI a)), some (.int (zI b))], [.int (zI a), .ref 168, .int (zI ow)], es)) i_269_193 rfl ?_
    refine x_iald (p := 104) i_269_195 hs_es rfl (by unfold i32 iLO iHI; omega) (by omega) (by omega) ?_
    obtain ⟨v2, e_v2⟩ : ∃ z : Int, z = (gA es 104 a.toNat).toInt := ⟨_, rfl⟩
    rw [← e_v2]
    have r_v2 : iLO ≤ v2 ∧ v2 ≤ iHI := by rw [e_v2]; exact i32_rng _
    unfold iLO iHI at r_v2
    have b_v2 : (0 : Int) ≤ v2 ∧ v2 ≤ (7 : Int) := by rw [e_v2]; exact gA_bd hT_es (p := 104) (k := a.toNat) rfl (by omega) (by decide)
    by_cases c3 : v2 ≠ 0
    · refine x_ifT i_269_196 (by unfold i32 iLO iHI; omega) rfl (by simp only [zC, cR]; omega) ?_
      refine x0 (r := (204, [some (.ref 143), some (.int (zI fi)), some (.int (zI se)), some (.int (zI cp)), some (.int (zI v)), some (.int (zI bo)), some (.int (zI ow)), some (.int (zI k)), some (.int (zI a)), some (.int (zI b))], [.int (zI 0), .int (zI ow)], es)) i_269_203 (by rfl) ?_
      refine x_iadd i_269_204 ?_
      refine x0 (r := (207, [some (.ref 143), some (.int (zI fi)), some (.int (zI se)), some (.int (zI cp)), some (.int (zI v)), some (.int (zI bo)), some (.int (zI (ow + 0))), some (.int (zI k)), some (.int (zI a)), some (.int (zI b))], [], es)) i_269_205 rfl ?_
      exact K2 c1 v2 e_v2 c3
    · refine x_ifF i_269_196 (by unfold i32 iLO iHI; omega) rfl (by simp only [zC, cR]; omega) ?_
      refine x0 (r := (200, [some (.ref 143), some (.int (zI fi)), some (.int (zI se)), some (.int (zI cp)), some (.int (zI v)), some (.int (zI bo)), some (.int (zI ow)), some (.int (zI k)), some (.int (zI a)), some (.int (zI b))], [.int (zI 1), .int (zI ow)], es)) i_269_199 (by rfl) ?_
      refine x0 (r := (204, [some (.ref 143), some (.int (zI fi)), some (.int (zI se)), some (.int (zI cp)), some (.int (zI v)), some (.int (zI bo)), some (.int (zI ow)), some (.int (zI k)), some (.int (zI a)), some (.int (zI b))], [.int (zI 1), .int (zI ow)], es)) i_269_200 rfl ?_
      refine x_iadd i_269_204 ?_
      refine x0 (r := (207, [some (.ref 143), some (.int (zI fi)), some (.int (zI se)), some (.int (zI cp)), some (.int (zI v)), some (.int (zI bo)), some (.int (zI (ow + 1))), some (.int (zI k)), some (.int (zI a)), some (.int (zI b))], [], es)) i_269_205 rfl ?_
      exact K3 c1 v2 e_v2 c3

theorem s_sh207 {O : pOut} {d kc ks : Nat} {Q : pRes → Prop} {es : PH} {fi se cp v bo ow k a b : Int} (hs_es : sh es) (hf : 0 ≤ fi ∧ fi ≤ 2) (hs : 0 ≤ se ∧ se ≤ 2) (hb : 0 ≤ bo ∧ bo ≤ 40) (ho : 0 ≤ ow ∧ ow ≤ 40) (hk : 0 ≤ k ∧ k ≤ 30) (ha : -1 ≤ a ∧ a ≤ 23) (hb2 : 0 ≤ b ∧ b ≤ 23) (hT_es : hOK tT es)
    (K1 : a < 0 → aW O (d + 2) 269 kc ks Q (296, [some (.ref 143), some (.int (zI fi)), some (.int (zI se)), some (.int (zI cp)), some (.int (zI v)), some (.int (zI (bo + 0))), some (.int (zI ow)), some (.int (zI k)), some (.int (zI a)), some (.int (zI b))], [], es))
    (K2 : ¬ (a < 0) → ∀ v2 : Int, v2 = (gA es 104 a.toNat).toInt → ∀ v3 : Int, v3 = (gA es 102 b.toNat).toInt → v2 ≠ v3 → aW O (d + 2) 269 kc ks Q (296, [some (.ref 143), some (.int (zI fi)), some (.int (zI se)), some (.int (zI cp)), some (.int (zI v)), some (.int (zI (bo + 0))), some (.int (zI ow)), some (.int (zI k)), some (.int (zI a)), some (.int (zI b))], [], es))
    (K3 : ¬ (a < 0) → ∀ v2 : Int, v2 = (gA es 104 a.toNat).toInt → ∀ v3 : Int, v3 = (gA es 102 b.toNat).toInt → ¬ (v2 ≠ v3) → ∀ v5 : Int, v5 = (gA es 80 ((119 + (98 * fi)) + ((2 + (4 * a)) + 0)).toNat).toInt → ∀ v6 : Int, v6 = (gA es 80 ((119 + (98 * se)) + ((2 + (4 * b)) + 0)).toNat).toInt → v5 ≠ v6 → aW O (d + 2) 269 kc ks Q (296, [some (.ref 143), some (.int (zI fi)), some (.int (zI se)), some (.int (zI cp)), some (.int (zI v)), some (.int (zI (bo + 0))), some (.int (zI ow)), some (.int (zI k)), some (.int (zI a)), some (.int (zI b))], [], es))
    (K4 : ¬ (a < 0) → ∀ v2 : Int, v2 = (gA es 104 a.toNat).toInt → ∀ v3 : Int, v3 = (gA es 102 b.toNat).toInt → ¬ (v2 ≠ v3) → ∀ v5 : Int, v5 = (gA es 80 ((119 + (98 * fi)) + ((2 + (4 * a)) + 0)).toNat).toInt → ∀ v6 : Int, v6 = (gA es 80 ((119 + (98 * se)) + ((2 + (4 * b)) + 0)).toNat).toInt → ¬ (v5 ≠ v6) → ∀ v8 : Int, v8 = (gA es 80 ((119 + (98 * fi)) + ((2 + (4 * a)) + 2)).toNat).toInt → ∀ v9 : Int, v9 = (gA es 80 ((119 + (98 * se)) + ((2 + (4 * b)) + 2)).toNat).toInt → v8 ≠ v9 → aW O (d + 2) 269 kc ks Q (296, [some (.ref 143), some (.int (zI fi)), some (.int (zI se)), some (.int (zI cp)), some (.int (zI v)), some (.int (zI (bo + 0))), some (.int (zI ow)), some (.int (zI k)), some (.int (zI a)), some (.int (zI b))], [], es))
    (K5 : ¬ (a < 0) → ∀ v2 : Int, v2 = (gA es 104 a.toNat).toInt → ∀ v3 : Int, v3 = (gA es 102 b.toNat).toInt → ¬ (v2 ≠ v3) → ∀ v5 : Int, v5 = (gA es 80 ((119 + (98 * fi)) + ((2 + (4 * a)) + 0)).toNat).toInt → ∀ v6 : Int, v6 = (gA es 80 ((119 + (98 * se)) + ((2 + (4 * b)) + 0)).toNat).toInt → ¬ (v5 ≠ v6) → ∀ v8 : Int, v8 = (gA es 80 ((119 + (98 * fi)) + ((2 + (4 * a)) + 2)).toNat).toInt → ∀ v9 : Int, v9 = (gA es 80 ((119 + (98 * se)) + ((2 + (4 * b)) + 2)).toNat).toInt → ¬ (v8 ≠ v9) → ∀ v11 : Int, v11 = (gA es 80 ((119 + (98 * fi)) + ((2 + (4 * a)) + 3)).toNat).toInt → ∀ v12 : Int, v12 = (gA es 80 ((119 + (98 * se)) + ((2 + (4 * b)) + 3)).toNat).toInt → v11 ≠ v12 → aW O (d + 2) 269 kc ks Q (296, [some (.ref 143), some (.int (zI fi)), some (.int (zI se)), some (.int (zI cp)), some (.int (zI v)), some (.int (zI (bo + 0))), some (.int (zI ow)), some (.int (zI k)), some (.int (zI a)), some (.int (zI b))], [], es))
    (K6 : ¬ (a < 0) → ∀ v2 : Int, v2 = (gA es 104 a.toNat).toInt → ∀ v3 : Int, v3 = (gA es 102 b.toNat).toInt → ¬ (v2 ≠ v3) → ∀ v5 : Int, v5 = (gA es 80 ((119 + (98 * fi)) + ((2 + (4 * a)) + 0)).toNat).toInt → ∀ v6 : Int, v6 = (gA es 80 ((119 + (98 * se)) + ((2 + (4 * b)) + 0)).toNat).toInt → ¬ (v5 ≠ v6) → ∀ v8 : Int, v8 = (gA es 80 ((119 + (98 * fi)) + ((2 + (4 * a)) + 2)).toNat).toInt → ∀ v9 : Int, v9 = (gA es 80 ((119 + (98 * se)) + ((2 + (4 * b)) + 2)).toNat).toInt → ¬ (v8 ≠ v9) → ∀ v11 : Int, v11 = (gA es 80 ((119 + (98 * fi)) + ((2 + (4 * a)) + 3)).toNat).toInt → ∀ v12 : Int, v12 = (gA es 80 ((119 + (98 * se)) + ((2 + (4 * b)) + 3)).toNat).toInt → ¬ (v11 ≠ v12) → aW O (d + 2) 269 kc ks Q (296, [some (.ref 143), some (.int (zI fi)), some (.int (zI se)), some (.int (zI cp)), some (.int (zI v)), some (.int (zI (bo + 1))), some (.int (zI ow)), some (.int (zI k)), some (.int (zI a)), some (.int (zI b))], [], es)) :
    aW O (d + 2) 269 kc ks Q (207, [some (.ref 143), some (.int (zI fi)), some (.int (zI se)), some (.int (zI cp)), some (.int (zI v)), some (.int (zI bo)), some (.int (zI ow)), some (.int (zI k)), some (.int (zI a)), some (.int (zI b))], [], es) := by
  refine x0 (r := (209, [some (.ref 143), some (.int (zI fi)), some (.int (zI se)), some (.int (zI cp)), some (.int (zI v)), some (.int (zI bo)), some (.int (zI ow)), some (.int (zI k)), some (.int (zI a)), some (.int (zI b))], [.int (zI bo)], es)) i_269_207 rfl ?_
  refine x0 (r := (211, [some (.ref 143), some (.int (zI fi)), some (.int (zI se)), some (.int (zI cp)), some (.int (zI v)), some (.int (zI bo)), some (.int (zI ow)), some (.int (zI k)), some (.int (zI a)), some (.int (zI b))], [.int (zI a), .int (zI bo)], es)) i_269_209 rfl ?_
  by_cases c1 : a < 0
  · refine x_ifT i_269_211 (by unfold i32 iLO iHI; omega) rfl (by simp only [zC, cR]; omega) ?_
    refine x0 (r := (293, [some (.ref 143), some (.int (zI fi)), some (.int (zI se)), some (.int (zI cp)), some (.int (zI v)), some (.int (zI bo)), some (.int (zI ow)), some (.int (zI k)), some (.int (zI a)), some (.int (zI b))], [.int (zI 0), .int (zI bo)], es)) i_269_292 (by rfl) ?_
    refine x_iadd i_269_293 ?_
    refine x0 (r := (296, [some (.ref 143), some (.int (zI fi)), some (.int (zI se)), some (.int (zI cp)), some (.int (zI v)), some (.int (zI (bo + 0))), some (.int (zI ow)), some (.int (zI k)), some (.int (zI a)), some (.int (zI b))], [], es)) i_269_294 rfl ?_
    exact K1 c1
  · refine x_ifF i_269_211 (by unfold i32 iLO iHI; omega) rfl (by simp only [zC, cR]; omega) ?_
    refine x0 (r := (215, [some (.ref 143), some (.int (zI fi)), some (.int (zI se)), some (.int (zI cp)), some (.int (zI v)), some (.int (zI bo)), some (.int (zI ow)), some (.int (zI k)), some (.int (zI a)), some (.int (zI b))], [.ref 143, .int (zI bo)], es)) i_269_214 rfl ?_
    refine x_getr (p := 79) (k := 168) i_269_215 hs_es rfl rfl ?_
    show aW _ _ _ _ _ _ (218, [some (.ref 143), some (.int (zI fi)), some (.int (zI se)), some (.int (zI cp)), some (.int (zI v)), some (.int (zI bo)), some (.int (zI ow)), some (.int (zI k)), some (.int (zI a)), some (.int (zI b))], [.ref 168, .int (zI bo)], es)
    refine x0 (r := (220, [some (.ref 143), some (.int (zI fi)), some (.int (zI se)), some (.int (zI cp)), some (.int (zI v)), some (.int (zI bo)), some (.int (zI ow)), some (.int (zI k)), some (.int (zI a)), some (.int (zI b))], [.int (zI a), .ref 168, .int (zI bo)], es)) i_269_218 rfl ?_
    refine x_iald (p := 104) i_269_220 hs_es rfl (by unfold i32 iLO iHI; omega) (by omega) (by omega) ?_
    obtain ⟨v2, e_v2⟩ : ∃ z : Int, z = (gA es 104 a.toNat).toInt := ⟨_, rfl⟩
    rw [← e_v2]
    have r_v2 : iLO ≤ v2 ∧ v2 ≤ iHI := by rw [e_v2]; exact i32_rng _
    unfold iLO iHI at r_v2
    have b_v2 : (0 : Int) ≤ v2 ∧ v2 ≤ (7 : Int) := by rw [e_v2]; exact gA_bd hT_es (p := 104) (k := a.toNat) rfl (by omega) (by decide)
    refine x0 (r := (222, [some (.ref 143), some (.int (zI fi)), some (.int (zI se)), some (.int (zI cp)), some (.int (zI v)), some (.int (zI bo)), some (.int (zI ow)), some (.int (zI k)), some (.int (zI a)), some (.int (zI b))], [.ref 143, .int (zI v2), .int (zI bo)], es)) i_269_221 rfl ?_
    refine x_getr (p := 79) (k := 166) i_269_222 hs_es rfl rfl ?_
    show aW _ _ _ _ _ _ (225, [some (.ref 143), some (.int (zI fi)), some (.int (zI se)), some (.int (zI cp)), some (.int (zI v)), some (.int (zI bo)), some (.int (zI ow)), some (.int (zI k)), some (.int (zI a)), some (.int (zI b))], [.ref 166, .int (zI v2), .int (zI bo)], es)
    refine x0 (r := (227, [some (.ref 143), some (.int (zI fi)), some (.int (zI se)), some (.int (zI cp)), some (.int (zI v)), some (.int (zI bo)), some (.int (zI ow)), some (.int (zI k)), some (.int (zI a)), some (.int (zI b))], [.int (zI b), .ref 166, .int (zI v2), .int (zI bo)], es)) i_269_225 rfl ?_
    refine x_iald (p := 102) i_269_227 hs_es rfl (by unfold i32 iLO iHI; omega) (by omega) (by omega) ?_
    obtain ⟨v3, e_v3⟩ : ∃ z : Int, z = (gA es 102 b.toNat).toInt := ⟨_, rfl⟩
    rw [← e_v3]
    have r_v3 : iLO ≤ v3 ∧ v3 ≤ iHI := by rw [e_v3]; exact i32_rng _
    unfold iLO iHI at r_v3
    have b_v3 : (0 : Int) ≤ v3 ∧ v3 ≤ (7 : Int) := by rw [e_v3]; exact gA_bd hT_es (p := 102) (k := b.toNat) rfl (by omega) (by decide)
    by_cases c4 : v2 ≠ v3
    · refine x_cmpT i_269_228 (by unfold i32 iLO iHI; omega) (by unfold i32 iLO iHI; omega) rfl (by simp only [zC, cR]; omega) ?_
      refine x0 (r := (293, [some (.ref 143), some (.int (zI fi)), some (.int (zI se)), some (.int (zI cp)), some (.int (zI v)), some (.int (zI bo)), some (.int (zI ow)), some (.int (zI k)), some (.int (zI a)), some (.int (zI b))], [.int (zI 0), .int (zI bo)], es)) i_269_292 (by rfl) ?_
      refine x_iadd i_269_293 ?_
      refine x0 (r := (296, [some (.ref 143), some (.int (zI fi)), some (.int (zI se)), some (.int (zI cp)), some (.int (zI v)), some (.int (zI (bo + 0))), some (.int (zI ow)), some (.int (zI k)), some (.int (zI a)), some (.int (zI b))], [], es)) i_269_294 rfl ?_
      exact K2 c1 v2 e_v2 v3 e_v3 c4
    · refine x_cmpF i_269_228 (by unfold i32 iLO iHI; omega) (by unfold i32 iLO iHI; omega) rfl (by simp only [zC, cR]; omega) ?_
      refine x0 (r := (232, [some (.ref 143), some (.int (zI fi)), some (.int (zI se)), some (.int (zI cp)), some (.int (zI v)), some (.int (zI bo)), some (.int (zI ow)), some (.int (zI k)), some (.int (zI a)), some (.int (zI b))], [.ref 143, .int (zI bo)], es)) i_269_231 rfl ?_
      refine x0 (r := (233, [some (.ref 143), some (.int (zI fi)), some (.int (zI se)), some (.int (zI cp)), some (.int (zI v)), some (.int (zI bo)), some (.int (zI ow)), some (.int (zI k)), some (.int (zI a)), some (.int (zI b))], [.int (zI fi), .ref 143, .int (zI bo)], es)) i_269_232 rfl ?_
      refine x0 (r := (235, [some (.ref 143), some (.int (zI fi)), some (.int (zI se)), some (.int (zI cp)), some (.int (zI v)), some (.int (zI bo)), some (.int (zI ow)), some (.int (zI k)), some (.int (zI a)), some (.int (zI b))], [.int (zI a), .int (zI fi), .ref 143, .int (zI bo)], es)) i_269_233 rfl ?_
      refine x0 (r := (236, [some (.ref 143), some (.int (zI fi)), some (.int (zI se)), some (.int (zI cp)), some (.int (zI v)), some (.int (zI bo)), some (.int (zI ow)), some (.int (zI k)), some (.int (zI a)), some (.int (zI b))], [.int (zI 0), .int (zI a), .int (zI fi), .ref 143, .int (zI bo)], es)) i_269_235 (by rfl) ?_
      refine x_call (vs := [.ref 143, .int (zI fi), .int (zI a), .int (zI 0)]) (rs := [.int (zI bo)]) i_269_236 rfl (fun _ => rfl) rfl rfl rfl rfl rfl (pCall_v (p := 79) hs_es rfl rfl rfl rfl rfl (by decide) rfl rfl rfl rfl rfl) ?_
      show aW _ _ _ _ _ _ (0, [some (.ref 143), some (.int (zI fi)), some (.int (zI a)), some (.int (zI 0))], [], es)
      refine x0 (r := (1, [some (.ref 143), some (.int (zI fi)), some (.int (zI a)), some (.int (zI 0))], [.ref 143], es)) i_211_0 rfl ?_
      refine x0 (r := (2, [some (.ref 143), some (.int (zI fi)), some (.int (zI a)), some (.int (zI 0))], [.int (zI fi), .ref 143], es)) i_211_1 rfl ?_
      refine x0 (r := (3, [some (.ref 143), some (.int (zI fi)), some (.int (zI a)), some (.int (zI 0))], [.int (zI 2), .int (zI fi), .ref 143], es)) i_211_2 (by rfl) ?_
      refine x0 (r := (4, [some (.ref 143), some (.int (zI fi)), some (.int (zI a)), some (.int (zI 0))], [.int (zI 4), .int (zI 2), .int (zI fi), .ref 143], es)) i_211_3 (by rfl) ?_
      refine x0 (r := (5, [some (.ref 143), some (.int (zI fi)), some (.int (zI a)), some (.int (zI 0))], [.int (zI a), .int (zI 4), .int (zI 2), .int (zI fi), .ref 143], es)) i_211_4 rfl ?_
      refine x_imul i_211_5 ?_
      refine x_iadd i_211_6 ?_
      refine x0 (r := (8, [some (.ref 143), some (.int (zI fi)), some (.int (zI a)), some (.int (zI 0))], [.int (zI 0), .int (zI (2 + (4 * a))), .int (zI fi), .ref 143], es)) i_211_7 rfl ?_
      refine x_iadd i_211_8 ?_
      refine x_call (vs := [.ref 143, .int (zI fi), .int (zI ((2 + (4 * a)) + 0))]) (rs := []) i_211_9 rfl (fun _ => rfl) rfl rfl rfl rfl rfl (pCall_v (p := 79) hs_es rfl rfl rfl rfl rfl (by decide) rfl rfl rfl rfl rfl) ?_
      show aW _ _ _ _ _ _ (0, [some (.ref 143), some (.int (zI fi)), some (.int (zI ((2 + (4 * a)) + 0)))], [], es)
      refine x0 (r := (1, [some (.ref 143), some (.int (zI fi)), some (.int (zI ((2 + (4 * a)) + 0)))], [.ref 143], es)) i_206_0 rfl ?_
      refine x_getr (p := 79) (k := 144) i_206_1 hs_es rfl rfl ?_
      show aW _ _ _ _ _ _ (4, [some (.ref 143), some (.int (zI fi)), some (.int (zI ((2 + (4 * a)) + 0)))], [.ref 144], es)
      refine x0 (r := (6, [some (.ref 143), some (.int (zI fi)), some (.int (zI ((2 + (4 * a)) + 0)))], [.int (zI 119), .ref 144], es)) i_206_4 (by rfl) ?_
      refine x0 (r := (8, [some (.ref 143), some (.int (zI fi)), some (.int (zI ((2 + (4 * a)) + 0)))], [.int (zI 98), .int (zI 119), .ref 144], es)) i_206_6 (by rfl) ?_
      refine x0 (r := (9, [some (.ref 143), some (.int (zI fi)), some (.int (zI ((2 + (4 * a)) + 0)))], [.int (zI fi), .int (zI 98), .int (zI 119), .ref 144], es)) i_206_8 rfl ?_
      refine x_imul i_206_9 ?_
      refine x_iadd i_206_10 ?_
      refine x0 (r := (12, [some (.ref 143), some (.int (zI fi)), some (.int (zI ((2 + (4 * a)) + 0)))], [.int (zI ((2 + (4 * a)) + 0)), .int (zI (119 + (98 * fi))), .ref 144], es)) i_206_11 rfl ?_
      refine x_iadd i_206_12 ?_
      refine x_iald (p := 80) i_206_13 hs_es rfl (by unfold i32 iLO iHI; omega) (by omega) (by omega) ?_
      obtain ⟨v5, e_v5⟩ : ∃ z : Int, z = (gA es 80 ((119 + (98 * fi)) + ((2 + (4 * a)) + 0)).toNat).toInt := ⟨_, rfl⟩
      rw [← e_v5]
      have r_v5 : iLO ≤ v5 ∧ v5 ≤ iHI := by rw [e_v5]; exact i32_rng _
      unfold iLO iHI at r_v5
      refine x_ret (v := some (.int (zI v5))) i_206_14 rfl (fun _ => rfl) rfl rfl rfl ?_
      show aW _ _ _ _ _ _ (12, [some (.ref 143), some (.int (zI fi)), some (.int (zI a)), some (.int (zI 0))], [.int (zI v5)], es)
      refine x_ret (v := some (.int (zI v5))) i_211_12 rfl (fun _ => rfl) rfl rfl rfl ?_
      show aW _ _ _ _ _ _ (239, [some (.ref 143), some (.int (zI fi)), some (.int (zI se)), some (.int (zI cp)), some (.int (zI v)), some (.int (zI bo)), some (.int (zI ow)), some (.int (zI k)), some (.int (zI a)), some (.int (zI b))], [.int (zI v5), .int (zI bo)], es)
      refine x0 (r := (240, [some (.ref 143), some (.int (zI fi)), some (.int (zI se)), some (.int (zI cp)), some (.int (zI v)), some (.int (zI bo)), some (.int (zI ow)), some (.int (zI k)), some (.int (zI a)), some (.int (zI b))], [.ref 143, .int (zI v5), .int (zI bo)], es)) i_269_239 rfl ?_
      refine x0 (r := (241, [some (.ref 143), some (.int (zI fi)), some (.int (zI se)), some (.int (zI cp)), some (.int (zI v)), some (.int (zI bo)), some (.int (zI ow)), some (.int (zI k)), some (.int (zI a)), some (.int (zI b))], [.int (zI se), .ref 143, .int (zI v5), .int (zI bo)], es)) i_269_240 rfl ?_
      refine x0 (r := (243, [some (.ref 143), some (.int (zI fi)), some (.int (zI se)), some (.int (zI cp)), some (.int (zI v)), some (.int (zI bo)), some (.int (zI ow)), some (.int (zI k)), some (.int (zI a)), some (.int (zI b))], [.int (zI b), .int (zI se), .ref 143, .int (zI v5), .int (zI bo)], es)) i_269_241 rfl ?_
      refine x0 (r := (244, [some (.ref 143), some (.int (zI fi)), some (.int (zI se)), some (.int (zI cp)), some (.int (zI v)), some (.int (zI bo)), some (.int (zI ow)), some (.int (zI k)), some (.int (zI a)), some (.int (zI b))], [.int (zI 0), .int (zI b), .int (zI se), .ref 143, .int (zI v5), .int (zI bo)], es)) i_269_243 (by rfl) ?_
      refine x_call (vs := [.ref 143, .int (zI se), .int (zI b), .int (zI 0)]) (rs := [.int (zI v5), .int (zI bo)]) i_269_244 rfl (fun _ => rfl) rfl rfl rfl rfl rfl (pCall_v (p := 79) hs_es rfl rfl rfl rfl rfl (by decide) rfl rfl rfl rfl rfl) ?_
      show aW _ _ _ _ _ _ (0, [some (.ref 143), some (.int (zI se)), some (.int (zI b)), some (.int (zI 0))], [], es)
      refine x0 (r := (1, [some (.ref 143), some (.int (zI se)), some (.int (zI b)), some (.int (zI 0))], [.ref 143], es)) i_211_0 rfl ?_
      refine x0 (r := (2, [some (.ref 143), some (.int (zI se)), some (.int (zI b)), some (.int (zI 0))], [.int (zI se), .ref 143], es)) i_211_1 rfl ?_
      refine x0 (r := (3, [some (.ref 143), some (.int (zI se)), some (.int (zI b)), some (.int (zI 0))], [.int (zI 2), .int (zI se), .ref 143], es)) i_211_2 (by rfl) ?_
      refine x0 (r := (4, [some (.ref 143), some (.int (zI se)), some (.int (zI b)), some (.int (zI 0))], [.int (zI 4), .int (zI 2), .int (zI se), .ref 143], es)) i_211_3 (by rfl) ?_
      refine x0 (r := (5, [some (.ref 143), some (.int (zI se)), some (.int (zI b)), some (.int (zI 0))], [.int (zI b), .int (zI 4), .int (zI 2), .int (zI se), .ref 143], es)) i_211_4 rfl ?_
      refine x_imul i_211_5 ?_
      refine x_iadd i_211_6 ?_
      refine x0 (r := (8, [some (.ref 143), some (.int (zI se)), some (.int (zI b)), some (.int (zI 0))], [.int (zI 0), .int (zI (2 + (4 * b))), .int (zI se), .ref 143], es)) i_211_7 rfl ?_
      refine x_iadd i_211_8 ?_
      refine x_call (vs := [.ref 143, .int (zI se), .int (zI ((2 + (4 * b)) + 0))]) (rs := []) i_211_9 rfl (fun _ => rfl) rfl rfl rfl rfl rfl (pCall_v (p := 79) hs_es rfl rfl rfl rfl rfl (by decide) rfl rfl rfl rfl rfl) ?_
      show aW _ _ _ _ _ _ (0, [some (.ref 143), some (.int (zI se)), some (.int (zI ((2 + (4 * b)) + 0)))], [], es)
      refine x0 (r := (1, [some (.ref 143), some (.int (zI se)), some (.int (zI ((2 + (4 * b)) + 0)))], [.ref 143], es)) i_206_0 rfl ?_
      refine x_getr (p := 79) (k := 144) i_206_1 hs_es rfl rfl ?_
      show aW _ _ _ _ _ _ (4, [some (.ref 143), some (.int (zI se)), some (.int (zI ((2 + (4 * b)) + 0)))], [.ref 144], es)
      refine x0 (r := (6, [some (.ref 143), some (.int (zI se)), some (.int (zI ((2 + (4 * b)) + 0)))], [.int (zI 119), .ref 144], es)) i_206_4 (by rfl) ?_
      refine x0 (r := (8, [some (.ref 143), some (.int (zI se)), some (.int (zI ((2 + (4 * b)) + 0)))], [.int (zI 98), .int (zI 119), .ref 144], es)) i_206_6 (by rfl) ?_
      refine x0 (r := (9, [some (.ref 143), some (.int (zI se)), some (.int (zI ((2 + (4 * b)) + 0)))], [.int (zI se), .int (zI 98), .int (zI 119), .ref 144], es)) i_206_8 rfl ?_
      refine x_imul i_206_9 ?_
      refine x_iadd i_206_10 ?_
      refine x0 (r := (12, [some (.ref 143), some (.int (zI se)), some (.int (zI ((2 + (4 * b)) + 0)))], [.int (zI ((2 + (4 * b)) + 0)), .int (zI (119 + (98 * se))), .ref 144], es)) i_206_11 rfl ?_
      refine x_iadd i_206_12 ?_
      refine x_iald (p := 80) i_206_13 hs_es rfl (by unfold i32 iLO iHI; omega) (by omega) (by omega) ?_
      obtain ⟨v6, e_v6⟩ : ∃ z : Int, z = (gA es 80 ((119 + (98 * se)) + ((2 + (4 * b)) + 0)).toNat).toInt := ⟨_, rfl⟩
      rw [← e_v6]
      have r_v6 : iLO ≤ v6 ∧ v6 ≤ iHI := by rw [e_v6]; exact i32_rng _
      unfold iLO iHI at r_v6
      refine x_ret (v := some (.int (zI v6))) i_206_14 rfl (fun _ => rfl) rfl rfl rfl ?_
      show aW _ _ _ _ _ _ (12, [some (.ref 143), some (.int (zI se)), some (.int (zI b)), some (.int (zI 0))], [.int (zI v6)], es)
      refine x_ret (v := some (.int (zI v6))) i_211_12 rfl (fun _ => rfl) rfl rfl rfl ?_
      show aW _ _ _ _ _ _ (247, [some (.ref 143), some (.int (zI fi)), some (.int (zI se)), some (.int (zI cp)), some (.int (zI v)), some (.int (zI bo)), some (.int (zI ow)), some (.int (zI k)), some (.int (zI a)), some (.int (zI b))], [.int (zI v6), .int (zI v5), .int (zI bo)], es)
      by_cases c7 : v5 ≠ v6
      · refine x_cmpT i_269_247 (by unfold i32 iLO iHI; omega) (by unfold i32 iLO iHI; omega) rfl (by simp only [zC, cR]; omega) ?_
        refine x0 (r := (293, [some (.ref 143), some (.int (zI fi)), some (.int (zI se)), some (.int (zI cp)), some (.int (zI v)), some (.int (zI bo)), some (.int (zI ow)), some (.int (zI k)), some (.int (zI a)), some (.int (zI b))], [.int (zI 0), .int (zI bo)], es)) i_269_292 (by rfl) ?_
        refine x_iadd i_269_293 ?_
        refine x0 (r := (296, [some (.ref 143), some (.int (zI fi)), some (.int (zI se)), some (.int (zI cp)), some (.int (zI v)), some (.int (zI (bo + 0))), some (.int (zI ow)), some (.int (zI k)), some (.int (zI a)), some (.int (zI b))], [], es)) i_269_294 rfl ?_
        exact K3 c1 v2 e_v2 v3 e_v3 c4 v5 e_v5 v6 e_v6 c7
      · refine x_cmpF i_269_247 (by unfold i32 iLO iHI; omega) (by unfold i32 iLO iHI; omega) rfl (by simp only [zC, cR]; omega) ?_
        refine x0 (r := (251, [some (.ref 143), some (.int (zI fi)), some (.int (zI se)), some (.int (zI cp)), some (.int (zI v)), some (.int (zI bo)), some (.int (zI ow)), some (.int (zI k)), some (.int (zI a)), some (.int (zI b))], [.ref 143, .int (zI bo)], es)) i_269_250 rfl ?_
        refine x0 (r := (252, [some (.ref 143), some (.int (zI fi)), some (.int (zI se)), some (.int (zI cp)), some (.int (zI v)), some (.int (zI bo)), some (.int (zI ow)), some (.int (zI k)), some (.int (zI a)), some (.int (zI b))], [.int (zI fi), .ref 143, .int (zI bo)], es)) i_269_251 rfl ?_
        refine x0 (r := (254, [some (.ref 143), some (.int (zI fi)), some (.int (zI se)), some (.int (zI cp)), some (.int (zI v)), some (.int (zI bo)), some (.int (zI ow)), some (.int (zI k)), some (.int (zI a)), some (.int (zI b))], [.int (zI a), .int (zI fi), .ref 143, .int (zI bo)], es)) i_269_252 rfl ?_
        refine x0 (r := (255, [some (.ref 143), some (.int (zI fi)), some (.int (zI se)), some (.int (zI cp)), some (.int (zI v)), some (.int (zI bo)), some (.int (zI ow)), some (.int (zI k)), some (.int (zI a)), some (.int (zI b))], [.int (zI 2), .int (zI a), .int (zI fi), .ref 143, .int (zI bo)], es)) i_269_254 (by rfl) ?_
        refine x_call (vs := [.ref 143, .int (zI fi), .int (zI a), .int (zI 2)]) (rs := [.int (zI bo)]) i_269_255 rfl (fun _ => rfl) rfl rfl rfl rfl rfl (pCall_v (p := 79) hs_es rfl rfl rfl rfl rfl (by decide) rfl rfl rfl rfl rfl) ?_
        show aW _ _ _ _ _ _ (0, [some (.ref 143), some (.int (zI fi)), some (.int (zI a)), some (.int (zI 2))], [], es)
        refine x0 (r := (1, [some (.ref 143), some (.int (zI fi)), some (.int (zI a)), some (.int (zI 2))], [.ref 143], es)) i_211_0 rfl ?_
        refine x0 (r := (2, [some (.ref 143), some (.int (zI fi)), some (.int (zI a)), some (.int (zI 2))], [.int (zI fi), .ref 143], es)) i_211_1 rfl ?_
        refine x0 (r := (3, [some (.ref 143), some (.int (zI fi)), some (.int (zI a)), some (.int (zI 2))], [.int (zI 2), .int (zI fi), .ref 143], es)) i_211_2 (by rfl) ?_
        refine x0 (r := (4, [some (.ref 143), some (.int (zI fi)), some (.int (zI a)), some (.int (zI 2))], [.int (zI 4), .int (zI 2), .int (zI fi), .ref 143], es)) i_211_3 (by rfl) ?_
        refine x0 (r := (5, [some (.ref 143), some (.int (zI fi)), some (.int (zI a)), some (.int (zI 2))], [.int (zI a), .int (zI 4), .int (zI 2), .int (zI fi), .ref 143], es)) i_211_4 rfl ?_
        refine x_imul i_211_5 ?_
        refine x_iadd i_211_6 ?_
        refine x0 (r := (8, [some (.ref 143), some (.int (zI fi)), some (.int (zI a)), some (.int (zI 2))], [.int (zI 2), .int (zI (2 + (4 * a))), .int (zI fi), .ref 143], es)) i_211_7 rfl ?_
        refine x_iadd i_211_8 ?_
        refine x_call (vs := [.ref 143, .int (zI fi), .int (zI ((2 + (4 * a)) + 2))]) (rs := []) i_211_9 rfl (fun _ => rfl) rfl rfl rfl rfl rfl (pCall_v (p := 79) hs_es rfl rfl rfl rfl rfl (by decide) rfl rfl rfl rfl rfl) ?_
        show aW _ _ _ _ _ _ (0, [some (.ref 143), some (.int (zI fi)), some (.int (zI ((2 + (4 * a)) + 2)))], [], es)
        refine x0 (r := (1, [some (.ref 143), some (.int (zI fi)), some (.int (zI ((2 + (4 * a)) + 2)))], [.ref 143], es)) i_206_0 rfl ?_
        refine x_getr (p := 79) (k := 144) i_206_1 hs_es rfl rfl ?_
        show aW _ _ _ _ _ _ (4, [some (.ref 143), some (.int (zI fi)), some (.int (zI ((2 + (4 * a)) + 2)))], [.ref 144], es)
        refine x0 (r := (6, [some (.ref 143), some (.int (zI fi)), some (.int (zI ((2 + (4 * a)) + 2)))], [.int (zI 119), .ref 144], es)) i_206_4 (by rfl) ?_
        refine x0 (r := (8, [some (.ref 143), some (.int (zI fi)), some (.int (zI ((2 + (4 * a)) + 2)))], [.int (zI 98), .int (zI 119), .ref 144], es)) i_206_6 (by rfl) ?_
        refine x0 (r := (9, [some (.ref 143), some (.int (zI fi)), some (.int (zI ((2 + (4 * a)) + 2)))], [.int (zI fi), .int (zI 98), .int (zI 119), .ref 144], es)) i_206_8 rfl ?_
        refine x_imul i_206_9 ?_
        refine x_iadd i_206_10 ?_
        refine x0 (r := (12, [some (.ref 143), some (.int (zI fi)), some (.int (zI ((2 + (4 * a)) + 2)))], [.int (zI ((2 + (4 * a)) + 2)), .int (zI (119 + (98 * fi))), .ref 144], es)) i_206_11 rfl ?_
        refine x_iadd i_206_12 ?_
        refine x_iald (p := 80) i_206_13 hs_es rfl (by unfold i32 iLO iHI; omega) (by omega) (by omega) ?_
        obtain ⟨v8, e_v8⟩ : ∃ z : Int, z = (gA es 80 ((119 + (98 * fi)) + ((2 + (4 * a)) + 2)).toNat).toInt := ⟨_, rfl⟩
        rw [← e_v8]
        have r_v8 : iLO ≤ v8 ∧ v8 ≤ iHI := by rw [e_v8]; exact i32_rng _
        unfold iLO iHI at r_v8
        refine x_ret (v := some (.int (zI v8))) i_206_14 rfl (fun _ => rfl) rfl rfl rfl ?_
        show aW _ _ _ _ _ _ (12, [some (.ref 143), some (.int (zI fi)), some (.int (zI a)), some (.int (zI 2))], [.int (zI v8)], es)
        refine x_ret (v := some (.int (zI v8))) i_211_12 rfl (fun _ => rfl) rfl rfl rfl ?_
        show aW _ _ _ _ _ _ (258, [some (.ref 143), some (.int (zI fi)), some (.int (zI se)), some (.int (zI cp)), some (.int (zI v)), some (.int (zI bo)), some (.int (zI ow)), some (.int (zI k)), some (.int (zI a)), some (.int (zI b))], [.int (zI v8), .int (zI bo)], es)
        refine x0 (r := (259, [some (.ref 143), some (.int (zI fi)), some (.int (zI se)), some (.int (zI cp)), some (.int (zI v)), some (.int (zI bo)), some (.int (zI ow)), some (.int (zI k)), some (.int (zI a)), some (.int (zI b))], [.ref 143, .int (zI v8), .int (zI bo)], es)) i_269_258 rfl ?_
        refine x0 (r := (260, [some (.ref 143), some (.int (zI fi)), some (.int (zI se)), some (.int (zI cp)), some (.int (zI v)), some (.int (zI bo)), some (.int (zI ow)), some (.int (zI k)), some (.int (zI a)), some (.int (zI b))], [.int (zI se), .ref 143, .int (zI v8), .int (zI bo)], es)) i_269_259 rfl ?_
        refine x0 (r := (262, [some (.ref 143), some (.int (zI fi)), some (.int (zI se)), some (.int (zI cp)), some (.int (zI v)), some (.int (zI bo)), some (.int (zI ow)), some (.int (zI k)), some (.int (zI a)), some (.int (zI b))], [.int (zI b), .int (zI se), .ref 143, .int (zI v8), .int (zI bo)], es)) i_269_260 rfl ?_
        refine x0 (r := (263, [some (.ref 143), some (.int (zI fi)), some (.int (zI se)), some (.int (zI cp)), some (.int (zI v)), some (.int (zI bo)), some (.int (zI ow)), some (.int (zI k)), some (.int (zI a)), some (.int (zI b))], [.int (zI 2), .int (zI b), .int (zI se), .ref 143, .int (zI v8), .int (zI bo)], es)) i_269_262 (by rfl) ?_
        refine x_call (vs := [.ref 143, .int (zI se), .int (zI b), .int (zI 2)]) (rs := [.int (zI v8), .int (zI bo)]) i_269_263 rfl (fun _ => rfl) rfl rfl rfl rfl rfl (pCall_v (p := 79) hs_es rfl rfl rfl rfl rfl (by decide) rfl rfl rfl rfl rfl) ?_
        show aW _ _ _ _ _ _ (0, [some (.ref 143), some (.int (zI se)), some (.int (zI b)), some (.int (zI 2))], [], es)
        refine x0 (r := (1, [some (.ref 143), some (.int (zI se)), some (.int (zI b)), some (.int (zI 2))], [.ref 143], es)) i_211_0 rfl ?_
        refine x0 (r := (2, [some (.ref 143), some (.int (zI se)), some (.int (zI b)), some (.int (zI 2))], [.int (zI se), .ref 143], es)) i_211_1 rfl ?_
        refine x0 (r := (3, [some (.ref 143), some (.int (zI se)), some (.int (zI b)), some (.int (zI 2))], [.int (zI 2), .int (zI se), .ref 143], es)) i_211_2 (by rfl) ?_
        refine x0 (r := (4, [some (.ref 143), some (.int (zI se)), some (.int (zI b)), some (.int (zI 2))], [.int (zI 4), .int (zI 2), .int (zI se), .ref 143], es)) i_211_3 (by rfl) ?_
        refine x0 (r := (5, [some (.ref 143), some (.int (zI se)), some (.int (zI b)), some (.int (zI 2))], [.int (zI b), .int (zI 4), .int (zI 2), .int (zI se), .ref 143], es)) i_211_4 rfl ?_
        refine x_imul i_211_5 ?_
        refine x_iadd i_211_6 ?_
        refine x0 (r := (8, [some (.ref 143), some (.int (zI se)), some (.int (zI b)), some (.int (zI 2))], [.int (zI 2), .int (zI (2 + (4 * b))), .int (zI se), .ref 143], es)) i_211_7 rfl ?_
        refine x_iadd i_211_8 ?_
        refine x_call (vs := [.ref 143, .int (zI se), .int (zI ((2 + (4 * b)) + 2))]) (rs := []) i_211_9 rfl (fun _ => rfl) rfl rfl rfl rfl rfl (pCall_v (p := 79) hs_es rfl rfl rfl rfl rfl (by decide) rfl rfl rfl rfl rfl) ?_
        show aW _ _ _ _ _ _ (0, [some (.ref 143), some (.int (zI se)), some (.int (zI ((2 + (4 * b)) + 2)))], [], es)
        refine x0 (r := (1, [some (.ref 143), some (.int (zI se)), some (.int (zI ((2 + (4 * b)) + 2)))], [.ref 143], es)) i_206_0 rfl ?_
        refine x_getr (p := 79) (k := 144) i_206_1 hs_es rfl rfl ?_
        show aW _ _ _ _ _ _ (4, [some (.ref 143), some (.int (zI se)), some (.int (zI ((2 + (4 * b)) + 2)))], [.ref 144], es)
        refine x0 (r := (6, [some (.ref 143), some (.int (zI se)), some (.int (zI ((2 + (4 * b)) + 2)))], [.int (zI 119), .ref 144], es)) i_206_4 (by rfl) ?_
        refine x0 (r := (8, [some (.ref 143), some (.int (zI se)), some (.int (zI ((2 + (4 * b)) + 2)))], [.int (zI 98), .int (zI 119), .ref 144], es)) i_206_6 (by rfl) ?_
        refine x0 (r := (9, [some (.ref 143), some (.int (zI se)), some (.int (zI ((2 + (4 * b)) + 2)))], [.int (zI se), .int (zI 98), .int (zI 119), .ref 144], es)) i_206_8 rfl ?_
        refine x_imul i_206_9 ?_
        refine x_iadd i_206_10 ?_
        refine x0 (r := (12, [some (.ref 143), some (.int (zI se)), some (.int (zI ((2 + (4 * b)) + 2)))], [.int (zI ((2 + (4 * b)) + 2)), .int (zI (119 + (98 * se))), .ref 144], es)) i_206_11 rfl ?_
        refine x_iadd i_206_12 ?_
        refine x_iald (p := 80) i_206_13 hs_es rfl (by unfold i32 iLO iHI; omega) (by omega) (by omega) ?_
        obtain ⟨v9, e_v9⟩ : ∃ z : Int, z = (gA es 80 ((119 + (98 * se)) + ((2 + (4 * b)) + 2)).toNat).toInt := ⟨_, rfl⟩
        rw [← e_v9]
        have r_v9 : iLO ≤ v9 ∧ v9 ≤ iHI := by rw [e_v9]; exact i32_rng _
        unfold iLO iHI at r_v9
        refine x_ret (v := some (.int (zI v9))) i_206_14 rfl (fun _ => rfl) rfl rfl rfl ?_
        show aW _ _ _ _ _ _ (12, [some (.ref 143), some (.int (zI se)), some (.int (zI b)), some (.int (zI 2))], [.int (zI v9)], es)
        refine x_ret (v := some (.int (zI v9))) i_211_12 rfl (fun _ => rfl) rfl rfl rfl ?_
        show aW _ _ _ _ _ _ (266, [some (.ref 143), some (.int (zI fi)), some (.int (zI se)), some (.int (zI cp)), some (.int (zI v)), some (.int (zI bo)), some (.int (zI ow)), some (.int (zI k)), some (.int (zI a)), some (.int (zI b))], [.int (zI v9), .int (zI v8), .int (zI bo)], es)
        by_cases c10 : v8 ≠ v9
        · refine x_cmpT i_269_266 (by unfold i32 iLO iHI; omega) (by unfold i32 iLO iHI; omega) rfl (by simp only [zC, cR]; omega) ?_
          refine x0 (r := (293, [some (.ref 143), some (.int (zI fi)), some (.int (zI se)), some (.int (zI cp)), some (.int (zI v)), some (.int (zI bo)), some (.int (zI ow)), some (.int (zI k)), some (.int (zI a)), some (.int (zI b))], [.int (zI 0), .int (zI bo)], es)) i_269_292 (by rfl) ?_
          refine x_iadd i_269_293 ?_
          refine x0 (r := (296, [some (.ref 143), some (.int (zI fi)), some (.int (zI se)), some (.int (zI cp)), some (.int (zI v)), some (.int (zI (bo + 0))), some (.int (zI ow)), some (.int (zI k)), some (.int (zI a)), some (.int (zI b))], [], es)) i_269_294 rfl ?_
          exact K4 c1 v2 e_v2 v3 e_v3 c4 v5 e_v5 v6 e_v6 c7 v8 e_v8 v9 e_v9 c10
        · refine x_cmpF i_269_266 (by unfold i32 iLO iHI; omega) (by unfold i32 iLO iHI; omega) rfl (by simp only [zC, cR]; omega) ?_
          refine x0 (r := (270, [some (.ref 143), some (.int (zI fi)), some (.int (zI se)), some (.int (zI cp)), some (.int (zI v)), some (.int (zI bo)), some (.int (zI ow)), some (.int (zI k)), some (.int (zI a)), some (.int (zI b))], [.ref 143, .int (zI bo)], es)) i_269_269 rfl ?_
          refine x0 (r := (271, [some (.ref 143), some (.int (zI fi)), some (.int (zI se)), some (.int (zI cp)), some (.int (zI v)), some (.int (zI bo)), some (.int (zI ow)), some (.int (zI k)), some (.int (zI a)), some (.int (zI b))], [.int (zI fi), .ref 143, .int (zI bo)], es)) i_269_270 rfl ?_
          refine x0 (r := (273, [some (.ref 143), some (.int (zI fi)), some (.int (zI se)), some (.int (zI cp)), some (.int (zI v)), some (.int (zI bo)), some (.int (zI ow)), some (.int (zI k)), some (.int (zI a)), some (.int (zI b))], [.int (zI a), .int (zI fi), .ref 143, .int (zI bo)], es)) i_269_271 rfl ?_
          refine x0 (r := (274, [some (.ref 143), some (.int (zI fi)), some (.int (zI se)), some (.int (zI cp)), some (.int (zI v)), some (.int (zI bo)), some (.int (zI ow)), some (.int (zI k)), some (.int (zI a)), some (.int (zI b))], [.int (zI 3), .int (zI a), .int (zI fi), .ref 143, .int (zI bo)], es)) i_269_273 (by rfl) ?_
          refine x_call (vs := [.ref 143, .int (zI fi), .int (zI a), .int (zI 3)]) (rs := [.int (zI bo)]) i_269_274 rfl (fun _ => rfl) rfl rfl rfl rfl rfl (pCall_v (p := 79) hs_es rfl rfl rfl rfl rfl (by decide) rfl rfl rfl rfl rfl) ?_
          show aW _ _ _ _ _ _ (0, [some (.ref 143), some (.int (zI fi)), some (.int (zI a)), some (.int (zI 3))], [], es)
          refine x0 (r := (1, [some (.ref 143), some (.int (zI fi)), some (.int (zI a)), some (.int (zI 3))], [.ref 143], es)) i_211_0 rfl ?_
          refine x0 (r := (2, [some (.ref 143), some (.int (zI fi)), some (.int (zI a)), some (.int (zI 3))], [.int (zI fi), .ref 143], es)) i_211_1 rfl ?_
          refine x0 (r := (3, [some (.ref 143), some (.int (zI fi)), some (.int (zI a)), some (.int (zI 3))], [.int (zI 2), .int (zI fi), .ref 143], es)) i_211_2 (by rfl) ?_
          refine x0 (r := (4, [some (.ref 143), some (.int (zI fi)), some (.int (zI a)), some (.int (zI 3))], [.int (zI 4), .int (zI 2), .int (zI fi), .ref 143], es)) i_211_3 (by rfl) ?_
          refine x0 (r := (5, [some (.ref 143), some (.int (zI fi)), some (.int (zI a)), some (.int (zI 3))], [.int (zI a), .int (zI 4), .int (zI 2), .int (zI fi), .ref 143], es)) i_211_4 rfl ?_
          refine x_imul i_211_5 ?_
          refine x_iadd i_211_6 ?_
          refine x0 (r := (8, [some (.ref 143), some (.int (zI fi)), some (.int (zI a)), some (.int (zI 3))], [.int (zI 3), .int (zI (2 + (4 * a))), .int (zI fi), .ref 143], es)) i_211_7 rfl ?_
          refine x_iadd i_211_8 ?_
          refine x_call (vs := [.ref 143, .int (zI fi), .int (zI ((2 + (4 * a)) + 3))]) (rs := []) i_211_9 rfl (fun _ => rfl) rfl rfl rfl rfl rfl (pCall_v (p := 79) hs_es rfl rfl rfl rfl rfl (by decide) rfl rfl rfl rfl rfl) ?_
          show aW _ _ _ _ _ _ (0, [some (.ref 143), some (.int (zI fi)), some (.int (zI ((2 + (4 * a)) + 3)))], [], es)
          refine x0 (r := (1, [some (.ref 143), some (.int (zI fi)), some (.int (zI ((2 + (4 * a)) + 3)))], [.ref 143], es)) i_206_0 rfl ?_
          refine x_getr (p := 79) (k := 144) i_206_1 hs_es rfl rfl ?_
          show aW _ _ _ _ _ _ (4, [some (.ref 143), some (.int (zI fi)), some (.int (zI ((2 + (4 * a)) + 3)))], [.ref 144], es)
          refine x0 (r := (6, [some (.ref 143), some (.int (zI fi)), some (.int (zI ((2 + (4 * a)) + 3)))], [.int (zI 119), .ref 144], es)) i_206_4 (by rfl) ?_
          refine x0 (r := (8, [some (.ref 143), some (.int (zI fi)), some (.int (zI ((2 + (4 * a)) + 3)))], [.int (zI 98), .int (zI 119), .ref 144], es)) i_206_6 (by rfl) ?_
          refine x0 (r := (9, [some (.ref 143), some (.int (zI fi)), some (.int (zI ((2 + (4 * a)) + 3)))], [.int (zI fi), .int (zI 98), .int (zI 119), .ref 144], es)) i_206_8 rfl ?_
          refine x_imul i_206_9 ?_
          refine x_iadd i_206_10 ?_
          refine x0 (r := (12, [some (.ref 143), some (.int (zI fi)), some (.int (zI ((2 + (4 * a)) + 3)))], [.int (zI ((2 + (4 * a)) + 3)), .int (zI (119 + (98 * fi))), .ref 144], es)) i_206_11 rfl ?_
          refine x_iadd i_206_12 ?_
          refine x_iald (p := 80) i_206_13 hs_es rfl (by unfold i32 iLO iHI; omega) (by omega) (by omega) ?_
          obtain ⟨v11, e_v11⟩ : ∃ z : Int, z = (gA es 80 ((119 + (98 * fi)) + ((2 + (4 * a)) + 3)).toNat).toInt := ⟨_, rfl⟩
          rw [← e_v11]
          have r_v11 : iLO ≤ v11 ∧ v11 ≤ iHI := by rw [e_v11]; exact i32_rng _
          unfold iLO iHI at r_v11
          refine x_ret (v := some (.int (zI v11))) i_206_14 rfl (fun _ => rfl) rfl rfl rfl ?_
          show aW _ _ _ _ _ _ (12, [some (.ref 143), some (.int (zI fi)), some (.int (zI a)), some (.int (zI 3))], [.int (zI v11)], es)
          refine x_ret (v := some (.int (zI v11))) i_211_12 rfl (fun _ => rfl) rfl rfl rfl ?_
          show aW _ _ _ _ _ _ (277, [some (.ref 143), some (.int (zI fi)), some (.int (zI se)), some (.int (zI cp)), some (.int (zI v)), some (.int (zI bo)), some (.int (zI ow)), some (.int (zI k)), some (.int (zI a)), some (.int (zI b))], [.int (zI v11), .int (zI bo)], es)
          refine x0 (r := (278, [some (.ref 143), some (.int (zI fi)), some (.int (zI se)), some (.int (zI cp)), some (.int (zI v)), some (.int (zI bo)), some (.int (zI ow)), some (.int (zI k)), some (.int (zI a)), some (.int (zI b))], [.ref 143, .int (zI v11), .int (zI bo)], es)) i_269_277 rfl ?_
          refine x0 (r := (279, [some (.ref 143), some (.int (zI fi)), some (.int (zI se)), some (.int (zI cp)), some (.int (zI v)), some (.int (zI bo)), some (.int (zI ow)), some (.int (zI k)), some (.int (zI a)), some (.int (zI b))], [.int (zI se), .ref 143, .int (zI v11), .int (zI bo)], es)) i_269_278 rfl ?_
          refine x0 (r := (281, [some (.ref 143), some (.int (zI fi)), some (.int (zI se)), some (.int (zI cp)), some (.int (zI v)), some (.int (zI bo)), some (.int (zI ow)), some (.int (zI k)), some (.int (zI a)), some (.int (zI b))], [.int (zI b), .int (zI se), .ref 143, .int (zI v11), .int (zI bo)], es)) i_269_279 rfl ?_
          refine x0 (r := (282, [some (.ref 143), some (.int (zI fi)), some (.int (zI se)), some (.int (zI cp)), some (.int (zI v)), some (.int (zI bo)), some (.int (zI ow)), some (.int (zI k)), some (.int (zI a)), some (.int (zI b))], [.int (zI 3), .int (zI b), .int (zI se), .ref 143, .int (zI v11), .int (zI bo)], es)) i_269_281 (by rfl) ?_
          refine x_call (vs := [.ref 143, .int (zI se), .int (zI b), .int (zI 3)]) (rs := [.int (zI v11), .int (zI bo)]) i_269_282 rfl (fun _ => rfl) rfl rfl rfl rfl rfl (pCall_v (p := 79) hs_es rfl rfl rfl rfl rfl (by decide) rfl rfl rfl rfl rfl) ?_
          show aW _ _ _ _ _ _ (0, [some (.ref 143), some (.int (zI se)), some (.int (zI b)), some (.int (zI 3))], [], es)
          refine x0 (r := (1, [some (.ref 143), some (.int (zI se)), some (.int (zI b)), some (.int (zI 3))], [.ref 143], es)) i_211_0 rfl ?_
          refine x0 (r := (2, [some (.ref 143), some (.int (zI se)), some (.int (zI b)), some (.int (zI 3))], [.int (zI se), .ref 143], es)) i_211_1 rfl ?_
          refine x0 (r := (3, [some (.ref 143), some (.int (zI se)), some (.int (zI b)), some (.int (zI 3))], [.int (zI 2), .int (zI se), .ref 143], es)) i_211_2 (by rfl) ?_
          refine x0 (r := (4, [some (.ref 143), some (.int (zI se)), some (.int (zI b)), some (.int (zI 3))], [.int (zI 4), .int (zI 2), .int (zI se), .ref 143], es)) i_211_3 (by rfl) ?_
          refine x0 (r := (5, [some (.ref 143), some (.int (zI se)), some (.int (zI b)), some (.int (zI 3))], [.int (zI b), .int (zI 4), .int (zI 2), .int (zI se), .ref 143], es)) i_211_4 rfl ?_
          refine x_imul i_211_5 ?_
          refine x_iadd i_211_6 ?_
          refine x0 (r := (8, [some (.ref 143), some (.int (zI se)), some (.int (zI b)), some (.int (zI 3))], [.int (zI 3), .int (zI (2 + (4 * b))), .int (zI se), .ref 143], es)) i_211_7 rfl ?_
          refine x_iadd i_211_8 ?_
          refine x_call (vs := [.ref 143, .int (zI se), .int (zI ((2 + (4 * b)) + 3))]) (rs := []) i_211_9 rfl (fun _ => rfl) rfl rfl rfl rfl rfl (pCall_v (p := 79) hs_es rfl rfl rfl rfl rfl (by decide) rfl rfl rfl rfl rfl) ?_
          show aW _ _ _ _ _ _ (0, [some (.ref 143), some (.int (zI se)), some (.int (zI ((2 + (4 * b)) + 3)))], [], es)
          refine x0 (r := (1, [some (.ref 143), some (.int (zI se)), some (.int (zI ((2 + (4 * b)) + 3)))], [.ref 143], es)) i_206_0 rfl ?_
          refine x_getr (p := 79) (k := 144) i_206_1 hs_es rfl rfl ?_
          show aW _ _ _ _ _ _ (4, [some (.ref 143), some (.int (zI se)), some (.int (zI ((2 + (4 * b)) + 3)))], [.ref 144], es)
          refine x0 (r := (6, [some (.ref 143), some (.int (zI se)), some (.int (zI ((2 + (4 * b)) + 3)))], [.int (zI 119), .ref 144], es)) i_206_4 (by rfl) ?_
          refine x0 (r := (8, [some (.ref 143), some (.int (zI se)), some (.int (zI ((2 + (4 * b)) + 3)))], [.int (zI 98), .int (zI 119), .ref 144], es)) i_206_6 (by rfl) ?_
          refine x0 (r := (9, [some (.ref 143), some (.int (zI se)), some (.int (zI ((2 + (4 * b)) + 3)))], [.int (zI se), .int (zI 98), .int (zI 119), .ref 144], es)) i_206_8 rfl ?_
          refine x_imul i_206_9 ?_
          refine x_iadd i_206_10 ?_
          refine x0 (r := (12, [some (.ref 143), some (.int (zI se)), some (.int (zI ((2 + (4 * b)) + 3)))], [.int (zI ((2 + (4 * b)) + 3)), .int (zI (119 + (98 * se))), .ref 144], es)) i_206_11 rfl ?_
          refine x_iadd i_206_12 ?_
          refine x_iald (p := 80) i_206_13 hs_es rfl (by unfold i32 iLO iHI; omega) (by omega) (by omega) ?_
          obtain ⟨v12, e_v12⟩ : ∃ z : Int, z = (gA es 80 ((119 + (98 * se)) + ((2 + (4 * b)) + 3)).toNat).toInt := ⟨_, rfl⟩
          rw [← e_v12]
          have r_v12 : iLO ≤ v12 ∧ v12 ≤ iHI := by rw [e_v12]; exact i32_rng _
          unfold iLO iHI at r_v12
          refine x_ret (v := some (.int (zI v12))) i_206_14 rfl (fun _ => rfl) rfl rfl rfl ?_
          show aW _ _ _ _ _ _ (12, [some (.ref 143), some (.int (zI se)), some (.int (zI b)), some (.int (zI 3))], [.int (zI v12)], es)
          refine x_ret (v := some (.int (zI v12))) i_211_12 rfl (fun _ => rfl) rfl rfl rfl ?_
          show aW _ _ _ _ _ _ (285, [some (.ref 143), some (.int (zI fi)), some (.int (zI se)), some (.int (zI cp)), some (.int (zI v)), some (.int (zI bo)), some (.int (zI ow)), some (.int (zI k)), some (.int (zI a)), some (.int (zI b))], [.int (zI v12), .int (zI v11), .int (zI bo)], es)
          by_cases c13 : v11 ≠ v12
          · refine x_cmpT i_269_285 (by unfold i32 iLO iHI; omega) (by unfold i32 iLO iHI; omega) rfl (by simp only [zC, cR]; omega) ?_
            refine x0 (r := (293, [some (.ref 143), some (.int (zI fi)), some (.int (zI se)), some (.int (zI cp)), some (.int (zI v)), some (.int (zI bo)), some (.int (zI ow)), some (.int (zI k)), some (.int (zI a)), some (.int (zI b))], [.int (zI 0), .int (zI bo)], es)) i_269_292 (by rfl) ?_
            refine x_iadd i_269_293 ?_
            refine x0 (r := (296, [some (.ref 143), some (.int (zI fi)), some (.int (zI se)), some (.int (zI cp)), some (.int (zI v)), some (.int (zI (bo + 0))), some (.int (zI ow)), some (.int (zI k)), some (.int (zI a)), some (.int (zI b))], [], es)) i_269_294 rfl ?_
            exact K5 c1 v2 e_v2 v3 e_v3 c4 v5 e_v5 v6 e_v6 c7 v8 e_v8 v9 e_v9 c10 v11 e_v11 v12 e_v12 c13
          · refine x_cmpF i_269_285 (by unfold i32 iLO iHI; omega) (by unfold i32 iLO iHI; omega) rfl (by simp only [zC, cR]; omega) ?_
            refine x0 (r := (289, [some (.ref 143), some (.int (zI fi)), some (.int (zI se)), some (.int (zI cp)), some (.int (zI v)), some (.int (zI bo)), some (.int (zI ow)), some (.int (zI k)), some (.int (zI a)), some (.int (zI b))], [.int (zI 1), .int (zI bo)], es)) i_269_288 (by rfl) ?_
            refine x0 (r := (293, [some (.ref 143), some (.int (zI fi)), some (.int (zI se)), some (.int (zI cp)), some (.int (zI v)), some (.int (zI bo)), some (.int (zI ow)), some (.int (zI k)), some (.int (zI a)), some (.int (zI b))], [.int (zI 1), .int (zI bo)], es)) i_269_289 rfl ?_
            refine x_iadd i_269_293 ?_
            refine x0 (r := (296, [some (.ref 143), some (.int (zI fi)), some (.int (zI se)), some (.int (zI cp)), some (.int (zI v)), some (.int (zI (bo + 1))), some (.int (zI ow)), some (.int (zI k)), some (.int (zI a)), some (.int (zI b))], [], es)) i_269_294 rfl ?_
            exact K6 c1 v2 e_v2 v3 e_v3 c4 v5 e_v5 v6 e_v6 c7 v8 e_v8 v9 e_v9 c10 v11 e_v11 v12 e_v12 c13

theorem s_sh296 {O : pOut} {d kc ks : Nat} {Q : pRes → Prop} {es : PH} {fi se cp v bo ow k : Int} {x8 x9 : Option Value} (hs_es : sh es) (hb : 0 ≤ bo ∧ bo ≤ 40) (ho : 0 ≤ ow ∧ ow ≤ 40) (hk : 0 ≤ k ∧ k ≤ 30) (hT_es : hOK tT es)
    (K1 : aW O d 269 kc ks Q (134, [some (.ref 143), some (.int (zI fi)), some (.int (zI se)), some (.int (zI cp)), some (.int (zI v)), some (.int (zI bo)), some (.int (zI ow)), some (.int (zI (k + 1))), x8, x9], [], es)) :
    aW O d 269 kc ks Q (296, [some (.ref 143), some (.int (zI fi)), some (.int (zI se)), some (.int (zI cp)), some (.int (zI v)), some (.int (zI bo)), some (.int (zI ow)), some (.int (zI k)), x8, x9], [], es) := by
  refine x_iinc (x := k) i_269_296 rfl (by show 7 < 10; decide) ?_
  show aW _ _ _ _ _ _ (299, [some (.ref 143), some (.int (zI fi)), some (.int (zI se)), some (.int (zI cp)), some (.int (zI v)), some (.int (zI bo)), some (.int (zI ow)), some (.int (zI (k + 1))), x8, x9], [], es)
  refine x0 (r := (134, [some (.ref 143), some (.int (zI fi)), some (.int (zI se)), some (.int (zI cp)), some (.int (zI v)), some (.int (zI bo)), some (.int (zI ow)), some (.int (zI (k + 1))), x8, x9], [], es)) i_269_299 rfl ?_
  exact K1

theorem s_sh302 {O : pOut} {d kc ks : Nat} {Q : pRes → Prop} {es : PH} {fi se cp v bo ow k : Int} {x8 x9 : Option Value} (hs_es : sh es) (hb : 0 ≤ bo ∧ bo ≤ 40) (ho : 0 ≤ ow ∧ ow ≤ 40) (hk : 0 ≤ k ∧ k ≤ 30) (h0 : -2147483648 ≤ cp ∧ cp ≤ 2147483647) (hT_es : hOK tT es)
    (K1 : cp ≠ 0 → bo ≤ ow → Q (.inl (some (.int (zI 0))), es, kc, ks))
    (K2 : cp ≠ 0 → ¬ (bo ≤ ow) → Q (.inl (some (.int (zI 1))), es, kc, ks))
    (K3 : ¬ (cp ≠ 0) → Q (.inl (some (.int (zI bo))), es, kc, ks)) :
    aW O d 269 kc ks Q (302, [some (.ref 143), some (.int (zI fi)), some (.int (zI se)), some (.int (zI cp)), some (.int (zI v)), some (.int (zI bo)), some (.int (zI ow)), some (.int (zI k)), x8, x9], [], es) := by
  refine x0 (r := (303, [some (.ref 143), some (.int (zI fi)), some (.int (zI se)), some (.int (zI cp)), some (.int (zI v)), some (.int (zI bo)), some (.int (zI ow)), some (.int (zI k)), x8, x9], [.int (zI cp)], es)) i_269_302 rfl ?_
  by_cases c1 : cp ≠ 0
  · refine x_ifT i_269_303 (by unfold i32 iLO iHI; omega) rfl (by simp only [zC, cR]; omega) ?_
    refine x0 (r := (313, [some (.ref 143), some (.int (zI fi)), some (.int (zI se)), some (.int (zI cp)), some (.int (zI v)), some (.int (zI bo)), some (.int (zI ow)), some (.int (zI k)), x8, x9], [.int (zI bo)], es)) i_269_311 rfl ?_
    refine x0 (r := (315, [some (.ref 143), some (.int (zI fi)), some (.int (zI se)), some (.int (zI cp)), some (.int (zI v)), some (.int (zI bo)), some (.int (zI ow)), some (.int (zI k)), x8, x9], [.int (zI ow), .int (zI bo)], es)) i_269_313 rfl ?_
    by_cases c2 : bo ≤ ow
    · refine x_cmpT i_269_315 (by unfold i32 iLO iHI; omega) (by unfold i32 iLO iHI; omega) rfl (by simp only [zC, cR]; omega) ?_
      refine x0 (r := (323, [some (.ref 143), some (.int (zI fi)), some (.int (zI se)), some (.int (zI cp)), some (.int (zI v)), some (.int (zI bo)), some (.int (zI ow)), some (.int (zI k)), x8, x9], [.int (zI 0)], es)) i_269_322 (by rfl) ?_
      refine x_ret (v := some (.int (zI 0))) i_269_323 rfl (fun _ => rfl) rfl rfl rfl ?_
      exact K1 c1 c2
    · refine x_cmpF i_269_315 (by unfold i32 iLO iHI; omega) (by unfold i32 iLO iHI; omega) rfl (by simp only [zC, cR]; omega) ?_
      refine x0 (r := (319, [some (.ref 143), some (.int (zI fi)), some (.int (zI se)), some (.int (zI cp)), some (.int (zI v)), some (.int (zI bo)), some (.int (zI ow)), some (.int (zI k)), x8, x9], [.int (zI 1)], es)) i_269_318 (by rfl) ?_
      refine x0 (r := (323, [some (.ref 143), some (.int (zI fi)), some (.int (zI se)), some (.int (zI cp)), some (.int (zI v)), some (.int (zI bo)), some (.int (zI ow)), some (.int (zI k)), x8, x9], [.int (zI 1)], es)) i_269_319 rfl ?_
      refine x_ret (v := some (.int (zI 1))) i_269_323 rfl (fun _ => rfl) rfl rfl rfl ?_
      exact K2 c1 c2
  · refine x_ifF i_269_303 (by unfold i32 iLO iHI; omega) rfl (by simp only [zC, cR]; omega) ?_
    refine x0 (r := (308, [some (.ref 143), some (.int (zI fi)), some (.int (zI se)), some (.int (zI cp)), some (.int (zI v)), some (.int (zI bo)), some (.int (zI ow)), some (.int (zI k)), x8, x9], [.int (zI bo)], es)) i_269_306 rfl ?_
    refine x0 (r := (323, [some (.ref 143), some (.int (zI fi)), some (.int (zI se)), some (.int (zI cp)), some (.int (zI v)), some (.int (zI bo)), some (.int (zI ow)), some (.int (zI k)), x8, x9], [.int (zI bo)], es)) i_269_308 rfl ?_
    refine x_ret (v := some (.int (zI bo))) i_269_323 rfl (fun _ => rfl) rfl rfl rfl ?_
    exact K3 c1
/-! slip, slips, shared -/
def frAw : List aMod := (79, 20, 0, 1) :: (89, 0, 0, 3) :: (90, 0, 0, 8) :: frAs
def awG (es es' : PH) (v : Int) : Prop := FST (evE es') v es' ∧ noBelow (evE es') v ∧ (∀ b, b < cW (gA es 80) → akB es' b) ∧ (gI es' 79 29).toInt = 0 ∧ (0 ≤ (gI es' 79 27).toInt ∧ (gI es' 79 27).toInt ≤ 8000)
theorem aw_use {es es' : PH} {v : Int} (hT : hOK tT es) (h : awP es es' v) : hOK tT es' ∧ fr frAw es es' ∧ (-2 ≤ v ∧ v ≤ 20) ∧ (0 ≤ v → awG es es' v) ∧ gA es' 80 = gA es 80 := by
  obtain ⟨es1, ⟨a1, a2, a3, a4⟩, b1, b2, b3, b4, b5, b6⟩ := h
  have hf : fr frAw es es' := fr_trans (fr_sub (by decide) a3) (fr_sub (by decide) b3)
  have hW : gA es' 80 = gA es 80 := fr_row hf (sh_of hT) (p := 80) (t := 0) (n := 2125) (sp := tS80) rfl (by decide) (fun k => by simp only [frAw, frAs, mHq, true_and, and_true, false_and, and_false, or_false, false_or, not_false_eq_true, Nat.reduceEqDiff] <;> omega)
  refine ⟨b2, hf, by rcases b4 with h | h | h <;> omega, fun hv => ?_, hW⟩
  rcases b4 with h | h | ⟨-, -, h3, h4, h5, h6⟩
  · omega
  · omega
  · exact ⟨h5, h6, fun b hb => (b5 b).mpr (a4 b hb), h3, h4⟩
def frSl : List aMod := (79, 2, 0, 1) :: (102, 0, 0, 24) :: (103, 0, 0, 30) :: frAw
section
variable {O : pOut} {d kc ks : Nat} {Q : pRes → Prop} {es : PH}
theorem put_thr {x : Int} (hT : hOK tT es) : hOK tT (sI es 79 0 (.int (zI x))) ∧ fr frSl es (sI es 79 0 (.int (zI x))) :=
  ⟨hOK_sI hT (p := 79) (b := 0) (lo := iLO) (hi := iHI) rfl rfl (i32_rng _), fr_sI rfl⟩
/-- a call of asksWhole, and one of follows -/
theorem call_aw {j pc k : Nat} {L : PL} {ret : Option FieldType} (hi : iRow j pc = some (.invokevirtual 441, k, 230, 1, ret)) (h365 : conOK O gG gInv kc_365) (hT : hOK tT es) (hI : gInv es) (K : ∀ es' v, awP es es' v → aW O (d + 10) j kc ks Q (pc + 3, L, [.int (zI v)], es')) : aW O (d + 10) j kc ks Q (pc, L, [.ref 143], es) := by
  refine x_call (vs := [.ref 143]) (rs := []) hi rfl (fun _ => rfl) rfl rfl rfl rfl rfl (pCall_v (p := 79) (sh_of hT) rfl rfl rfl rfl rfl (by decide) rfl rfl rfl rfl rfl) ?_
  show aW _ _ _ _ _ _ (0, [some (.ref 143)], [], es)
  exact asksWhole_spec (d := d) h365 hT hI (fun es' v h => K es' v h)
theorem call_fo {j pc k b : Nat} {L : PL} {ret : Option FieldType} {v : Int} (hi : iRow j pc = some (.invokevirtual 444, k, 261, 1, ret)) (hT : hOK tT es) (hb : b < cW (gA es 80)) (hak : akB es b) (hv : v ≤ 20) (hF : FST (evE es) v es) (K : ∀ es', followsN es es' → aW O (d + 6) j kc ks Q (pc + 3, L, [], es')) : aW O (d + 6) j kc ks Q (pc, L, [.int (zI (b : Int)), .ref 143], es) := by
  refine x_call (vs := [.ref 143, .int (zI (b : Int))]) (rs := []) hi rfl (fun _ => rfl) rfl rfl rfl rfl rfl (pCall_v (p := 79) (sh_of hT) rfl rfl rfl rfl rfl (by decide) rfl rfl rfl rfl rfl) ?_
  show aW _ _ _ _ _ _ (0, [some (.ref 143), some (.int (zI (b : Int))), none, none, none], [], es)
  exact follows_spec (d := d) hT hb hak hv hF (fun es' h => K es' h)
end
theorem hm_slip {O : pOut} (h365 : conOK O gG gInv kc_365) : conOK O gG gInv kc_393 := by
  refine ⟨_, rfl, fun d hd ρ vs es hE hC hS hT hI hF => ?_⟩
  obtain ⟨v0, v1, v2, rfl, g0, g1, g2⟩ := gS3 hS
  cases arg_r g0
  obtain ⟨bk, rfl, i1, -, -, -⟩ := arg_i hE g1
  obtain ⟨nt, rfl, i2, -, -, -⟩ := arg_i hE g2
  have hd16 : 16 ≤ d := hd
  obtain ⟨d', rfl⟩ : ∃ d', d = d' + 16 := ⟨d - 16, by omega⟩
  have fin : ∀ es' a, hOK tT es' → fr frSl es es' → i32 a → cPost O gG gInv kc_393 ρ es (.inl (some (.int (zI a))), es', 0, 0) := fun es' a h1 h2 h3 =>
    post_int (c := kc_393) (lo := iLO) (hi := iHI) hE h1 (gInv_keep h2 (by decide) hT hI) (fr_sub (by decide) h2) List.mem_cons_self h3 h3.1 h3.2 (Nat.le_refl _) (Nat.le_refl _)
  have zero : ∀ es1 es4, es1 = sI es 79 0 (.int (zI 0)) → es4 = sI es1 79 0 (.int (zI 1)) → cPost O gG gInv kc_393 ρ es (.inl (some (.int (zI 0))), es4, 0, 0) := by
    intro es1 es4 e1 e4
    rw [e4, e1]
    exact fin _ _ (put_thr (put_thr hT).1).1 (fr_trans (put_thr hT).2 (put_thr (put_thr hT).1).2) (by unfold i32 iLO iHI; omega)
  refine s_slip0 (d := d' + 12) (kc := 0) (ks := 0) (sh_of hT) i1 i2 hT (fun es1 e1 v2 f2 c1 es4 e4 => zero es1 es4 e1 e4) (fun es1 e1 v2 f2 c1 c2 es4 e4 => zero es1 es4 e1 e4) (fun es1 e1 v2 f2 c1 c2 v7 f7 v8 f8 c3 es4 e4 => zero es1 es4 e1 e4) (fun es1 e1 v2 f2 c1 c2 v7 f7 v8 f8 c3 c4 es4 e4 => zero es1 es4 e1 e4) (fun es1 e1 v2 f2 c1 c2 v7 f7 v8 f8 c3 c4 => ?_)
  obtain ⟨b, rfl⟩ := Int.eq_ofNat_of_zero_le (show 0 ≤ bk by omega)
  have hT1 : hOK tT es1 := by rw [e1]; exact (put_thr hT).1
  have fr1 : fr frSl es es1 := by rw [e1]; exact (put_thr hT).2
  have f2' : v2 = (gA es1 80 1).toInt := f2
  have hcb := cW_bd hT1
  have hbc : b < cW (gA es1 80) := by omega
  have hnb := nW_bd hT1 (b := b) (by omega)
  rw [show ((119 + (98 * (b : Int))) + 1).toNat = 119 + 98 * b + 1 by omega, hnb.1] at f7
  rw [zI_toInt (by unfold i32 iLO iHI; omega)] at f8
  refine call_aw (d := d' + 6) i_260_22 h365 hT1 (gInv_keep fr1 (by decide) hT hI) (fun es2 v h2 => ?_)
  obtain ⟨hT2, fr2, hv, hG, hW⟩ := aw_use hT1 h2
  have fr12 : fr frSl es es2 := fr_trans fr1 (fr_sub (by decide) fr2)
  refine s_slip25 (d := d' + 16) (sh_of hT2) (by omega) hT2 (fun hv0 => ?_) (fun hv0 => fin es2 v hT2 fr12 (by unfold i32 iLO iHI; omega))
  obtain ⟨t1, t2, t3, t4, t5⟩ := hG hv0
  refine call_fo (d := d' + 10) (b := b) i_260_34 hT2 (by rw [hW]; exact hbc) (t3 b hbc) hv.2 t1 (fun es3 h3 => ?_)
  obtain ⟨s1, s2, s3⟩ := h3
  refine s_slip37 (d := d' + 16) s1 ⟨by omega, by omega⟩ s2 (fun w1 u1 => ?_)
  exact fin es3 w1 s2 (fr_trans fr12 (fr_sub (by decide) s3)) (by rw [u1]; exact i32_rng _)
theorem hm_slips {O : pOut} (h365 : conOK O gG gInv kc_365) : conOK O gG gInv kc_395 := by
  refine ⟨_, rfl, fun d hd ρ vs es hE hC hS hT hI hF => ?_⟩
  obtain ⟨v0, v1, v2, rfl, g0, g1, g2⟩ := gS3 hS
  cases arg_r g0
  obtain ⟨bk, rfl, i1, -, -, -⟩ := arg_i hE g1
  obtain ⟨sl, rfl, i2, -, -, -⟩ := arg_i hE g2
  have hd16 : 16 ≤ d := hd
  obtain ⟨d', rfl⟩ : ∃ d', d = d' + 16 := ⟨d - 16, by omega⟩
  have fin : ∀ es' a, hOK tT es' → fr frSl es es' → i32 a → cPost O gG gInv kc_395 ρ es (.inl (some (.int (zI a))), es', 0, 0) := fun es' a h1 h2 h3 =>
    post_int (c := kc_395) (lo := iLO) (hi := iHI) hE h1 (gInv_keep h2 (by decide) hT hI) (fr_sub (by decide) h2) List.mem_cons_self h3 h3.1 h3.2 (Nat.le_refl _) (Nat.le_refl _)
  have zero : ∀ es1 es4, es1 = sI es 79 0 (.int (zI 0)) → es4 = sI es1 79 0 (.int (zI 1)) → cPost O gG gInv kc_395 ρ es (.inl (some (.int (zI 0))), es4, 0, 0) := by
    intro es1 es4 e1 e4
    rw [e4, e1]
    exact fin _ _ (put_thr (put_thr hT).1).1 (fr_trans (put_thr hT).2 (put_thr (put_thr hT).1).2) (by unfold i32 iLO iHI; omega)
  refine s_sls0 (d := d' + 13) (kc := 0) (ks := 0) (sh_of hT) i1 i2 hT (fun es1 e1 v2 f2 c1 es4 e4 => zero es1 es4 e1 e4) (fun es1 e1 v2 f2 c1 c2 es4 e4 => zero es1 es4 e1 e4) (fun es1 e1 v2 f2 c1 c2 c3 es4 e4 => zero es1 es4 e1 e4) (fun es1 e1 v2 f2 c1 c2 c3 c4 es4 e4 => zero es1 es4 e1 e4) (fun es1 e1 v2 f2 c1 c2 c3 c4 => ?_)
  obtain ⟨b, rfl⟩ := Int.eq_ofNat_of_zero_le (show 0 ≤ bk by omega)
  have hT1 : hOK tT es1 := by rw [e1]; exact (put_thr hT).1
  have fr1 : fr frSl es es1 := by rw [e1]; exact (put_thr hT).2
  have f2' : v2 = (gA es1 80 1).toInt := f2
  have hcb := cW_bd hT1
  have hbc : b < cW (gA es1 80) := by omega
  refine call_aw (d := d' + 6) i_262_39 h365 hT1 (gInv_keep fr1 (by decide) hT hI) (fun es2 v h2 => ?_)
  obtain ⟨hT2, fr2, hv, hG, hW⟩ := aw_use hT1 h2
  have fr12 : fr frSl es es2 := fr_trans fr1 (fr_sub (by decide) fr2)
  refine s_sls42 (d := d' + 16) (sh_of hT2) (by omega) hT2 (fun hv0 => ?_) (fun hv0 => fin es2 v hT2 fr12 (by unfold i32 iLO iHI; omega))
  obtain ⟨t1, t2, t3, t4, t5⟩ := hG hv0
  refine call_fo (d := d' + 10) (b := b) i_262_51 hT2 (by rw [hW]; exact hbc) (t3 b hbc) hv.2 t1 (fun es3 h3 => ?_)
  obtain ⟨s1, s2, s3⟩ := h3
  have fr3 : fr frSl es es3 := fr_trans fr12 (fr_sub (by decide) s3)
  have h41 : 0 ≤ (gI es3 79 41).toInt ∧ (gI es3 79 41).toInt ≤ 30 := gI_bd s2 (p := 79) (b := 41) rfl rfl
  have lp2 : ∀ (j k : Nat) (c : Int), k + j = 30 → 0 ≤ c ∧ c ≤ 24 + k → aW O (d' + 16) 262 0 0 (cPost O gG gInv kc_395 ρ es) (100, [some (.ref 143), some (.int (zI (b : Int))), some (.int (zI sl)), some (.int (zI v)), some (.int (zI c)), some (.int (zI (k : Int)))], [], es3) := by
    intro j
    induction j with
    | zero =>
      intro k c hk hc
      refine s_sls100 (d := d' + 16) s1 ⟨by omega, by omega⟩ ⟨by omega, by omega⟩ ⟨by omega, by omega⟩ h41.2 s2 (fun w1 u1 q1 => fin es3 c s2 fr3 (by unfold i32 iLO iHI; omega)) (fun w1 u1 q1 q2 => fin es3 c s2 fr3 (by unfold i32 iLO iHI; omega)) (fun w1 u1 q1 => by omega) (fun w1 u1 q1 => by omega)
    | succ j ih =>
      intro k c hk hc
      have e9 : ((k + 1 : Nat) : Int) = (k : Int) + 1 := by omega
      refine s_sls100 (d := d' + 16) s1 ⟨by omega, by omega⟩ ⟨by omega, by omega⟩ ⟨by omega, by omega⟩ h41.2 s2 (fun w1 u1 q1 => fin es3 c s2 fr3 (by unfold i32 iLO iHI; omega)) (fun w1 u1 q1 q2 => fin es3 c s2 fr3 (by unfold i32 iLO iHI; omega)) (fun w1 u1 q1 q2 w4 u4 q4 => ?_) (fun w1 u1 q1 q2 w4 u4 q4 => ?_)
      · have := ih (k + 1) (c + 0) (by omega) (by omega)
        rw [e9] at this
        exact this
      · have := ih (k + 1) (c + 1) (by omega) (by omega)
        rw [e9] at this
        exact this
  have hnb := nW_bd s2 (b := b) (by omega)
  have jn : ((119 + (98 * (b : Int))) + 1).toNat = 119 + 98 * b + 1 := by omega
  have lp1 : ∀ (j k : Nat) (c : Int), k + j = 24 → 0 ≤ c ∧ c ≤ k → aW O (d' + 16) 262 0 0 (cPost O gG gInv kc_395 ρ es) (60, [some (.ref 143), some (.int (zI (b : Int))), some (.int (zI sl)), some (.int (zI v)), some (.int (zI c)), some (.int (zI (k : Int)))], [], es3) := by
    intro j
    induction j with
    | zero =>
      intro k c hk hc
      refine s_sls60 (d := d' + 14) s1 ⟨by omega, by omega⟩ ⟨by omega, by omega⟩ ⟨by omega, by omega⟩ ⟨by omega, by omega⟩ (by rw [jn]; omega) s2 (fun w1 u1 q1 => lp2 30 0 c (by omega) (by omega)) (fun w1 u1 q1 => ?_) (fun w1 u1 q1 => ?_)
      all_goals
        rw [jn] at u1
        omega
    | succ j ih =>
      intro k c hk hc
      have e9 : ((k + 1 : Nat) : Int) = (k : Int) + 1 := by omega
      refine s_sls60 (d := d' + 14) s1 ⟨by omega, by omega⟩ ⟨by omega, by omega⟩ ⟨by omega, by omega⟩ ⟨by omega, by omega⟩ (by rw [jn]; omega) s2 (fun w1 u1 q1 => lp2 30 0 c (by omega) (by omega)) (fun w1 u1 q1 w3 u3 q3 => ?_) (fun w1 u1 q1 w3 u3 q3 => ?_)
      · have := ih (k + 1) (c + 0) (by omega) (by omega)
        rw [e9] at this
        exact this
      · have := ih (k + 1) (c + 1) (by omega) (by omega)
        rw [e9] at this
        exact this
  refine s_sls54 (d := d' + 16) s1 s2 ?_
  exact lp1 24 0 0 (by omega) (by omega)
theorem gS4' {ρ : List Int} {a b c e : aV} {st : List Value} (h : gS ρ [a, b, c, e] st) : ∃ v w x y, st = [v, w, x, y] ∧ gV ρ a v ∧ gV ρ b w ∧ gV ρ c x ∧ gV ρ e y := by
  obtain ⟨v, s, rfl, h1, h2⟩ := gS_cons h
  obtain ⟨w, x, y, rfl, h3, h4, h5⟩ := gS3 h2
  exact ⟨v, w, x, y, rfl, h1, h3, h4, h5⟩
def frSh : List aMod := (104, 0, 0, 24) :: (105, 0, 0, 30) :: frSl
section
variable {O : pOut} {d kc ks : Nat} {Q : pRes → Prop} {es : PH}
/-- the comparison of the two -/
theorem sh_last {fi se cp v : Int} (hT : hOK tT es) (hfi : 0 ≤ fi ∧ fi ≤ 2) (hse : 0 ≤ se ∧ se ≤ 2) (hcp : i32 cp) (K : ∀ a : Int, i32 a → Q (.inl (some (.int (zI a))), es, kc, ks)) : ∀ (j k : Nat) (bo ow : Int) (x8 x9 : Option Value), k + j = 30 → 0 ≤ bo ∧ bo ≤ k → 0 ≤ ow ∧ ow ≤ k →
    aW O (d + 2) 269 kc ks Q (134, [some (.ref 143), some (.int (zI fi)), some (.int (zI se)), some (.int (zI cp)), some (.int (zI v)), some (.int (zI bo)), some (.int (zI ow)), some (.int (zI (k : Int))), x8, x9], [], es) := by
  have hs := sh_of hT
  have h41 : 0 ≤ (gI es 79 41).toInt ∧ (gI es 79 41).toInt ≤ 30 := gI_bd hT (p := 79) (b := 41) rfl rfl
  intro j
  induction j with
  | zero =>
    intro k bo ow x8 x9 hk hbo how
    refine s_sh134 (d := d + 2) hs ⟨by omega, by omega⟩ ⟨by omega, by omega⟩ ⟨by omega, by omega⟩ h41 hT ?_ ?_ ?_
    · intros
      exact s_sh302 (d := d + 2) hs ⟨by omega, by omega⟩ ⟨by omega, by omega⟩ ⟨by omega, by omega⟩ hcp hT (fun _ _ => K 0 (by unfold i32 iLO iHI; omega)) (fun _ _ => K 1 (by unfold i32 iLO iHI; omega)) (fun _ => K bo (by unfold i32 iLO iHI; omega))
    · intros; omega
    · intros; omega
  | succ j ih =>
    intro k bo ow x8 x9 hk hbo how
    have e9 : ((k + 1 : Nat) : Int) = (k : Int) + 1 := by omega
    have nx : ∀ (bo' ow' : Int) (x8 x9 : Option Value), 0 ≤ bo' ∧ bo' ≤ k + 1 → 0 ≤ ow' ∧ ow' ≤ k + 1 → aW O (d + 2) 269 kc ks Q (296, [some (.ref 143), some (.int (zI fi)), some (.int (zI se)), some (.int (zI cp)), some (.int (zI v)), some (.int (zI bo')), some (.int (zI ow')), some (.int (zI (k : Int))), x8, x9], [], es) := by
      intro bo' ow' x8 x9 h1 h2
      refine s_sh296 (d := d + 2) hs ⟨by omega, by omega⟩ ⟨by omega, by omega⟩ ⟨by omega, by omega⟩ hT ?_
      have := ih (k + 1) bo' ow' x8 x9 (by omega) (by omega) (by omega)
      rw [e9] at this
      exact this
    have mid : ∀ (a b : Int), -1 ≤ a ∧ a ≤ 23 → 0 ≤ b ∧ b ≤ 23 → aW O (d + 2) 269 kc ks Q (166, [some (.ref 143), some (.int (zI fi)), some (.int (zI se)), some (.int (zI cp)), some (.int (zI v)), some (.int (zI bo)), some (.int (zI ow)), some (.int (zI (k : Int))), some (.int (zI a)), some (.int (zI b))], [], es) := by
      intro a b ha hb
      have m7 : ∀ ow' : Int, 0 ≤ ow' ∧ ow' ≤ k + 1 → aW O (d + 2) 269 kc ks Q (207, [some (.ref 143), some (.int (zI fi)), some (.int (zI se)), some (.int (zI cp)), some (.int (zI v)), some (.int (zI bo)), some (.int (zI ow')), some (.int (zI (k : Int))), some (.int (zI a)), some (.int (zI b))], [], es) := by
        intro ow' how'
        apply s_sh207 (d := d) hs hfi hse ⟨by omega, by omega⟩ ⟨by omega, by omega⟩ ⟨by omega, by omega⟩ ha hb hT <;> intros <;> exact nx _ _ _ _ (by omega) (by omega)
      apply s_sh166 (d := d) hs ⟨by omega, by omega⟩ ⟨by omega, by omega⟩ ⟨by omega, by omega⟩ ha hb hT <;> intros
      all_goals first
        | exact nx _ _ _ _ (by omega) (by omega)
        | (apply s_sh182 (d := d + 2) hs ⟨by omega, by omega⟩ ⟨by omega, by omega⟩ ⟨by omega, by omega⟩ ha hb hT <;> intros <;> exact m7 _ (by omega))
    refine s_sh134 (d := d + 2) hs ⟨by omega, by omega⟩ ⟨by omega, by omega⟩ ⟨by omega, by omega⟩ h41 hT ?_ ?_ ?_
    · intros
      exact s_sh302 (d := d + 2) hs ⟨by omega, by omega⟩ ⟨by omega, by omega⟩ ⟨by omega, by omega⟩ hcp hT (fun _ _ => K 0 (by unfold i32 iLO iHI; omega)) (fun _ _ => K 1 (by unfold i32 iLO iHI; omega)) (fun _ => K bo (by unfold i32 iLO iHI; omega))
    · intros; exact nx _ _ _ _ (by omega) (by omega)
    · intro v1 e1 h1 v3 e3 v4 e4 h4
      have b3 := gA_bd hT (p := 105) (t := 0) (n := 30) (k := k) rfl (by omega) (by decide)
      have b4 := gA_bd hT (p := 103) (t := 0) (n := 30) (k := k) rfl (by omega) (by decide)
      have b3' : -1 ≤ (gA es 105 k).toInt ∧ (gA es 105 k).toInt ≤ 23 := b3
      have b4' : -1 ≤ (gA es 103 k).toInt ∧ (gA es 103 k).toInt ≤ 23 := b4
      rw [Int.toNat_natCast] at e3 e4
      exact mid v3 v4 (by rw [e3]; exact b3') (by omega)
end
theorem hm_shared {O : pOut} (h365 : conOK O gG gInv kc_365) : conOK O gG gInv kc_402 := by
  refine ⟨_, rfl, fun d hd ρ vs es hE hC hS hT hI hF => ?_⟩
  obtain ⟨v0, v1, v2, v3, rfl, g0, g1, g2, g3⟩ := gS4' hS
  cases arg_r g0
  obtain ⟨fi, rfl, i1, -, -, -⟩ := arg_i hE g1
  obtain ⟨se, rfl, i2, -, -, -⟩ := arg_i hE g2
  obtain ⟨cp, rfl, i3, -, -, -⟩ := arg_i hE g3
  have hd16 : 16 ≤ d := hd
  obtain ⟨d', rfl⟩ : ∃ d', d = d' + 16 := ⟨d - 16, by omega⟩
  have fin : ∀ es' a, hOK tT es' → fr frSh es es' → i32 a → cPost O gG gInv kc_402 ρ es (.inl (some (.int (zI a))), es', 0, 0) := fun es' a h1 h2 h3 =>
    post_int (c := kc_402) (lo := iLO) (hi := iHI) hE h1 (gInv_keep h2 (by decide) hT hI) (fr_sub (by decide) h2) List.mem_cons_self h3 h3.1 h3.2 (Nat.le_refl _) (Nat.le_refl _)
  have zero : ∀ es1 es4, es1 = sI es 79 0 (.int (zI 0)) → es4 = sI es1 79 0 (.int (zI 1)) → cPost O gG gInv kc_402 ρ es (.inl (some (.int (zI 0))), es4, 0, 0) := by
    intro es1 es4 e1 e4
    rw [e4, e1]
    exact fin _ _ (put_thr (put_thr hT).1).1 (fr_sub (by decide) (fr_trans (put_thr hT).2 (put_thr (put_thr hT).1).2)) (by unfold i32 iLO iHI; omega)
  have go : ∀ es1, es1 = sI es 79 0 (.int (zI 0)) → (0 ≤ fi ∧ fi < (gA es1 80 1).toInt) → (0 ≤ se ∧ se < (gA es1 80 1).toInt) → aW O (d' + 16) 269 0 0 (cPost O gG gInv kc_402 ρ es) (37, [some (.ref 143), some (.int (zI fi)), some (.int (zI se)), some (.int (zI cp)), none, none, none, none, none, none], [.ref 143], es1) := by
    intro es1 e1 hf1 hs1
    obtain ⟨b, rfl⟩ := Int.eq_ofNat_of_zero_le hf1.1
    obtain ⟨c, rfl⟩ := Int.eq_ofNat_of_zero_le hs1.1
    have hT1 : hOK tT es1 := by rw [e1]; exact (put_thr hT).1
    have fr1 : fr frSh es es1 := by rw [e1]; exact fr_sub (by decide) (put_thr hT).2
    have hcb := cW_bd hT1
    refine call_aw (d := d' + 6) i_269_37 h365 hT1 (gInv_keep fr1 (by decide) hT hI) (fun es2 v h2 => ?_)
    obtain ⟨hT2, fr2, hv, hG, hW⟩ := aw_use hT1 h2
    have fr12 : fr frSh es es2 := fr_trans fr1 (fr_sub (by decide) fr2)
    refine s_sh40 (d := d' + 16) (sh_of hT2) (by omega) hT2 (fun hv0 => ?_) (fun hv0 => fin es2 v hT2 fr12 (by unfold i32 iLO iHI; omega))
    obtain ⟨t1, t2, t3, t4, t5⟩ := hG hv0
    refine call_fo (d := d' + 10) (b := b) i_269_52 hT2 (by rw [hW]; omega) (t3 b (by omega)) hv.2 t1 (fun es3 h3 => ?_)
    obtain ⟨s1, s2, s3⟩ := h3
    have fr3 : fr frSh es es3 := fr_trans fr12 (fr_sub (by decide) s3)
    refine s_sh55 (d := d' + 16) s1 s2 ?_
    have jn : ((119 + (98 * (b : Int))) + 1).toNat = 119 + 98 * b + 1 := by omega
    have hE32 : evE es3 = evE es2 := frFo_E (sh_of hT2) s3
    -- the second follows, and what comes behind it
    have lp2 : ∀ (j k : Nat) (es4 : PH), k + j = 30 → hOK tT es4 → fr [(104, 0, 0, 24), (105, 0, 0, 30)] es3 es4 → aW O (d' + 16) 269 0 0 (cPost O gG gInv kc_402 ρ es) (91, [some (.ref 143), some (.int (zI (b : Int))), some (.int (zI (c : Int))), some (.int (zI cp)), some (.int (zI v)), some (.int (zI (k : Int))), none, none, none, none], [], es4) := by
      have call2 : ∀ (k : Nat) (es4 : PH), hOK tT es4 → fr [(104, 0, 0, 24), (105, 0, 0, 30)] es3 es4 → aW O (d' + 16) 269 0 0 (cPost O gG gInv kc_402 ρ es) (122, [some (.ref 143), some (.int (zI (b : Int))), some (.int (zI (c : Int))), some (.int (zI cp)), some (.int (zI v)), some (.int (zI (k : Int))), none, none, none, none], [.int (zI (c : Int)), .ref 143], es4) := by
        intro k es4 hT4 f4
        have hE4 : evE es4 = evE es2 := by
          rw [← hE32]
          exact evE_fr f4 s1 (fun k => by simp only [mHq, true_and, and_true, false_and, and_false, or_false, false_or, not_false_eq_true, Nat.reduceEqDiff] <;> omega) (fun k => by simp only [mHq, true_and, and_true, false_and, and_false, or_false, false_or, not_false_eq_true, Nat.reduceEqDiff] <;> omega) (fun k => by simp only [mHq, true_and, and_true, false_and, and_false, or_false, false_or, not_false_eq_true, Nat.reduceEqDiff] <;> omega) (by simp only [mHq, true_and, and_true, false_and, and_false, or_false, false_or, not_false_eq_true, Nat.reduceEqDiff] <;> omega) (by simp only [mHq, true_and, and_true, false_and, and_false, or_false, false_or, not_false_eq_true, Nat.reduceEqDiff] <;> omega)
        have hW4 : gA es4 80 = gA es1 80 := (congrArg Ev.W hE4).trans hW
        have hA4 : akB es4 = akB es2 := congrArg Ev.ak hE4
        have g41 : gI es4 79 41 = gI es2 79 41 := by
          rw [fr_fld f4 s1 (p := 79) (b := 41) rfl (by simp only [mHq, true_and, and_true, false_and, and_false, or_false, false_or, not_false_eq_true, Nat.reduceEqDiff] <;> omega)]
          exact fr_fld s3 (sh_of hT2) (p := 79) (b := 41) rfl (by simp only [frFo, mHq, true_and, and_true, false_and, and_false, or_false, false_or, not_false_eq_true, Nat.reduceEqDiff] <;> omega)
        have a98 : fst98 es4 = fst98 es2 := by
          funext i; unfold fst98
          rw [fr_row f4 s1 (p := 98) (t := 0) (n := 30) rfl (by decide) (fun k => by simp only [mHq, true_and, and_true, false_and, and_false, or_false, false_or, not_false_eq_true, Nat.reduceEqDiff] <;> omega), fr_row s3 (sh_of hT2) (p := 98) (t := 0) (n := 30) rfl (by decide) (fun k => by simp only [frFo, mHq, true_and, and_true, false_and, and_false, or_false, false_or, not_false_eq_true, Nat.reduceEqDiff] <;> omega)]
        obtain ⟨L, w1, w2, w3, w4⟩ := t1
        refine call_fo (d := d' + 10) (b := c) (v := v) i_269_122 hT4 (by rw [hW4]; omega) (by rw [hA4]; exact t3 c (by omega)) hv.2 ⟨L, by rw [g41]; exact w1, w2, by rw [hE4, a98]; exact w3, by rw [hE4, a98]; exact w4⟩ (fun es5 h5 => ?_)
        obtain ⟨r1, r2, r3⟩ := h5
        have fr5 : fr frSh es es5 := fr_trans fr3 (fr_trans (fr_sub (by decide) f4) (fr_sub (by decide) r3))
        refine s_sh125 (d := d' + 16) r1 r2 ?_
        exact sh_last (d := d' + 14) r2 ⟨by omega, by omega⟩ ⟨by omega, by omega⟩ i3 (fun a ha => fin es5 a r2 fr5 ha) 30 0 0 0 none none (by omega) (by omega) (by omega)
      intro j
      induction j with
      | zero =>
        intro k es4 hk hT4 f4
        have h41 : 0 ≤ (gI es4 79 41).toInt ∧ (gI es4 79 41).toInt ≤ 30 := gI_bd hT4 (p := 79) (b := 41) rfl rfl
        exact s_sh91 (d := d' + 16) (sh_of hT4) ⟨by omega, by omega⟩ h41 hT4 (fun w1 u1 q1 => call2 k es4 hT4 f4) (fun w1 u1 q1 => by omega)
      | succ j ih =>
        intro k es4 hk hT4 f4
        have h41 : 0 ≤ (gI es4 79 41).toInt ∧ (gI es4 79 41).toInt ≤ 30 := gI_bd hT4 (p := 79) (b := 41) rfl rfl
        have e9 : ((k + 1 : Nat) : Int) = (k : Int) + 1 := by omega
        refine s_sh91 (d := d' + 16) (sh_of hT4) ⟨by omega, by omega⟩ h41 hT4 (fun w1 u1 q1 => call2 k es4 hT4 f4) (fun w1 u1 q1 w3 u3 es5 u5 => ?_)
        have b3 := gA_bd hT4 (p := 103) (t := 0) (n := 30) (k := k) rfl (by omega) (by decide)
        have b3' : -1 ≤ (gA es4 103 k).toInt ∧ (gA es4 103 k).toInt ≤ 23 := b3
        rw [Int.toNat_natCast] at u3 u5
        have := ih (k + 1) es5 (by omega) (by rw [u5]; exact hOK_sA hT4 (p := 105) (t := 0) (n := 30) rfl (fun _ => by rw [zI_toInt (by unfold i32 iLO iHI; omega), u3]; exact b3')) (by rw [u5]; exact fr_trans f4 (fr_sA (mIn_yes (by simp only [mHq, true_and, and_true, false_and, and_false, or_false, false_or, not_false_eq_true, Nat.reduceEqDiff] <;> omega))))
        rw [e9] at this
        exact this
    have lp1 : ∀ (j k : Nat) (es4 : PH), k + j = 24 → hOK tT es4 → fr [(104, 0, 0, 24), (105, 0, 0, 30)] es3 es4 → aW O (d' + 16) 269 0 0 (cPost O gG gInv kc_402 ρ es) (58, [some (.ref 143), some (.int (zI (b : Int))), some (.int (zI (c : Int))), some (.int (zI cp)), some (.int (zI v)), some (.int (zI (k : Int))), none, none, none, none], [], es4) := by
      intro j
      induction j with
      | zero =>
        intro k es4 hk hT4 f4
        have hnb := nW_bd hT4 (b := b) (by omega)
        refine s_sh58 (d := d' + 14) (sh_of hT4) ⟨by omega, by omega⟩ ⟨by omega, by omega⟩ (by rw [jn]; omega) hT4 (fun w1 u1 q1 => lp2 30 0 es4 (by omega) hT4 f4) (fun w1 u1 q1 => ?_)
        rw [jn] at u1
        omega
      | succ j ih =>
        intro k es4 hk hT4 f4
        have hnb := nW_bd hT4 (b := b) (by omega)
        have e9 : ((k + 1 : Nat) : Int) = (k : Int) + 1 := by omega
        refine s_sh58 (d := d' + 14) (sh_of hT4) ⟨by omega, by omega⟩ ⟨by omega, by omega⟩ (by rw [jn]; omega) hT4 (fun w1 u1 q1 => lp2 30 0 es4 (by omega) hT4 f4) (fun w1 u1 q1 w3 u3 es5 u5 => ?_)
        have b3 := gA_bd hT4 (p := 102) (t := 0) (n := 24) (k := k) rfl (by omega) (by decide)
        have b3' : 0 ≤ (gA es4 102 k).toInt ∧ (gA es4 102 k).toInt ≤ 7 := b3
        rw [Int.toNat_natCast] at u3 u5
        have := ih (k + 1) es5 (by omega) (by rw [u5]; exact hOK_sA hT4 (p := 104) (t := 0) (n := 24) rfl (fun _ => by rw [zI_toInt (by unfold i32 iLO iHI; omega), u3]; exact b3')) (by rw [u5]; exact fr_trans f4 (fr_sA (mIn_yes (by simp only [mHq, true_and, and_true, false_and, and_false, or_false, false_or, not_false_eq_true, Nat.reduceEqDiff] <;> omega))))
        rw [e9] at this
        exact this
    exact lp1 24 0 es3 (by omega) s2 (fr_refl _ _)
  refine s_sh0 (d := d' + 13) (kc := 0) (ks := 0) (sh_of hT) i1 i2 i3 hT (fun es1 e1 v2 f2 c1 es4 e4 => zero es1 es4 e1 e4) (fun es1 e1 v2 f2 c1 c2 es4 e4 => zero es1 es4 e1 e4) (fun es1 e1 v2 f2 c1 c2 v7 f7 c3 es4 e4 => zero es1 es4 e1 e4) (fun es1 e1 v2 f2 c1 c2 v7 f7 c3 c4 es4 e4 => zero es1 es4 e1 e4) (fun es1 e1 v2 f2 c1 c2 v7 f7 c3 c4 => ?_)
  have f2' : v2 = (gA es1 80 1).toInt := f2
  have f7' : v7 = (gA es1 80 1).toInt := f7
  exact go es1 e1 ⟨by omega, by omega⟩ ⟨by omega, by omega⟩
