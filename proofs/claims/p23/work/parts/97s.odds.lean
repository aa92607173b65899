theorem s_od0 {O : pOut} {d kc ks : Nat} {Q : pRes → Prop} {es : PH} {i wd be : Int} (hs_es : sh es) (h0 : -2147483648 ≤ i ∧ i ≤ 2147483647) (h1 : -2147483648 ≤ wd ∧ wd ≤ 2147483647) (h2 : -2147483648 ≤ be ∧ be ≤ 2147483647) (hT_es : hOK tT es)
    (K1 : ∀ es1 : PH, es1 = sI es 79 0 (.int (zI 0)) → i < 0 → ∀ es3 : PH, es3 = sI es1 79 0 (.int (zI 1)) → Q (.inl (some (.long (Int64.ofNat 0))), es3, kc, ks))
    (K2 : ∀ es1 : PH, es1 = sI es 79 0 (.int (zI 0)) → ¬ (i < 0) → wd < 0 → ∀ es5 : PH, es5 = sI es1 79 0 (.int (zI 1)) → Q (.inl (some (.long (Int64.ofNat 0))), es5, kc, ks))
    (K3 : ∀ es1 : PH, es1 = sI es 79 0 (.int (zI 0)) → ¬ (i < 0) → ¬ (wd < 0) → 2 < wd → ∀ es7 : PH, es7 = sI es1 79 0 (.int (zI 1)) → Q (.inl (some (.long (Int64.ofNat 0))), es7, kc, ks))
    (K4 : ∀ es1 : PH, es1 = sI es 79 0 (.int (zI 0)) → ¬ (i < 0) → ¬ (wd < 0) → ¬ (2 < wd) → aW O (d + 1) 267 kc ks Q (34, [some (.ref 143), some (.int (zI i)), some (.int (zI wd)), some (.int (zI be)), none, none, none, none, none, none, none, none], [.ref 143], es1)) :
    aW O (d + 1) 267 kc ks Q (0, [some (.ref 143), some (.int (zI i)), some (.int (zI wd)), some (.int (zI be)), none, none, none, none, none, none, none, none], [], es) := by
  refine x0 (r := (1, [some (.ref 143), some (.int (zI i)), some (.int (zI wd)), some (.int (zI be)), none, none, none, none, none, none, none, none], [.ref 143], es)) i_267_0 rfl ?_
  refine x0 (r := (2, [some (.ref 143), some (.int (zI i)), some (.int (zI wd)), some (.int (zI be)), none, none, none, none, none, none, none, none], [.int (zI 0), .ref 143], es)) i_267_1 (by rfl) ?_
  refine x_puti (p := 79) (ty := .int) i_267_2 hs_es rfl rfl rfl (Or.inl rfl) ?_
  obtain ⟨es1, e_es1⟩ : ∃ z : PH, z = sI es 79 0 (.int (zI 0)) := ⟨_, rfl⟩
  have hs_es1 : sh es1 := by rw [e_es1]; exact sh_sI hs_es (p := 79) (b := 0) rfl rfl
  have hT_es1 : hOK tT es1 := by rw [e_es1]; exact hOK_sI hT_es (p := 79) (b := 0) (lo := iLO) (hi := iHI) rfl rfl (i32_rng _)
  rw [← e_es1]
  refine x0 (r := (6, [some (.ref 143), some (.int (zI i)), some (.int (zI wd)), some (.int (zI be)), none, none, none, none, none, none, none, none], [.ref 143], es1)) i_267_5 rfl ?_
  refine x0 (r := (7, [some (.ref 143), some (.int (zI i)), some (.int (zI wd)), some (.int (zI be)), none, none, none, none, none, none, none, none], [.int (zI i), .ref 143], es1)) i_267_6 rfl ?_
  by_cases c2 : i < 0
  · refine x_ifT i_267_7 (by unfold i32 iLO iHI; omega) rfl (by simp only [zC, cR]; omega) ?_
    refine x0 (r := (20, [some (.ref 143), some (.int (zI i)), some (.int (zI wd)), some (.int (zI be)), none, none, none, none, none, none, none, none], [.int (zI 1), .ref 143], es1)) i_267_19 (by rfl) ?_
    refine x0 (r := (24, [some (.ref 143), some (.int (zI i)), some (.int (zI wd)), some (.int (zI be)), none, none, none, none, none, none, none, none], [.int (zI 1), .ref 143], es1)) i_267_20 rfl ?_
    refine x0 (r := (25, [some (.ref 143), some (.int (zI i)), some (.int (zI wd)), some (.int (zI be)), none, none, none, none, none, none, none, none], [.int (zI 1), .int (zI 1), .ref 143], es1)) i_267_24 (by rfl) ?_
    refine x_call (vs := [.ref 143, .int (zI 1), .int (zI 1)]) (rs := []) i_267_25 rfl (fun _ => rfl) rfl rfl rfl rfl rfl (pCall_v (p := 79) hs_es1 rfl rfl rfl rfl rfl (by decide) rfl rfl rfl rfl rfl) ?_
    show aW _ _ _ _ _ _ (0, [some (.ref 143), some (.int (zI 1)), some (.int (zI 1))], [], es1)
    refine x0 (r := (1, [some (.ref 143), some (.int (zI 1)), some (.int (zI 1))], [.int (zI 1)], es1)) i_194_0 rfl ?_
    refine x_ifF i_194_1 (by unfold i32 iLO iHI; omega) rfl (by simp only [zC, cR]; omega) ?_
    refine x0 (r := (5, [some (.ref 143), some (.int (zI 1)), some (.int (zI 1))], [.ref 143], es1)) i_194_4 rfl ?_
    refine x0 (r := (6, [some (.ref 143), some (.int (zI 1)), some (.int (zI 1))], [.int (zI 1), .ref 143], es1)) i_194_5 rfl ?_
    refine x_puti (p := 79) (ty := .int) i_194_6 hs_es1 rfl rfl rfl (Or.inl rfl) ?_
    obtain ⟨es3, e_es3⟩ : ∃ z : PH, z = sI es1 79 0 (.int (zI 1)) := ⟨_, rfl⟩
    have hs_es3 : sh es3 := by rw [e_es3]; exact sh_sI hs_es1 (p := 79) (b := 0) rfl rfl
    have hT_es3 : hOK tT es3 := by rw [e_es3]; exact hOK_sI hT_es1 (p := 79) (b := 0) (lo := iLO) (hi := iHI) rfl rfl (i32_rng _)
    rw [← e_es3]
    refine x0 (r := (10, [some (.ref 143), some (.int (zI 1)), some (.int (zI 1))], [.int (zI 1)], es3)) i_194_9 rfl ?_
    refine x_ret (v := some (.int (zI 1))) i_194_10 rfl (fun _ => rfl) rfl rfl (pFin_b (by omega)) ?_
    show aW _ _ _ _ _ _ (28, [some (.ref 143), some (.int (zI i)), some (.int (zI wd)), some (.int (zI be)), none, none, none, none, none, none, none, none], [.int (zI 1)], es3)
    refine x_ifF i_267_28 (by unfold i32 iLO iHI; omega) rfl (by simp only [zC, cR]; omega) ?_
    refine x0 (r := (32, [some (.ref 143), some (.int (zI i)), some (.int (zI wd)), some (.int (zI be)), none, none, none, none, none, none, none, none], [.long (Int64.ofNat 0)], es3)) i_267_31 rfl ?_
    refine x_ret (v := some (.long (Int64.ofNat 0))) i_267_32 rfl (fun _ => rfl) rfl rfl rfl ?_
    exact K1 es1 e_es1 c2 es3 e_es3
  · refine x_ifF i_267_7 (by unfold i32 iLO iHI; omega) rfl (by simp only [zC, cR]; omega) ?_
    refine x0 (r := (11, [some (.ref 143), some (.int (zI i)), some (.int (zI wd)), some (.int (zI be)), none, none, none, none, none, none, none, none], [.int (zI wd), .ref 143], es1)) i_267_10 rfl ?_
    refine x0 (r := (12, [some (.ref 143), some (.int (zI i)), some (.int (zI wd)), some (.int (zI be)), none, none, none, none, none, none, none, none], [.int (zI 0), .int (zI wd), .ref 143], es1)) i_267_11 (by rfl) ?_
    refine x0 (r := (13, [some (.ref 143), some (.int (zI i)), some (.int (zI wd)), some (.int (zI be)), none, none, none, none, none, none, none, none], [.int (zI 2), .int (zI 0), .int (zI wd), .ref 143], es1)) i_267_12 (by rfl) ?_
    refine x_call (vs := [.int (zI wd), .int (zI 0), .int (zI 2)]) (rs := [.ref 143]) i_267_13 rfl (fun _ => rfl) rfl rfl rfl rfl rfl rfl ?_
    show aW _ _ _ _ _ _ (0, [some (.int (zI wd)), some (.int (zI 0)), some (.int (zI 2))], [], es1)
    refine x0 (r := (1, [some (.int (zI wd)), some (.int (zI 0)), some (.int (zI 2))], [.int (zI wd)], es1)) i_193_0 rfl ?_
    refine x0 (r := (2, [some (.int (zI wd)), some (.int (zI 0)), some (.int (zI 2))], [.int (zI 0), .int (zI wd)], es1)) i_193_1 rfl ?_
    by_cases c4 : wd < 0
    · refine x_cmpT i_193_2 (by unfold i32 iLO iHI; omega) (by unfold i32 iLO iHI; omega) rfl (by simp only [zC, cR]; omega) ?_
      refine x0 (r := (15, [some (.int (zI wd)), some (.int (zI 0)), some (.int (zI 2))], [.int (zI 0)], es1)) i_193_14 (by rfl) ?_
      refine x_ret (v := some (.int (zI 0))) i_193_15 rfl (fun _ => rfl) rfl rfl (pFin_b (by omega)) ?_
      show aW _ _ _ _ _ _ (16, [some (.ref 143), some (.int (zI i)), some (.int (zI wd)), some (.int (zI be)), none, none, none, none, none, none, none, none], [.int (zI 0), .ref 143], es1)
      refine x_ifF i_267_16 (by unfold i32 iLO iHI; omega) rfl (by simp only [zC, cR]; omega) ?_
      refine x0 (r := (20, [some (.ref 143), some (.int (zI i)), some (.int (zI wd)), some (.int (zI be)), none, none, none, none, none, none, none, none], [.int (zI 1), .ref 143], es1)) i_267_19 (by rfl) ?_
      refine x0 (r := (24, [some (.ref 143), some (.int (zI i)), some (.int (zI wd)), some (.int (zI be)), none, none, none, none, none, none, none, none], [.int (zI 1), .ref 143], es1)) i_267_20 rfl ?_
      refine x0 (r := (25, [some (.ref 143), some (.int (zI i)), some (.int (zI wd)), some (.int (zI be)), none, none, none, none, none, none, none, none], [.int (zI 1), .int (zI 1), .ref 143], es1)) i_267_24 (by rfl) ?_
      refine x_call (vs := [.ref 143, .int (zI 1), .int (zI 1)]) (rs := []) i_267_25 rfl (fun _ => rfl) rfl rfl rfl rfl rfl (pCall_v (p := 79) hs_es1 rfl rfl rfl rfl rfl (by decide) rfl rfl rfl rfl rfl) ?_
      show aW _ _ _ _ _ _ (0, [some (.ref 143), some (.int (zI 1)), some (.int (zI 1))], [], es1)
      refine x0 (r := (1, [some (.ref 143), some (.int (zI 1)), some (.int (zI 1))], [.int (zI 1)], es1)) i_194_0 rfl ?_
      refine x_ifF i_194_1 (by unfold i32 iLO iHI; omega) rfl (by simp only [zC, cR]; omega) ?_
      refine x0 (r := (5, [some (.ref 143), some (.int (zI 1)), some (.int (zI 1))], [.ref 143], es1)) i_194_4 rfl ?_
      refine x0 (r := (6, [some (.ref 143), some (.int (zI 1)), some (.int (zI 1))], [.int (zI 1), .ref 143], es1)) i_194_5 rfl ?_
      refine x_puti (p := 79) (ty := .int) i_194_6 hs_es1 rfl rfl rfl (Or.inl rfl) ?_
      obtain ⟨es5, e_es5⟩ : ∃ z : PH, z = sI es1 79 0 (.int (zI 1)) := ⟨_, rfl⟩
      have hs_es5 : sh es5 := by rw [e_es5]; exact sh_sI hs_es1 (p := 79) (b := 0) rfl rfl
      have hT_es5 : hOK tT es5 := by rw [e_es5]; exact hOK_sI hT_es1 (p := 79) (b := 0) (lo := iLO) (hi := iHI) rfl rfl (i32_rng _)
      rw [← e_es5]
      refine x0 (r := (10, [some (.ref 143), some (.int (zI 1)), some (.int (zI 1))], [.int (zI 1)], es5)) i_194_9 rfl ?_
      refine x_ret (v := some (.int (zI 1))) i_194_10 rfl (fun _ => rfl) rfl rfl (pFin_b (by omega)) ?_
      show aW _ _ _ _ _ _ (28, [some (.ref 143), some (.int (zI i)), some (.int (zI wd)), some (.int (zI be)), none, none, none, none, none, none, none, none], [.int (zI 1)], es5)
      refine x_ifF i_267_28 (by unfold i32 iLO iHI; omega) rfl (by simp only [zC, cR]; omega) ?_
      refine x0 (r := (32, [some (.ref 143), some (.int (zI i)), some (.int (zI wd)), some (.int (zI be)), none, none, none, none, none, none, none, none], [.long (Int64.ofNat 0)], es5)) i_267_31 rfl ?_
      refine x_ret (v := some (.long (Int64.ofNat 0))) i_267_32 rfl (fun _ => rfl) rfl rfl rfl ?_
      exact K2 es1 e_es1 c2 c4 es5 e_es5
    · refine x_cmpF i_193_2 (by unfold i32 iLO iHI; omega) (by unfold i32 iLO iHI; omega) rfl (by simp only [zC, cR]; omega) ?_
      refine x0 (r := (6, [some (.int (zI wd)), some (.int (zI 0)), some (.int (zI 2))], [.int (zI wd)], es1)) i_193_5 rfl ?_
      refine x0 (r := (7, [some (.int (zI wd)), some (.int (zI 0)), some (.int (zI 2))], [.int (zI 2), .int (zI wd)], es1)) i_193_6 rfl ?_
      by_cases c6 : 2 < wd
      · refine x_cmpT i_193_7 (by unfold i32 iLO iHI; omega) (by unfold i32 iLO iHI; omega) rfl (by simp only [zC, cR]; omega) ?_
        refine x0 (r := (15, [some (.int (zI wd)), some (.int (zI 0)), some (.int (zI 2))], [.int (zI 0)], es1)) i_193_14 (by rfl) ?_
        refine x_ret (v := some (.int (zI 0))) i_193_15 rfl (fun _ => rfl) rfl rfl (pFin_b (by omega)) ?_
        show aW _ _ _ _ _ _ (16, [some (.ref 143), some (.int (zI i)), some (.int (zI wd)), some (.int (zI be)), none, none, none, none, none, none, none, none], [.int (zI 0), .ref 143], es1)
        refine x_ifF i_267_16 (by unfold i32 iLO iHI; omega) rfl (by simp only [zC, cR]; omega) ?_
        refine x0 (r := (20, [some (.ref 143), some (.int (zI i)), some (.int (zI wd)), some (.int (zI be)), none, none, none, none, none, none, none, none], [.int (zI 1), .ref 143], es1)) i_267_19 (by rfl) ?_
        refine x0 (r := (24, [some (.ref 143), some (.int (zI i)), some (.int (zI wd)), some (.int (zI be)), none, none, none, none, none, none, none, none], [.int (zI 1), .ref 143], es1)) i_267_20 rfl ?_
        refine x0 (r := (25, [some (.ref 143), some (.int (zI i)), some (.int (zI wd)), some (.int (zI be)), none, none, none, none, none, none, none, none], [.int (zI 1), .int (zI 1), .ref 143], es1)) i_267_24 (by rfl) ?_
        refine x_call (vs := [.ref 143, .int (zI 1), .int (zI 1)]) (rs := []) i_267_25 rfl (fun _ => rfl) rfl rfl rfl rfl rfl (pCall_v (p := 79) hs_es1 rfl rfl rfl rfl rfl (by decide) rfl rfl rfl rfl rfl) ?_
        show aW _ _ _ _ _ _ (0, [some (.ref 143), some (.int (zI 1)), some (.int (zI 1))], [], es1)
        refine x0 (r := (1, [some (.ref 143), some (.int (zI 1)), some (.int (zI 1))], [.int (zI 1)], es1)) i_194_0 rfl ?_
        refine x_ifF i_194_1 (by unfold i32 iLO iHI; omega) rfl (by simp only [zC, cR]; omega) ?_
        refine x0 (r := (5, [some (.ref 143), some (.int (zI 1)), some (.int (zI 1))], [.ref 143], es1)) i_194_4 rfl ?_
        refine x0 (r := (6, [some (.ref 143), some (.int (zI 1)), some (.int (zI 1))], [.int (zI 1), .ref 143], es1)) i_194_5 rfl ?_
        refine x_puti (p := 79) (ty := .int) i_194_6 hs_es1 rfl rfl rfl (Or.inl rfl) ?_
        obtain ⟨es7, e_es7⟩ : ∃ z : PH, z = sI es1 79 0 (.int (zI 1)) := ⟨_, rfl⟩
        have hs_es7 : sh es7 := by rw [e_es7]; exact sh_sI hs_es1 (p := 79) (b := 0) rfl rfl
        have hT_es7 : hOK tT es7 := by rw [e_es7]; exact hOK_sI hT_es1 (p := 79) (b := 0) (lo := iLO) (hi := iHI) rfl rfl (i32_rng _)
        rw [← e_es7]
        refine x0 (r := (10, [some (.ref 143), some (.int (zI 1)), some (.int (zI 1))], [.int (zI 1)], es7)) i_194_9 rfl ?_
        refine x_ret (v := some (.int (zI 1))) i_194_10 rfl (fun _ => rfl) rfl rfl (pFin_b (by omega)) ?_
        show aW _ _ _ _ _ _ (28, [some (.ref 143), some (.int (zI i)), some (.int (zI wd)), some (.int (zI be)), none, none, none, none, none, none, none, none], [.int (zI 1)], es7)
        refine x_ifF i_267_28 (by unfold i32 iLO iHI; omega) rfl (by simp only [zC, cR]; omega) ?_
        refine x0 (r := (32, [some (.ref 143), some (.int (zI i)), some (.int (zI wd)), some (.int (zI be)), none, none, none, none, none, none, none, none], [.long (Int64.ofNat 0)], es7)) i_267_31 rfl ?_
        refine x_ret (v := some (.long (Int64.ofNat 0))) i_267_32 rfl (fun _ => rfl) rfl rfl rfl ?_
        exact K3 es1 e_es1 c2 c4 c6 es7 e_es7
      · refine x_cmpF i_193_7 (by unfold i32 iLO iHI; omega) (by unfold i32 iLO iHI; omega) rfl (by simp only [zC, cR]; omega) ?_
        refine x0 (r := (11, [some (.int (zI wd)), some (.int (zI 0)), some (.int (zI 2))], [.int (zI 1)], es1)) i_193_10 (by rfl) ?_
        refine x0 (r := (15, [some (.int (zI wd)), some (.int (zI 0)), some (.int (zI 2))], [.int (zI 1)], es1)) i_193_11 rfl ?_
        refine x_ret (v := some (.int (zI 1))) i_193_15 rfl (fun _ => rfl) rfl rfl (pFin_b (by omega)) ?_
        show aW _ _ _ _ _ _ (16, [some (.ref 143), some (.int (zI i)), some (.int (zI wd)), some (.int (zI be)), none, none, none, none, none, none, none, none], [.int (zI 1), .ref 143], es1)
        refine x_ifT i_267_16 (by unfold i32 iLO iHI; omega) rfl (by simp only [zC, cR]; omega) ?_
        refine x0 (r := (24, [some (.ref 143), some (.int (zI i)), some (.int (zI wd)), some (.int (zI be)), none, none, none, none, none, none, none, none], [.int (zI 0), .ref 143], es1)) i_267_23 (by rfl) ?_
        refine x0 (r := (25, [some (.ref 143), some (.int (zI i)), some (.int (zI wd)), some (.int (zI be)), none, none, none, none, none, none, none, none], [.int (zI 1), .int (zI 0), .ref 143], es1)) i_267_24 (by rfl) ?_
        refine x_call (vs := [.ref 143, .int (zI 0), .int (zI 1)]) (rs := []) i_267_25 rfl (fun _ => rfl) rfl rfl rfl rfl rfl (pCall_v (p := 79) hs_es1 rfl rfl rfl rfl rfl (by decide) rfl rfl rfl rfl rfl) ?_
        show aW _ _ _ _ _ _ (0, [some (.ref 143), some (.int (zI 0)), some (.int (zI 1))], [], es1)
        refine x0 (r := (1, [some (.ref 143), some (.int (zI 0)), some (.int (zI 1))], [.int (zI 0)], es1)) i_194_0 rfl ?_
        refine x_ifT i_194_1 (by unfold i32 iLO iHI; omega) rfl (by simp only [zC, cR]; omega) ?_
        refine x0 (r := (10, [some (.ref 143), some (.int (zI 0)), some (.int (zI 1))], [.int (zI 0)], es1)) i_194_9 rfl ?_
        refine x_ret (v := some (.int (zI 0))) i_194_10 rfl (fun _ => rfl) rfl rfl (pFin_b (by omega)) ?_
        show aW _ _ _ _ _ _ (28, [some (.ref 143), some (.int (zI i)), some (.int (zI wd)), some (.int (zI be)), none, none, none, none, none, none, none, none], [.int (zI 0)], es1)
        refine x_ifT i_267_28 (by unfold i32 iLO iHI; omega) rfl (by simp only [zC, cR]; omega) ?_
        refine x0 (r := (34, [some (.ref 143), some (.int (zI i)), some (.int (zI wd)), some (.int (zI be)), none, none, none, none, none, none, none, none], [.ref 143], es1)) i_267_33 rfl ?_
        exact K4 es1 e_es1 c2 c4 c6

theorem s_od37 {O : pOut} {d kc ks : Nat} {Q : pRes → Prop} {es : PH} {i wd be v : Int} (hs_es : sh es) (h0 : -2 ≤ v ∧ v ≤ 20) (hi : 0 ≤ i ∧ i ≤ 2147483647) (hL : 0 ≤ (gI es 79 41).toInt ∧ (gI es 79 41).toInt ≤ 30) (hT_es : hOK tT es)
    (K1 : 0 ≤ v → ∀ es2 : PH, es2 = sI es 79 35 (.int (zI i)) → ∀ v3 : Int, v3 = (gI es2 79 41).toInt → v3 ≤ i → ∀ es5 : PH, es5 = sI es2 79 36 (.int (zI (-1))) → aW O d 267 kc ks Q (75, [some (.ref 143), some (.int (zI i)), some (.int (zI wd)), some (.int (zI be)), some (.int (zI v)), none, none, none, none, none, none, none], [], es5))
    (K2 : 0 ≤ v → ∀ es2 : PH, es2 = sI es 79 35 (.int (zI i)) → ∀ v3 : Int, v3 = (gI es2 79 41).toInt → ¬ (v3 ≤ i) → ∀ v6 : Int, v6 = (gA es2 98 i.toNat).toInt → ∀ es7 : PH, es7 = sI es2 79 36 (.int (zI v6)) → aW O d 267 kc ks Q (75, [some (.ref 143), some (.int (zI i)), some (.int (zI wd)), some (.int (zI be)), some (.int (zI v)), none, none, none, none, none, none, none], [], es7))
    (K3 : ¬ (0 ≤ v) → Q (.inl (some (.long ((zI v).toInt64))), es, kc, ks)) :
    aW O d 267 kc ks Q (37, [some (.ref 143), some (.int (zI i)), some (.int (zI wd)), some (.int (zI be)), none, none, none, none, none, none, none, none], [.int (zI v)], es) := by
  refine x0 (r := (39, [some (.ref 143), some (.int (zI i)), some (.int (zI wd)), some (.int (zI be)), some (.int (zI v)), none, none, none, none, none, none, none], [], es)) i_267_37 rfl ?_
  refine x0 (r := (41, [some (.ref 143), some (.int (zI i)), some (.int (zI wd)), some (.int (zI be)), some (.int (zI v)), none, none, none, none, none, none, none], [.int (zI v)], es)) i_267_39 rfl ?_
  by_cases c1 : 0 ≤ v
  · refine x_ifT i_267_41 (by unfold i32 iLO iHI; omega) rfl (by simp only [zC, cR]; omega) ?_
    refine x0 (r := (49, [some (.ref 143), some (.int (zI i)), some (.int (zI wd)), some (.int (zI be)), some (.int (zI v)), none, none, none, none, none, none, none], [.ref 143], es)) i_267_48 rfl ?_
    refine x0 (r := (50, [some (.ref 143), some (.int (zI i)), some (.int (zI wd)), some (.int (zI be)), some (.int (zI v)), none, none, none, none, none, none, none], [.int (zI i), .ref 143], es)) i_267_49 rfl ?_
    refine x_puti (p := 79) (ty := .int) i_267_50 hs_es rfl rfl rfl (Or.inl rfl) ?_
    obtain ⟨es2, e_es2⟩ : ∃ z : PH, z = sI es 79 35 (.int (zI i)) := ⟨_, rfl⟩
    have hs_es2 : sh es2 := by rw [e_es2]; exact sh_sI hs_es (p := 79) (b := 35) rfl rfl
    have hT_es2 : hOK tT es2 := by rw [e_es2]; exact hOK_sI hT_es (p := 79) (b := 35) rfl rfl (by rw [zI_toInt (by unfold i32 iLO iHI; omega)]; exact ⟨by show (0 : Int) ≤ i; omega, by show i ≤ (2147483647 : Int); omega⟩)
    rw [← e_es2]
    refine x0 (r := (54, [some (.ref 143), some (.int (zI i)), some (.int (zI wd)), some (.int (zI be)), some (.int (zI v)), none, none, none, none, none, none, none], [.ref 143], es2)) i_267_53 rfl ?_
    refine x0 (r := (55, [some (.ref 143), some (.int (zI i)), some (.int (zI wd)), some (.int (zI be)), some (.int (zI v)), none, none, none, none, none, none, none], [.int (zI i), .ref 143], es2)) i_267_54 rfl ?_
    refine x0 (r := (56, [some (.ref 143), some (.int (zI i)), some (.int (zI wd)), some (.int (zI be)), some (.int (zI v)), none, none, none, none, none, none, none], [.ref 143, .int (zI i), .ref 143], es2)) i_267_55 rfl ?_
    refine x_geti (p := 79) i_267_56 hs_es2 rfl rfl ?_
    obtain ⟨v3, e_v3⟩ : ∃ z : Int, z = (gI es2 79 41).toInt := ⟨_, rfl⟩
    rw [← e_v3]
    have r_v3 : iLO ≤ v3 ∧ v3 ≤ iHI := by rw [e_v3]; exact i32_rng _
    unfold iLO iHI at r_v3
    have b_v3 : (0 : Int) ≤ v3 ∧ v3 ≤ (30 : Int) := by rw [e_v3]; exact gI_bd hT_es2 (p := 79) (b := 41) rfl rfl
    by_cases c4 : v3 ≤ i
    · refine x_cmpT i_267_59 (by unfold i32 iLO iHI; omega) (by unfold i32 iLO iHI; omega) rfl (by simp only [zC, cR]; omega) ?_
      refine x0 (r := (72, [some (.ref 143), some (.int (zI i)), some (.int (zI wd)), some (.int (zI be)), some (.int (zI v)), none, none, none, none, none, none, none], [.int (zI (-1)), .ref 143], es2)) i_267_71 (by rfl) ?_
      refine x_puti (p := 79) (ty := .int) i_267_72 hs_es2 rfl rfl rfl (Or.inl rfl) ?_
      obtain ⟨es5, e_es5⟩ : ∃ z : PH, z = sI es2 79 36 (.int (zI (-1))) := ⟨_, rfl⟩
      have hs_es5 : sh es5 := by rw [e_es5]; exact sh_sI hs_es2 (p := 79) (b := 36) rfl rfl
      have hT_es5 : hOK tT es5 := by rw [e_es5]; exact hOK_sI hT_es2 (p := 79) (b := 36) (lo := iLO) (hi := iHI) rfl rfl (i32_rng _)
      rw [← e_es5]
      exact K1 c1 es2 e_es2 v3 e_v3 c4 es5 e_es5
    · refine x_cmpF i_267_59 (by unfold i32 iLO iHI; omega) (by unfold i32 iLO iHI; omega) rfl (by simp only [zC, cR]; omega) ?_
      refine x0 (r := (63, [some (.ref 143), some (.int (zI i)), some (.int (zI wd)), some (.int (zI be)), some (.int (zI v)), none, none, none, none, none, none, none], [.ref 143, .ref 143], es2)) i_267_62 rfl ?_
      refine x_getr (p := 79) (k := 162) i_267_63 hs_es2 rfl rfl ?_
      show aW _ _ _ _ _ _ (66, [some (.ref 143), some (.int (zI i)), some (.int (zI wd)), some (.int (zI be)), some (.int (zI v)), none, none, none, none, none, none, none], [.ref 162, .ref 143], es2)
      refine x0 (r := (67, [some (.ref 143), some (.int (zI i)), some (.int (zI wd)), some (.int (zI be)), some (.int (zI v)), none, none, none, none, none, none, none], [.int (zI i), .ref 162, .ref 143], es2)) i_267_66 rfl ?_
      refine x_iald (p := 98) i_267_67 hs_es2 rfl (by unfold i32 iLO iHI; omega) (by omega) (by omega) ?_
      obtain ⟨v6, e_v6⟩ : ∃ z : Int, z = (gA es2 98 i.toNat).toInt := ⟨_, rfl⟩
      rw [← e_v6]
      have r_v6 : iLO ≤ v6 ∧ v6 ≤ iHI := by rw [e_v6]; exact i32_rng _
      unfold iLO iHI at r_v6
      have b_v6 : (0 : Int) ≤ v6 ∧ v6 ≤ (1295 : Int) := by rw [e_v6]; exact gA_bd hT_es2 (p := 98) (k := i.toNat) rfl (by omega) (by decide)
      refine x0 (r := (72, [some (.ref 143), some (.int (zI i)), some (.int (zI wd)), some (.int (zI be)), some (.int (zI v)), none, none, none, none, none, none, none], [.int (zI v6), .ref 143], es2)) i_267_68 rfl ?_
      refine x_puti (p := 79) (ty := .int) i_267_72 hs_es2 rfl rfl rfl (Or.inl rfl) ?_
      obtain ⟨es7, e_es7⟩ : ∃ z : PH, z = sI es2 79 36 (.int (zI v6)) := ⟨_, rfl⟩
      have hs_es7 : sh es7 := by rw [e_es7]; exact sh_sI hs_es2 (p := 79) (b := 36) rfl rfl
      have hT_es7 : hOK tT es7 := by rw [e_es7]; exact hOK_sI hT_es2 (p := 79) (b := 36) (lo := iLO) (hi := iHI) rfl rfl (i32_rng _)
      rw [← e_es7]
      exact K2 c1 es2 e_es2 v3 e_v3 c4 v6 e_v6 es7 e_es7
  · refine x_ifF i_267_41 (by unfold i32 iLO iHI; omega) rfl (by simp only [zC, cR]; omega) ?_
    refine x0 (r := (46, [some (.ref 143), some (.int (zI i)), some (.int (zI wd)), some (.int (zI be)), some (.int (zI v)), none, none, none, none, none, none, none], [.int (zI v)], es)) i_267_44 rfl ?_
    refine x0 (r := (47, [some (.ref 143), some (.int (zI i)), some (.int (zI wd)), some (.int (zI be)), some (.int (zI v)), none, none, none, none, none, none, none], [.long ((zI v).toInt64)], es)) i_267_46 rfl ?_
    refine x_ret (v := some (.long ((zI v).toInt64))) i_267_47 rfl (fun _ => rfl) rfl rfl rfl ?_
    exact K3 c1

theorem s_od75 {O : pOut} {d kc ks : Nat} {Q : pRes → Prop} {es : PH} {i wd be v : Int} (hs_es : sh es) (hv : 0 ≤ v ∧ v ≤ 20) (hw : 0 ≤ wd ∧ wd ≤ 2) (hT_es : hOK tT es)
    (K1 : wd ≠ 0 → aW O d 267 kc ks Q (99, [some (.ref 143), some (.int (zI i)), some (.int (zI wd)), some (.int (zI be)), some (.int (zI v)), some (.int (zI (v + 1))), none, none, none, none, none, none], [], es))
    (K2 : ¬ (wd ≠ 0) → ∀ es2 : PH, es2 = sI es 79 27 (.int (zI 0)) → aW O d 267 kc ks Q (99, [some (.ref 143), some (.int (zI i)), some (.int (zI wd)), some (.int (zI be)), some (.int (zI v)), some (.int (zI v)), none, none, none, none, none, none], [], es2)) :
    aW O d 267 kc ks Q (75, [some (.ref 143), some (.int (zI i)), some (.int (zI wd)), some (.int (zI be)), some (.int (zI v)), none, none, none, none, none, none, none], [], es) := by
  refine x0 (r := (76, [some (.ref 143), some (.int (zI i)), some (.int (zI wd)), some (.int (zI be)), some (.int (zI v)), none, none, none, none, none, none, none], [.int (zI wd)], es)) i_267_75 rfl ?_
  by_cases c1 : wd ≠ 0
  · refine x_ifT i_267_76 (by unfold i32 iLO iHI; omega) rfl (by simp only [zC, cR]; omega) ?_
    refine x0 (r := (85, [some (.ref 143), some (.int (zI i)), some (.int (zI wd)), some (.int (zI be)), some (.int (zI v)), none, none, none, none, none, none, none], [.int (zI wd)], es)) i_267_84 rfl ?_
    refine x_ifT i_267_85 (by unfold i32 iLO iHI; omega) rfl (by simp only [zC, cR]; omega) ?_
    refine x0 (r := (95, [some (.ref 143), some (.int (zI i)), some (.int (zI wd)), some (.int (zI be)), some (.int (zI v)), none, none, none, none, none, none, none], [.int (zI v)], es)) i_267_93 rfl ?_
    refine x0 (r := (96, [some (.ref 143), some (.int (zI i)), some (.int (zI wd)), some (.int (zI be)), some (.int (zI v)), none, none, none, none, none, none, none], [.int (zI 1), .int (zI v)], es)) i_267_95 (by rfl) ?_
    refine x_iadd i_267_96 ?_
    refine x0 (r := (99, [some (.ref 143), some (.int (zI i)), some (.int (zI wd)), some (.int (zI be)), some (.int (zI v)), some (.int (zI (v + 1))), none, none, none, none, none, none], [], es)) i_267_97 rfl ?_
    exact K1 c1
  · refine x_ifF i_267_76 (by unfold i32 iLO iHI; omega) rfl (by simp only [zC, cR]; omega) ?_
    refine x0 (r := (80, [some (.ref 143), some (.int (zI i)), some (.int (zI wd)), some (.int (zI be)), some (.int (zI v)), none, none, none, none, none, none, none], [.ref 143], es)) i_267_79 rfl ?_
    refine x0 (r := (81, [some (.ref 143), some (.int (zI i)), some (.int (zI wd)), some (.int (zI be)), some (.int (zI v)), none, none, none, none, none, none, none], [.int (zI 0), .ref 143], es)) i_267_80 (by rfl) ?_
    refine x_puti (p := 79) (ty := .int) i_267_81 hs_es rfl rfl rfl (Or.inl rfl) ?_
    obtain ⟨es2, e_es2⟩ : ∃ z : PH, z = sI es 79 27 (.int (zI 0)) := ⟨_, rfl⟩
    have hs_es2 : sh es2 := by rw [e_es2]; exact sh_sI hs_es (p := 79) (b := 27) rfl rfl
    have hT_es2 : hOK tT es2 := by rw [e_es2]; exact hOK_sI hT_es (p := 79) (b := 27) (lo := iLO) (hi := iHI) rfl rfl (i32_rng _)
    rw [← e_es2]
    refine x0 (r := (85, [some (.ref 143), some (.int (zI i)), some (.int (zI wd)), some (.int (zI be)), some (.int (zI v)), none, none, none, none, none, none, none], [.int (zI wd)], es2)) i_267_84 rfl ?_
    refine x_ifF i_267_85 (by unfold i32 iLO iHI; omega) rfl (by simp only [zC, cR]; omega) ?_
    refine x0 (r := (90, [some (.ref 143), some (.int (zI i)), some (.int (zI wd)), some (.int (zI be)), some (.int (zI v)), none, none, none, none, none, none, none], [.int (zI v)], es2)) i_267_88 rfl ?_
    refine x0 (r := (97, [some (.ref 143), some (.int (zI i)), some (.int (zI wd)), some (.int (zI be)), some (.int (zI v)), none, none, none, none, none, none, none], [.int (zI v)], es2)) i_267_90 rfl ?_
    refine x0 (r := (99, [some (.ref 143), some (.int (zI i)), some (.int (zI wd)), some (.int (zI be)), some (.int (zI v)), some (.int (zI v)), none, none, none, none, none, none], [], es2)) i_267_97 rfl ?_
    exact K2 c1 es2 e_es2

theorem s_od99 {O : pOut} {d kc ks : Nat} {Q : pRes → Prop} {es : PH} {i wd be v p : Int} (hs_es : sh es) (hv : 0 ≤ v ∧ v ≤ 20) (hw : 0 ≤ wd ∧ wd ≤ 2) (hp : 0 ≤ p ∧ p ≤ 23) (h365 : conOK O gG gInv kc_365) (hI : gInv es) (hq : 0 ≤ (gI es 79 27).toInt ∧ (gI es 79 27).toInt ≤ 8000) (hn : (gI es 79 29).toInt = 0) (hT_es : hOK tT es)
    (K1 : (v + wd) < p → aW O (d + 8) 267 kc ks Q (131, [some (.ref 143), some (.int (zI i)), some (.int (zI wd)), some (.int (zI be)), some (.int (zI v)), some (.int (zI p)), none, none, none, none, none, none], [], es))
    (K2 : ¬ ((v + wd) < p) → ∀ es2 : PH, laP p es es2 → ∀ v3 : Int, v3 = (gI es2 79 29).toInt → v3 = 0 → aW O (d + 8) 267 kc ks Q (99, [some (.ref 143), some (.int (zI i)), some (.int (zI wd)), some (.int (zI be)), some (.int (zI v)), some (.int (zI (p + 1))), none, none, none, none, none, none], [], es2))
    (K3 : ¬ ((v + wd) < p) → ∀ es2 : PH, laP p es es2 → ∀ v3 : Int, v3 = (gI es2 79 29).toInt → ¬ (v3 = 0) → Q (.inl (some (.long (-2))), es2, kc, ks)) :
    aW O (d + 8) 267 kc ks Q (99, [some (.ref 143), some (.int (zI i)), some (.int (zI wd)), some (.int (zI be)), some (.int (zI v)), some (.int (zI p)), none, none, none, none, none, none], [], es) := by
  refine x0 (r := (101, [some (.ref 143), some (.int (zI i)), some (.int (zI wd)), some (.int (zI be)), some (.int (zI v)), some (.int (zI p)), none, none, none, none, none, none], [.int (zI p)], es)) i_267_99 rfl ?_
  refine x0 (r := (103, [some (.ref 143), some (.int (zI i)), some (.int (zI wd)), some (.int (zI be)), some (.int (zI v)), some (.int (zI p)), none, none, none, none, none, none], [.int (zI v), .int (zI p)], es)) i_267_101 rfl ?_
  refine x0 (r := (104, [some (.ref 143), some (.int (zI i)), some (.int (zI wd)), some (.int (zI be)), some (.int (zI v)), some (.int (zI p)), none, none, none, none, none, none], [.int (zI wd), .int (zI v), .int (zI p)], es)) i_267_103 rfl ?_
  refine x_iadd i_267_104 ?_
  by_cases c1 : (v + wd) < p
  · refine x_cmpT i_267_105 (by unfold i32 iLO iHI; omega) (by unfold i32 iLO iHI; omega) rfl (by simp only [zC, cR]; omega) ?_
    exact K1 c1
  · refine x_cmpF i_267_105 (by unfold i32 iLO iHI; omega) (by unfold i32 iLO iHI; omega) rfl (by simp only [zC, cR]; omega) ?_
    refine x0 (r := (109, [some (.ref 143), some (.int (zI i)), some (.int (zI wd)), some (.int (zI be)), some (.int (zI v)), some (.int (zI p)), none, none, none, none, none, none], [.ref 143], es)) i_267_108 rfl ?_
    refine x0 (r := (111, [some (.ref 143), some (.int (zI i)), some (.int (zI wd)), some (.int (zI be)), some (.int (zI v)), some (.int (zI p)), none, none, none, none, none, none], [.int (zI p), .ref 143], es)) i_267_109 rfl ?_
    refine x_call (vs := [.ref 143, .int (zI p)]) (rs := []) i_267_111 rfl (fun _ => rfl) rfl rfl rfl rfl rfl (pCall_v (p := 79) hs_es rfl rfl rfl rfl rfl (by decide) rfl rfl rfl rfl rfl) ?_
    show aW _ _ _ _ _ _ (0, [some (.ref 143), some (.int (zI p)), none, none, none, none], [], es)
    refine laysAll_T hs_es hT_es h365 hI (by omega) hq hn (fun es2 p_es2 => ?_)
    have hs_es2 : sh es2 := p_es2.1
    have hT_es2 : hOK tT es2 := p_es2.2.1
    show aW _ _ _ _ _ _ (114, [some (.ref 143), some (.int (zI i)), some (.int (zI wd)), some (.int (zI be)), some (.int (zI v)), some (.int (zI p)), none, none, none, none, none, none], [], es2)
    refine x0 (r := (115, [some (.ref 143), some (.int (zI i)), some (.int (zI wd)), some (.int (zI be)), some (.int (zI v)), some (.int (zI p)), none, none, none, none, none, none], [.ref 143], es2)) i_267_114 rfl ?_
    refine x_geti (p := 79) i_267_115 hs_es2 rfl rfl ?_
    obtain ⟨v3, e_v3⟩ : ∃ z : Int, z = (gI es2 79 29).toInt := ⟨_, rfl⟩
    rw [← e_v3]
    have r_v3 : iLO ≤ v3 ∧ v3 ≤ iHI := by rw [e_v3]; exact i32_rng _
    unfold iLO iHI at r_v3
    have b_v3 : (0 : Int) ≤ v3 ∧ v3 ≤ (1 : Int) := by rw [e_v3]; exact gI_bd hT_es2 (p := 79) (b := 29) rfl rfl
    by_cases c4 : v3 = 0
    · refine x_ifT i_267_118 (by unfold i32 iLO iHI; omega) rfl (by simp only [zC, cR]; omega) ?_
      refine x_iinc (x := p) i_267_125 rfl (by show 5 < 12; decide) ?_
      show aW _ _ _ _ _ _ (128, [some (.ref 143), some (.int (zI i)), some (.int (zI wd)), some (.int (zI be)), some (.int (zI v)), some (.int (zI (p + 1))), none, none, none, none, none, none], [], es2)
      refine x0 (r := (99, [some (.ref 143), some (.int (zI i)), some (.int (zI wd)), some (.int (zI be)), some (.int (zI v)), some (.int (zI (p + 1))), none, none, none, none, none, none], [], es2)) i_267_128 rfl ?_
      exact K2 c1 es2 p_es2 v3 e_v3 c4
    · refine x_ifF i_267_118 (by unfold i32 iLO iHI; omega) rfl (by simp only [zC, cR]; omega) ?_
      refine x1 (r := (124, [some (.ref 143), some (.int (zI i)), some (.int (zI wd)), some (.int (zI be)), some (.int (zI v)), some (.int (zI p)), none, none, none, none, none, none], [.long (-2)], es2)) i_267_121 rfl (fun _ => rfl) rfl ?_
      refine x_ret (v := some (.long (-2))) i_267_124 rfl (fun _ => rfl) rfl rfl rfl ?_
      exact K3 c1 es2 p_es2 v3 e_v3 c4

theorem s_od131 {O : pOut} {d kc ks : Nat} {Q : pRes → Prop} {es : PH} {i wd be v p : Int} (hs_es : sh es) (hv : 0 ≤ v ∧ v ≤ 20) (hw : 0 ≤ wd ∧ wd ≤ 2) (hT_es : hOK tT es)
    (K1 : ∀ v1 : Int, v1 = (gI es 79 36).toInt → 0 ≤ v1 → aW O d 267 kc ks Q (152, [some (.ref 143), some (.int (zI i)), some (.int (zI wd)), some (.int (zI be)), some (.int (zI v)), some (.long (Int64.ofNat 0)), none, some (.long (Int64.ofNat 0)), none, some (.int (zI v)), none, none], [], es))
    (K2 : ∀ v1 : Int, v1 = (gI es 79 36).toInt → ¬ (0 ≤ v1) → Q (.inl (some (.long (-3))), es, kc, ks)) :
    aW O d 267 kc ks Q (131, [some (.ref 143), some (.int (zI i)), some (.int (zI wd)), some (.int (zI be)), some (.int (zI v)), some (.int (zI p)), none, none, none, none, none, none], [], es) := by
  refine x0 (r := (132, [some (.ref 143), some (.int (zI i)), some (.int (zI wd)), some (.int (zI be)), some (.int (zI v)), some (.int (zI p)), none, none, none, none, none, none], [.ref 143], es)) i_267_131 rfl ?_
  refine x_geti (p := 79) i_267_132 hs_es rfl rfl ?_
  obtain ⟨v1, e_v1⟩ : ∃ z : Int, z = (gI es 79 36).toInt := ⟨_, rfl⟩
  rw [← e_v1]
  have r_v1 : iLO ≤ v1 ∧ v1 ≤ iHI := by rw [e_v1]; exact i32_rng _
  unfold iLO iHI at r_v1
  by_cases c2 : 0 ≤ v1
  · refine x_ifT i_267_135 (by unfold i32 iLO iHI; omega) rfl (by simp only [zC, cR]; omega) ?_
    refine x0 (r := (143, [some (.ref 143), some (.int (zI i)), some (.int (zI wd)), some (.int (zI be)), some (.int (zI v)), some (.int (zI p)), none, none, none, none, none, none], [.long (Int64.ofNat 0)], es)) i_267_142 rfl ?_
    refine x0 (r := (145, [some (.ref 143), some (.int (zI i)), some (.int (zI wd)), some (.int (zI be)), some (.int (zI v)), some (.long (Int64.ofNat 0)), none, none, none, none, none, none], [], es)) i_267_143 rfl ?_
    refine x0 (r := (146, [some (.ref 143), some (.int (zI i)), some (.int (zI wd)), some (.int (zI be)), some (.int (zI v)), some (.long (Int64.ofNat 0)), none, none, none, none, none, none], [.long (Int64.ofNat 0)], es)) i_267_145 rfl ?_
    refine x0 (r := (148, [some (.ref 143), some (.int (zI i)), some (.int (zI wd)), some (.int (zI be)), some (.int (zI v)), some (.long (Int64.ofNat 0)), none, some (.long (Int64.ofNat 0)), none, none, none, none], [], es)) i_267_146 rfl ?_
    refine x0 (r := (150, [some (.ref 143), some (.int (zI i)), some (.int (zI wd)), some (.int (zI be)), some (.int (zI v)), some (.long (Int64.ofNat 0)), none, some (.long (Int64.ofNat 0)), none, none, none, none], [.int (zI v)], es)) i_267_148 rfl ?_
    refine x0 (r := (152, [some (.ref 143), some (.int (zI i)), some (.int (zI wd)), some (.int (zI be)), some (.int (zI v)), some (.long (Int64.ofNat 0)), none, some (.long (Int64.ofNat 0)), none, some (.int (zI v)), none, none], [], es)) i_267_150 rfl ?_
    exact K1 v1 e_v1 c2
  · refine x_ifF i_267_135 (by unfold i32 iLO iHI; omega) rfl (by simp only [zC, cR]; omega) ?_
    refine x1 (r := (141, [some (.ref 143), some (.int (zI i)), some (.int (zI wd)), some (.int (zI be)), some (.int (zI v)), some (.int (zI p)), none, none, none, none, none, none], [.long (-3)], es)) i_267_138 rfl (fun _ => rfl) rfl ?_
    refine x_ret (v := some (.long (-3))) i_267_141 rfl (fun _ => rfl) rfl rfl rfl ?_
    exact K2 v1 e_v1 c2

theorem s_od152 {O : pOut} {d kc ks : Nat} {Q : pRes → Prop} {es : PH} {up dn : Int64} {i wd be v p : Int} {x10 : Option Value} (hs_es : sh es) (hv : 0 ≤ v ∧ v ≤ 20) (hw : 0 ≤ wd ∧ wd ≤ 2) (hp : 0 ≤ p ∧ p ≤ 23) (hT_es : hOK tT es)
    (K1 : (v + wd) < p → aW O d 267 kc ks Q (214, [some (.ref 143), some (.int (zI i)), some (.int (zI wd)), some (.int (zI be)), some (.int (zI v)), some (.long up), none, some (.long dn), none, some (.int (zI p)), x10, none], [.long dn, .long up], es))
    (K2 : ¬ ((v + wd) < p) → ∀ w2 : Int64, w2 = (Int64.ofNat 1) <<< ((zI (2 * ((v + wd) - p))).toInt64 &&& 63) → ∀ w3 : Int64, w3 = gJ es 97 p.toNat → ∀ w4 : Int64, w4 = w2 * w3 → ∀ w5 : Int64, w5 = up + w4 → ∀ w6 : Int64, w6 = gJ es 96 p.toNat → ∀ w7 : Int64, w7 = w2 * w6 → ∀ w8 : Int64, w8 = dn + w7 → aW O d 267 kc ks Q (152, [some (.ref 143), some (.int (zI i)), some (.int (zI wd)), some (.int (zI be)), some (.int (zI v)), some (.long w5), none, some (.long w8), none, some (.int (zI (p + 1))), some (.long w2), none], [], es)) :
    aW O d 267 kc ks Q (152, [some (.ref 143), some (.int (zI i)), some (.int (zI wd)), some (.int (zI be)), some (.int (zI v)), some (.long up), none, some (.long dn), none, some (.int (zI p)), x10, none], [], es) := by
  refine x0 (r := (154, [some (.ref 143), some (.int (zI i)), some (.int (zI wd)), some (.int (zI be)), some (.int (zI v)), some (.long up), none, some (.long dn), none, some (.int (zI p)), x10, none], [.int (zI p)], es)) i_267_152 rfl ?_
  refine x0 (r := (156, [some (.ref 143), some (.int (zI i)), some (.int (zI wd)), some (.int (zI be)), some (.int (zI v)), some (.long up), none, some (.long dn), none, some (.int (zI p)), x10, none], [.int (zI v), .int (zI p)], es)) i_267_154 rfl ?_
  refine x0 (r := (157, [some (.ref 143), some (.int (zI i)), some (.int (zI wd)), some (.int (zI be)), some (.int (zI v)), some (.long up), none, some (.long dn), none, some (.int (zI p)), x10, none], [.int (zI wd), .int (zI v), .int (zI p)], es)) i_267_156 rfl ?_
  refine x_iadd i_267_157 ?_
  by_cases c1 : (v + wd) < p
  · refine x_cmpT i_267_158 (by unfold i32 iLO iHI; omega) (by unfold i32 iLO iHI; omega) rfl (by simp only [zC, cR]; omega) ?_
    refine x0 (r := (212, [some (.ref 143), some (.int (zI i)), some (.int (zI wd)), some (.int (zI be)), some (.int (zI v)), some (.long up), none, some (.long dn), none, some (.int (zI p)), x10, none], [.long up], es)) i_267_210 rfl ?_
    refine x0 (r := (214, [some (.ref 143), some (.int (zI i)), some (.int (zI wd)), some (.int (zI be)), some (.int (zI v)), some (.long up), none, some (.long dn), none, some (.int (zI p)), x10, none], [.long dn, .long up], es)) i_267_212 rfl ?_
    exact K1 c1
  · refine x_cmpF i_267_158 (by unfold i32 iLO iHI; omega) (by unfold i32 iLO iHI; omega) rfl (by simp only [zC, cR]; omega) ?_
    refine x0 (r := (162, [some (.ref 143), some (.int (zI i)), some (.int (zI wd)), some (.int (zI be)), some (.int (zI v)), some (.long up), none, some (.long dn), none, some (.int (zI p)), x10, none], [.long (Int64.ofNat 1)], es)) i_267_161 rfl ?_
    refine x0 (r := (163, [some (.ref 143), some (.int (zI i)), some (.int (zI wd)), some (.int (zI be)), some (.int (zI v)), some (.long up), none, some (.long dn), none, some (.int (zI p)), x10, none], [.int (zI 2), .long (Int64.ofNat 1)], es)) i_267_162 (by rfl) ?_
    refine x0 (r := (165, [some (.ref 143), some (.int (zI i)), some (.int (zI wd)), some (.int (zI be)), some (.int (zI v)), some (.long up), none, some (.long dn), none, some (.int (zI p)), x10, none], [.int (zI v), .int (zI 2), .long (Int64.ofNat 1)], es)) i_267_163 rfl ?_
    refine x0 (r := (166, [some (.ref 143), some (.int (zI i)), some (.int (zI wd)), some (.int (zI be)), some (.int (zI v)), some (.long up), none, some (.long dn), none, some (.int (zI p)), x10, none], [.int (zI wd), .int (zI v), .int (zI 2), .long (Int64.ofNat 1)], es)) i_267_165 rfl ?_
    refine x_iadd i_267_166 ?_
    refine x0 (r := (169, [some (.ref 143), some (.int (zI i)), some (.int (zI wd)), some (.int (zI be)), some (.int (zI v)), some (.long up), none, some (.long dn), none, some (.int (zI p)), x10, none], [.int (zI p), .int (zI (v + wd)), .int (zI 2), .long (Int64.ofNat 1)], es)) i_267_167 rfl ?_
    refine x_isub i_267_169 ?_
    refine x_imul i_267_170 ?_
    refine x0 (r := (172, [some (.ref 143), some (.int (zI i)), some (.int (zI wd)), some (.int (zI be)), some (.int (zI v)), some (.long up), none, some (.long dn), none, some (.int (zI p)), x10, none], [.long ((Int64.ofNat 1) <<< ((zI (2 * ((v + wd) - p))).toInt64 &&& 63))], es)) i_267_171 rfl ?_
    obtain ⟨w2, e_w2⟩ : ∃ z : Int64, z = (Int64.ofNat 1) <<< ((zI (2 * ((v + wd) - p))).toInt64 &&& 63) := ⟨_, rfl⟩
    rw [← e_w2]
    refine x0 (r := (174, [some (.ref 143), some (.int (zI i)), some (.int (zI wd)), some (.int (zI be)), some (.int (zI v)), some (.long up), none, some (.long dn), none, some (.int (zI p)), some (.long w2), none], [], es)) i_267_172 rfl ?_
    refine x0 (r := (176, [some (.ref 143), some (.int (zI i)), some (.int (zI wd)), some (.int (zI be)), some (.int (zI v)), some (.long up), none, some (.long dn), none, some (.int (zI p)), some (.long w2), none], [.long up], es)) i_267_174 rfl ?_
    refine x0 (r := (178, [some (.ref 143), some (.int (zI i)), some (.int (zI wd)), some (.int (zI be)), some (.int (zI v)), some (.long up), none, some (.long dn), none, some (.int (zI p)), some (.long w2), none], [.long w2, .long up], es)) i_267_176 rfl ?_
    refine x0 (r := (179, [some (.ref 143), some (.int (zI i)), some (.int (zI wd)), some (.int (zI be)), some (.int (zI v)), some (.long up), none, some (.long dn), none, some (.int (zI p)), some (.long w2), none], [.ref 143, .long w2, .long up], es)) i_267_178 rfl ?_
    refine x_getr (p := 79) (k := 161) i_267_179 hs_es rfl rfl ?_
    show aW _ _ _ _ _ _ (182, [some (.ref 143), some (.int (zI i)), some (.int (zI wd)), some (.int (zI be)), some (.int (zI v)), some (.long up), none, some (.long dn), none, some (.int (zI p)), some (.long w2), none], [.ref 161, .long w2, .long up], es)
    refine x0 (r := (184, [some (.ref 143), some (.int (zI i)), some (.int (zI wd)), some (.int (zI be)), some (.int (zI v)), some (.long up), none, some (.long dn), none, some (.int (zI p)), some (.long w2), none], [.int (zI p), .ref 161, .long w2, .long up], es)) i_267_182 rfl ?_
    refine x_lald (p := 97) i_267_184 hs_es rfl (by unfold i32 iLO iHI; omega) (by omega) (by omega) ?_
    obtain ⟨w3, e_w3⟩ : ∃ z : Int64, z = gJ es 97 p.toNat := ⟨_, rfl⟩
    rw [← e_w3]
    refine x0 (r := (186, [some (.ref 143), some (.int (zI i)), some (.int (zI wd)), some (.int (zI be)), some (.int (zI v)), some (.long up), none, some (.long dn), none, some (.int (zI p)), some (.long w2), none], [.long (w2 * w3), .long up], es)) i_267_185 rfl ?_
    obtain ⟨w4, e_w4⟩ : ∃ z : Int64, z = w2 * w3 := ⟨_, rfl⟩
    rw [← e_w4]
    refine x0 (r := (187, [some (.ref 143), some (.int (zI i)), some (.int (zI wd)), some (.int (zI be)), some (.int (zI v)), some (.long up), none, some (.long dn), none, some (.int (zI p)), some (.long w2), none], [.long (up + w4)], es)) i_267_186 rfl ?_
    obtain ⟨w5, e_w5⟩ : ∃ z : Int64, z = up + w4 := ⟨_, rfl⟩
    rw [← e_w5]
    refine x0 (r := (189, [some (.ref 143), some (.int (zI i)), some (.int (zI wd)), some (.int (zI be)), some (.int (zI v)), some (.long w5), none, some (.long dn), none, some (.int (zI p)), some (.long w2), none], [], es)) i_267_187 rfl ?_
    refine x0 (r := (191, [some (.ref 143), some (.int (zI i)), some (.int (zI wd)), some (.int (zI be)), some (.int (zI v)), some (.long w5), none, some (.long dn), none, some (.int (zI p)), some (.long w2), none], [.long dn], es)) i_267_189 rfl ?_
    refine x0 (r := (193, [some (.ref 143), some (.int (zI i)), some (.int (zI wd)), some (.int (zI be)), some (.int (zI v)), some (.long w5), none, some (.long dn), none, some (.int (zI p)), some (.long w2), none], [.long w2, .long dn], es)) i_267_191 rfl ?_
    refine x0 (r := (194, [some (.ref 143), some (.int (zI i)), some (.int (zI wd)), some (.int (zI be)), some (.int (zI v)), some (.long w5), none, some (.long dn), none, some (.int (zI p)), some (.long w2), none], [.ref 143, .long w2, .long dn], es)) i_267_193 rfl ?_
    refine x_getr (p := 79) (k := 160) i_267_194 hs_es rfl rfl ?_
    show aW _ _ _ _ _ _ (197, [some (.ref 143), some (.int (zI i)), some (.int (zI wd)), some (.int (zI be)), some (.int (zI v)), some (.long w5), none, some (.long dn), none, some (.int (zI p)), some (.long w2), none], [.ref 160, .long w2, .long dn], es)
    refine x0 (r := (199, [some (.ref 143), some (.int (zI i)), some (.int (zI wd)), some (.int (zI be)), some (.int (zI v)), some (.long w5), none, some (.long dn), none, some (.int (zI p)), some (.long w2), none], [.int (zI p), .ref 160, .long w2, .long dn], es)) i_267_197 rfl ?_
    refine x_lald (p := 96) i_267_199 hs_es rfl (by unfold i32 iLO iHI; omega) (by omega) (by omega) ?_
    obtain ⟨w6, e_w6⟩ : ∃ z : Int64, z = gJ es 96 p.toNat := ⟨_, rfl⟩
    rw [← e_w6]
    refine x0 (r := (201, [some (.ref 143), some (.int (zI i)), some (.int (zI wd)), some (.int (zI be)), some (.int (zI v)), some (.long w5), none, some (.long dn), none, some (.int (zI p)), some (.long w2), none], [.long (w2 * w6), .long dn], es)) i_267_200 rfl ?_
    obtain ⟨w7, e_w7⟩ : ∃ z : Int64, z = w2 * w6 := ⟨_, rfl⟩
    rw [← e_w7]
    refine x0 (r := (202, [some (.ref 143), some (.int (zI i)), some (.int (zI wd)), some (.int (zI be)), some (.int (zI v)), some (.long w5), none, some (.long dn), none, some (.int (zI p)), some (.long w2), none], [.long (dn + w7)], es)) i_267_201 rfl ?_
    obtain ⟨w8, e_w8⟩ : ∃ z : Int64, z = dn + w7 := ⟨_, rfl⟩
    rw [← e_w8]
    refine x0 (r := (204, [some (.ref 143), some (.int (zI i)), some (.int (zI wd)), some (.int (zI be)), some (.int (zI v)), some (.long w5), none, some (.long w8), none, some (.int (zI p)), some (.long w2), none], [], es)) i_267_202 rfl ?_
    refine x_iinc (x := p) i_267_204 rfl (by show 9 < 12; decide) ?_
    show aW _ _ _ _ _ _ (207, [some (.ref 143), some (.int (zI i)), some (.int (zI wd)), some (.int (zI be)), some (.int (zI v)), some (.long w5), none, some (.long w8), none, some (.int (zI (p + 1))), some (.long w2), none], [], es)
    refine x0 (r := (152, [some (.ref 143), some (.int (zI i)), some (.int (zI wd)), some (.int (zI be)), some (.int (zI v)), some (.long w5), none, some (.long w8), none, some (.int (zI (p + 1))), some (.long w2), none], [], es)) i_267_207 rfl ?_
    exact K2 c1 w2 e_w2 w3 e_w3 w4 e_w4 w5 e_w5 w6 e_w6 w7 e_w7 w8 e_w8

theorem s_od217 {O : pOut} {d kc ks : Nat} {Q : pRes → Prop} {es : PH} {up dn g : Int64} {i wd be v p : Int} {x10 : Option Value} (hs_es : sh es) (hT_es : hOK tT es)
    (K1 : aW O d 267 kc ks Q (219, [some (.ref 143), some (.int (zI i)), some (.int (zI wd)), some (.int (zI be)), some (.int (zI v)), some (.long up), none, some (.long dn), none, some (.long g), none, none], [], es)) :
    aW O d 267 kc ks Q (217, [some (.ref 143), some (.int (zI i)), some (.int (zI wd)), some (.int (zI be)), some (.int (zI v)), some (.long up), none, some (.long dn), none, some (.int (zI p)), x10, none], [.long g], es) := by
  refine x0 (r := (219, [some (.ref 143), some (.int (zI i)), some (.int (zI wd)), some (.int (zI be)), some (.int (zI v)), some (.long up), none, some (.long dn), none, some (.long g), none, none], [], es)) i_267_217 rfl ?_
  exact K1
/-! odds -/
theorem bm64 {z : Int} (h1 : lLO ≤ z) (h2 : z ≤ lHI) : z.bmod 18446744073709551616 = z := by
  unfold lLO at h1; unfold lHI at h2
  rw [Int.bmod_def]; split <;> omega
theorem i64_rem {x y : Int64} (hy : 0 < y.toInt) : (x - x / y * y).toInt = x.toInt.tmod y.toInt := by
  have h1 := i64_rng x
  have h0 := i64_rng y
  have hd : (x / y).toInt = x.toInt.tdiv y.toInt := by
    rw [Int64.toInt_div]
    have h2 := tdiv_within (a := x.toInt) hy
    refine bm64 ?_ ?_ <;> (rcases Int.le_total 0 x.toInt with h | h) <;> (first | have h3 := h2.1 h | have h3 := h2.2 h) <;> (unfold lLO lHI at *; omega)
  have h3 : (x / y * y).toInt = (x.toInt.tdiv y.toInt * y.toInt).bmod 18446744073709551616 := by rw [Int64.toInt_mul, hd]
  have h4 : x.toInt.tmod y.toInt = x.toInt - y.toInt * x.toInt.tdiv y.toInt := Int.tmod_def _ _
  have h5 : x.toInt.tmod y.toInt < y.toInt := Int.tmod_lt_of_pos _ hy
  have h6 : -y.toInt < x.toInt.tmod y.toInt := by
    have := Int.tmod_lt_of_pos (-x.toInt) hy
    rw [Int.neg_tmod] at this; omega
  have h8 : 0 ≤ x.toInt → 0 ≤ x.toInt.tmod y.toInt := fun h => Int.tmod_nonneg _ h
  have h9 : x.toInt ≤ 0 → x.toInt.tmod y.toInt ≤ 0 := fun h => by
    have := Int.tmod_nonneg y.toInt (show 0 ≤ -x.toInt by omega)
    rw [Int.neg_tmod] at this; omega
  have h10 : x.toInt.tdiv y.toInt * y.toInt = x.toInt - x.toInt.tmod y.toInt := by rw [h4, Int.mul_comm]; omega
  have h11 : (x / y * y).toInt = x.toInt - x.toInt.tmod y.toInt := by
    rw [h3, h10]
    refine bm64 ?_ ?_ <;> (unfold lLO lHI at *; rcases Int.le_total 0 x.toInt with h | h)
    · have := h8 h; omega
    · have := h9 h; omega
    · have := h8 h; omega
    · have := h9 h; omega
  rw [Int64.toInt_sub, h11]
  have : x.toInt - (x.toInt - x.toInt.tmod y.toInt) = x.toInt.tmod y.toInt := by omega
  rw [this]
  refine bm64 ?_ ?_ <;> (unfold lLO lHI at *; omega)
theorem odd_w : ∀ s : Int, 0 ≤ s → s ≤ 2 → (Int64.ofNat 1 <<< ((zI (2 * s)).toInt64 &&& 63)).toInt = 1 ∨ (Int64.ofNat 1 <<< ((zI (2 * s)).toInt64 &&& 63)).toInt = 4 ∨ (Int64.ofNat 1 <<< ((zI (2 * s)).toInt64 &&& 63)).toInt = 16 := by
  intro s h0 h1
  have : s = 0 ∨ s = 1 ∨ s = 2 := by omega
  rcases this with rfl | rfl | rfl <;> decide
theorem odd_step {w m dn : Int64} {k : Int} (hw : w.toInt = 1 ∨ w.toInt = 4 ∨ w.toInt = 16) (hm : 0 ≤ m.toInt ∧ m.toInt ≤ 8001) (hd : 0 ≤ dn.toInt ∧ dn.toInt ≤ 200000 * k) (hk : 0 ≤ k ∧ k ≤ 3) : (dn + w * m).toInt = dn.toInt + w.toInt * m.toInt ∧ 0 ≤ w.toInt * m.toInt ∧ w.toInt * m.toInt ≤ 200000 ∧ (0 < m.toInt → 0 < w.toInt * m.toInt) := by
  have h1 : 0 ≤ w.toInt * m.toInt ∧ w.toInt * m.toInt ≤ 200000 ∧ (0 < m.toInt → 0 < w.toInt * m.toInt) := by
    rcases hw with h | h | h <;> rw [h] <;> omega
  have h2 : (w * m).toInt = w.toInt * m.toInt := by
    rw [Int64.toInt_mul]
    exact bm64 (by unfold lLO; omega) (by unfold lHI; omega)
  refine ⟨?_, h1⟩
  rw [Int64.toInt_add, h2]
  exact bm64 (by unfold lLO; omega) (by unfold lHI; omega)
section
variable {O : pOut} {d kc ks : Nat} {Q : pRes → Prop} {es : PH}
/-- the common part of two, the one of them above 0: it is not 0 -/
theorem rcommon_loop {u v : Int64} (K : ∀ z : Int64, 0 < z.toInt → Q (.inl (some (.long z)), es, kc, ks)) : ∀ (N : Nat) (x y : Int64) (x8 : Option Value), y.toInt.toNat < N → (0 < y.toInt ∨ 0 < x.toInt) →
    aW O d 268 kc ks Q (6, [some (.long u), none, some (.long v), none, some (.long x), none, some (.long y), none, x8, none], [], es) := by
  intro N
  induction N with
  | zero => intro x y x8 h; omega
  | succ N ih =>
    intro x y x8 hN hxy
    refine x0 (r := (8, [some (.long u), none, some (.long v), none, some (.long x), none, some (.long y), none, x8, none], [.long y], es)) i_268_6 rfl ?_
    refine x0 (r := (9, [some (.long u), none, some (.long v), none, some (.long x), none, some (.long y), none, x8, none], [.long 0, .long y], es)) i_268_8 rfl ?_
    refine x0 (r := (10, [some (.long u), none, some (.long v), none, some (.long x), none, some (.long y), none, x8, none], [.int (lg_cmp y 0)], es)) i_268_9 rfl ?_
    have hc : (lg_cmp y 0).toInt ≤ 0 ↔ y.toInt ≤ 0 := by
      rw [lg_cmp_sgn]
      have h9 : (0 : Int64).toInt = 0 := rfl
      unfold sgn
      rw [h9]
      split
      · omega
      · split <;> omega
    have hr := i32_rng (lg_cmp y 0)
    rw [← zI_id (lg_cmp y 0)]
    by_cases hy : y.toInt ≤ 0
    · have hc' := hc.mpr hy
      refine x_ifT i_268_10 hr rfl (by simp only [zC, cR]; omega) ?_
      refine x0 (r := (33, [some (.long u), none, some (.long v), none, some (.long x), none, some (.long y), none, x8, none], [.long x], es)) i_268_31 rfl ?_
      exact x_ret (v := some (.long x)) i_268_33 rfl (fun _ => rfl) rfl rfl rfl (K x (by omega))
    · have hc' : ¬ (lg_cmp y 0).toInt ≤ 0 := fun h => hy (hc.mp h)
      have hy0 : ¬ y = 0 := i64_ne0 (by omega)
      refine x_ifF i_268_10 hr rfl (by simp only [zC, cR]; omega) ?_
      refine x0 (r := (15, [some (.long u), none, some (.long v), none, some (.long x), none, some (.long y), none, x8, none], [.long x], es)) i_268_13 rfl ?_
      refine x0 (r := (17, [some (.long u), none, some (.long v), none, some (.long x), none, some (.long y), none, x8, none], [.long y, .long x], es)) i_268_15 rfl ?_
      refine x0 (r := (18, [some (.long u), none, some (.long v), none, some (.long x), none, some (.long y), none, x8, none], [.long (x - x / y * y)], es)) i_268_17 (by simp only [pS0, pBinL, hy0, if_false]) ?_
      refine x0 (r := (20, [some (.long u), none, some (.long v), none, some (.long x), none, some (.long y), none, some (.long (x - x / y * y)), none], [], es)) i_268_18 rfl ?_
      refine x0 (r := (22, [some (.long u), none, some (.long v), none, some (.long x), none, some (.long y), none, some (.long (x - x / y * y)), none], [.long y], es)) i_268_20 rfl ?_
      refine x0 (r := (24, [some (.long u), none, some (.long v), none, some (.long y), none, some (.long y), none, some (.long (x - x / y * y)), none], [], es)) i_268_22 rfl ?_
      refine x0 (r := (26, [some (.long u), none, some (.long v), none, some (.long y), none, some (.long y), none, some (.long (x - x / y * y)), none], [.long (x - x / y * y)], es)) i_268_24 rfl ?_
      refine x0 (r := (28, [some (.long u), none, some (.long v), none, some (.long y), none, some (.long (x - x / y * y)), none, some (.long (x - x / y * y)), none], [], es)) i_268_26 rfl ?_
      refine x0 (r := (6, [some (.long u), none, some (.long v), none, some (.long y), none, some (.long (x - x / y * y)), none, some (.long (x - x / y * y)), none], [], es)) i_268_28 rfl ?_
      refine ih y (x - x / y * y) _ ?_ (Or.inr (by omega))
      rw [i64_rem (by omega)]
      have := Int.tmod_lt_of_pos x.toInt (show 0 < y.toInt by omega)
      omega
theorem rcommon_spec {u v : Int64} (hv : 0 < v.toInt) (K : ∀ z : Int64, 0 < z.toInt → Q (.inl (some (.long z)), es, kc, ks)) : aW O d 268 kc ks Q (0, [some (.long u), none, some (.long v), none, none, none, none, none, none, none], [], es) := by
  refine x0 (r := (1, [some (.long u), none, some (.long v), none, none, none, none, none, none, none], [.long u], es)) i_268_0 rfl ?_
  refine x0 (r := (3, [some (.long u), none, some (.long v), none, some (.long u), none, none, none, none, none], [], es)) i_268_1 rfl ?_
  refine x0 (r := (4, [some (.long u), none, some (.long v), none, some (.long u), none, none, none, none, none], [.long v], es)) i_268_3 rfl ?_
  refine x0 (r := (6, [some (.long u), none, some (.long v), none, some (.long u), none, some (.long v), none, none, none], [], es)) i_268_4 rfl ?_
  exact rcommon_loop K (v.toInt.toNat + 1) u v none (Nat.lt_succ_self _) (Or.inl hv)
/-- the last part: over many and with -/
def mnyOK (es : PH) (v : Int) : Prop := 0 < (gJ es 96 v.toNat).toInt ∧ ∀ k, k < 24 → 0 ≤ (gJ es 96 k).toInt ∧ (gJ es 96 k).toInt ≤ 8001
theorem od_152 {i wd be v : Int} (hT : hOK tT es) (hv : 0 ≤ v ∧ v ≤ 20) (hw : 0 ≤ wd ∧ wd ≤ 2) (hbe : i32 be) (hM : mnyOK es v) (K : ∀ x : Int64, Q (.inl (some (.long x)), es, kc, ks)) : ∀ (j : Nat) (p : Int) (up dn : Int64) (x10 : Option Value), p + j = v + wd + 1 → v ≤ p → (0 ≤ dn.toInt ∧ dn.toInt ≤ 200000 * (p - v)) → (v < p → 0 < dn.toInt) →
    aW O (d + 1) 267 kc ks Q (152, [some (.ref 143), some (.int (zI i)), some (.int (zI wd)), some (.int (zI be)), some (.int (zI v)), some (.long up), none, some (.long dn), none, some (.int (zI p)), x10, none], [], es) := by
  have hs := sh_of hT
  intro j
  induction j with
  | zero =>
    intro p up dn x10 hp hvp hd h0
    refine s_od152 (d := d + 1) hs hv hw ⟨by omega, by omega⟩ hT (fun _ => ?_) (fun h => by omega)
    have hdn := h0 (by omega)
    refine x_call (vs := [.long up, .long dn]) (rs := []) i_267_214 rfl (fun _ => rfl) rfl rfl rfl rfl rfl rfl ?_
    show aW _ _ _ _ _ _ (0, [some (.long up), none, some (.long dn), none, none, none, none, none, none, none], [], es)
    refine rcommon_spec hdn (fun z hz => ?_)
    show aW _ _ _ _ _ _ (217, [some (.ref 143), some (.int (zI i)), some (.int (zI wd)), some (.int (zI be)), some (.int (zI v)), some (.long up), none, some (.long dn), none, some (.int (zI p)), x10, none], [.long z], es)
    have hz0 : ¬ z = 0 := i64_ne0 hz
    refine s_od217 (d := d + 1) hs hT ?_
    refine x0 (r := (220, [some (.ref 143), some (.int (zI i)), some (.int (zI wd)), some (.int (zI be)), some (.int (zI v)), some (.long up), none, some (.long dn), none, some (.long z), none, none], [.int (zI be)], es)) i_267_219 rfl ?_
    by_cases hb0 : be = 0
    · refine x_ifT i_267_220 hbe rfl (by simp only [zC, cR]; omega) ?_
      refine x0 (r := (233, [some (.ref 143), some (.int (zI i)), some (.int (zI wd)), some (.int (zI be)), some (.int (zI v)), some (.long up), none, some (.long dn), none, some (.long z), none, none], [.long up], es)) i_267_231 rfl ?_
      refine x0 (r := (235, [some (.ref 143), some (.int (zI i)), some (.int (zI wd)), some (.int (zI be)), some (.int (zI v)), some (.long up), none, some (.long dn), none, some (.long z), none, none], [.long z, .long up], es)) i_267_233 rfl ?_
      refine x0 (r := (236, [some (.ref 143), some (.int (zI i)), some (.int (zI wd)), some (.int (zI be)), some (.int (zI v)), some (.long up), none, some (.long dn), none, some (.long z), none, none], [.long (up / z)], es)) i_267_235 (by simp only [pS0, pBinL, hz0, if_false]) ?_
      exact x_ret (v := some (.long (up / z))) i_267_236 rfl (fun _ => rfl) rfl rfl rfl (K _)
    · refine x_ifF i_267_220 hbe rfl (by simp only [zC, cR]; omega) ?_
      refine x0 (r := (225, [some (.ref 143), some (.int (zI i)), some (.int (zI wd)), some (.int (zI be)), some (.int (zI v)), some (.long up), none, some (.long dn), none, some (.long z), none, none], [.long dn], es)) i_267_223 rfl ?_
      refine x0 (r := (227, [some (.ref 143), some (.int (zI i)), some (.int (zI wd)), some (.int (zI be)), some (.int (zI v)), some (.long up), none, some (.long dn), none, some (.long z), none, none], [.long z, .long dn], es)) i_267_225 rfl ?_
      refine x0 (r := (228, [some (.ref 143), some (.int (zI i)), some (.int (zI wd)), some (.int (zI be)), some (.int (zI v)), some (.long up), none, some (.long dn), none, some (.long z), none, none], [.long (dn / z)], es)) i_267_227 (by simp only [pS0, pBinL, hz0, if_false]) ?_
      refine x0 (r := (236, [some (.ref 143), some (.int (zI i)), some (.int (zI wd)), some (.int (zI be)), some (.int (zI v)), some (.long up), none, some (.long dn), none, some (.long z), none, none], [.long (dn / z)], es)) i_267_228 rfl ?_
      exact x_ret (v := some (.long (dn / z))) i_267_236 rfl (fun _ => rfl) rfl rfl rfl (K _)
  | succ j ih =>
    intro p up dn x10 hp hvp hd h0
    refine s_od152 (d := d + 1) hs hv hw ⟨by omega, by omega⟩ hT (fun h => by omega) (fun _ w2 e2 w3 e3 w4 e4 w5 e5 w6 e6 w7 e7 w8 e8 => ?_)
    have hw2 : w2.toInt = 1 ∨ w2.toInt = 4 ∨ w2.toInt = 16 := by rw [e2]; exact odd_w _ (by omega) (by omega)
    have hm6 : 0 ≤ w6.toInt ∧ w6.toInt ≤ 8001 := by rw [e6]; exact hM.2 _ (by omega)
    obtain ⟨a1, a2, a3, a4⟩ := odd_step hw2 hm6 hd (by omega)
    rw [← e7, ← e8] at a1
    refine ih (p + 1) w5 w8 _ (by omega) (by omega) (by omega) (fun _ => ?_)
    by_cases hpv : p = v
    · have : 0 < w6.toInt := by rw [e6, hpv]; exact hM.1
      have := a4 this
      omega
    · have := h0 (by omega)
      omega
end
def frOd : List aMod := (79, 2, 0, 1) :: (79, 38, 0, 1) :: frAw
theorem accF_nn {ak : Nat → Prop} {f : Nat → Int} : ∀ n, (∀ b, 0 ≤ f b) → 0 ≤ accF ak f n := fun n h => (acc_ge n (fun b _ _ => h b)).1
theorem hm_odds {O : pOut} (h365 : conOK O gG gInv kc_365) : conOK O gG gInv kc_400 := by
  refine ⟨_, rfl, fun d hd ρ vs es hE hC hS hT hI hF => ?_⟩
  obtain ⟨v0, v1, v2, v3, rfl, g0, g1, g2, g3⟩ := gS4' hS
  cases arg_r g0
  obtain ⟨i, rfl, i1, -, -, -⟩ := arg_i hE g1
  obtain ⟨wd, rfl, i2, -, -, -⟩ := arg_i hE g2
  obtain ⟨be, rfl, i3, -, -, -⟩ := arg_i hE g3
  have hd16 : 16 ≤ d := hd
  obtain ⟨d', rfl⟩ : ∃ d', d = d' + 16 := ⟨d - 16, by omega⟩
  have fin : ∀ es' x, hOK tT es' → fr frOd es es' → cPost O gG gInv kc_400 ρ es (.inl (some (.long x)), es', 0, 0) := fun es' x h1 h2 =>
    post_long (c := kc_400) hE h1 (gInv_keep h2 (by decide) hT hI) (fr_sub (by decide) h2) List.mem_cons_self (Nat.le_refl _) (Nat.le_refl _)
  have pt : ∀ es1 x, hOK tT es1 → hOK tT (sI es1 79 0 (.int (zI x))) ∧ fr [(79, 2, 0, 1)] es1 (sI es1 79 0 (.int (zI x))) := fun es1 x h =>
    ⟨hOK_sI h (p := 79) (b := 0) (lo := iLO) (hi := iHI) rfl rfl (i32_rng _), fr_sI rfl⟩
  have zero : ∀ es1 es4, es1 = sI es 79 0 (.int (zI 0)) → es4 = sI es1 79 0 (.int (zI 1)) → cPost O gG gInv kc_400 ρ es (.inl (some (.long (Int64.ofNat 0))), es4, 0, 0) := by
    intro es1 es4 e1 e4
    rw [e4, e1]
    exact fin _ _ (pt _ 1 (pt es 0 hT).1).1 (fr_sub (by decide) (fr_trans (pt es 0 hT).2 (pt _ 1 (pt es 0 hT).1).2))
  refine s_od0 (d := d' + 15) (kc := 0) (ks := 0) (sh_of hT) i1 i2 i3 hT (fun es1 e1 c1 es4 e4 => zero es1 es4 e1 e4) (fun es1 e1 c1 c2 es4 e4 => zero es1 es4 e1 e4) (fun es1 e1 c1 c2 c3 es4 e4 => zero es1 es4 e1 e4) (fun es1 e1 c1 c2 c3 => ?_)
  have hw : 0 ≤ wd ∧ wd ≤ 2 := ⟨by omega, by omega⟩
  have hi0 : 0 ≤ i ∧ i ≤ 2147483647 := ⟨by omega, i1.2⟩
  have hT1 : hOK tT es1 := by rw [e1]; exact (pt es 0 hT).1
  have fr1 : fr frOd es es1 := by rw [e1]; exact fr_sub (by decide) (pt es 0 hT).2
  refine call_aw (d := d' + 6) i_267_34 h365 hT1 (gInv_keep fr1 (by decide) hT hI) (fun es2 v h2 => ?_)
  obtain ⟨hT2, fr2, hv, hG, hW⟩ := aw_use hT1 h2
  have fr12 : fr frOd es es2 := fr_trans fr1 (fr_sub (by decide) fr2)
  have h41 : 0 ≤ (gI es2 79 41).toInt ∧ (gI es2 79 41).toInt ≤ 30 := gI_bd hT2 (p := 79) (b := 41) rfl rfl
  -- behind the first reading
  have go75 : 0 ≤ v → ∀ es5 x, es5 = sI (sI es2 79 35 (.int (zI i))) 79 36 (.int (zI x)) → aW O (d' + 16) 267 0 0 (cPost O gG gInv kc_400 ρ es) (75, [some (.ref 143), some (.int (zI i)), some (.int (zI wd)), some (.int (zI be)), some (.int (zI v)), none, none, none, none, none, none, none], [], es5) := by
    intro hv0 es5 x e5
    obtain ⟨⟨L, w1, w2, w3, w4⟩, t2, t3, t4, t5⟩ := hG hv0
    have hev := evOK_of hT2
    have hwh : whF (evE es2) (fst98 es2) L = v := by
      have hle := w4.1
      have hnn : 0 ≤ whF (evE es2) (fst98 es2) L := accF_nn _ (fun b => sumF_nn hev L _)
      by_cases hlt : whF (evE es2) (fst98 es2) L < v
      · exact absurd ⟨Int.le_refl _, w4.2.1, w4.2.2⟩ (t2 _ hnn hlt (fst98 es2) L w2 w3)
      · omega
    have hTa : hOK tT (sI es2 79 35 (.int (zI i))) := hOK_sI hT2 (p := 79) (b := 35) rfl rfl (by rw [zI_toInt (by unfold i32 iLO iHI; omega)]; exact hi0)
    have hT5 : hOK tT es5 := by rw [e5]; exact hOK_sI hTa (p := 79) (b := 36) (lo := iLO) (hi := iHI) rfl rfl (i32_rng _)
    have f5 : fr [(79, 29, 0, 1), (79, 37, 0, 1), (79, 38, 0, 1)] es2 es5 := by
      rw [e5]
      exact fr_trans (fr_sI rfl) (fr_sI rfl)
    have loop : ∀ (p0 : Int), v ≤ p0 → p0 ≤ v + wd → ∀ (j : Nat) (p : Int) (es7 : PH), p + j = v + wd + 1 → p0 ≤ p → hOK tT es7 → fr frOd es es7 → evE es7 = evE es2 → (gI es7 79 29).toInt = 0 → (0 ≤ (gI es7 79 27).toInt ∧ (gI es7 79 27).toInt ≤ 8000) → (p0 < p → mnyOK es7 v) →
        aW O (d' + 16) 267 0 0 (cPost O gG gInv kc_400 ρ es) (99, [some (.ref 143), some (.int (zI i)), some (.int (zI wd)), some (.int (zI be)), some (.int (zI v)), some (.int (zI p)), none, none, none, none, none, none], [], es7) := by
      intro p0 hp0 hp1 j
      induction j with
      | zero =>
        intro p es7 hj hpp hT7 f7 hE7 hn7 hq7 hM
        refine s_od99 (d := d' + 8) (sh_of hT7) ⟨hv0, hv.2⟩ hw ⟨by omega, by omega⟩ h365 (gInv_keep f7 (by decide) hT hI) hq7 hn7 hT7 (fun _ => ?_) (fun h => by omega) (fun h => by omega)
        refine s_od131 (d := d' + 16) (sh_of hT7) ⟨hv0, hv.2⟩ hw hT7 (fun u1 q1 c1 => ?_) (fun u1 q1 c1 => fin es7 _ hT7 f7)
        have z0 : (Int64.ofNat 0).toInt = 0 := rfl
        exact od_152 (d := d' + 15) hT7 ⟨hv0, hv.2⟩ hw i3 (hM (by omega)) (fun x => fin es7 x hT7 f7) (wd.toNat + 1) v _ _ none (by omega) (by omega) (by rw [z0]; omega) (fun h => by omega)
      | succ j ih =>
        intro p es7 hj hpp hT7 f7 hE7 hn7 hq7 hM
        refine s_od99 (d := d' + 8) (sh_of hT7) ⟨hv0, hv.2⟩ hw ⟨by omega, by omega⟩ h365 (gInv_keep f7 (by decide) hT hI) hq7 hn7 hT7 (fun h => by omega) (fun _ es8 p8 v3 e3 h3 => ?_) (fun _ es8 p8 v3 e3 h3 => ?_)
        all_goals
          obtain ⟨q1, q2, q3⟩ := p8
          rw [hE7] at q3
          have f8 : fr frOd es es8 := fr_trans f7 (fr_sub (by decide) q3.1.hf)
        · have hn8 : (gI es8 79 29).toInt = 0 := by omega
          have hpos := q3.1.pos
          have hsp := q3.1.spent hn8
          have hdn := q3.2 hn8 (fst98 es2) L w2 w3 ⟨by rw [hwh]; omega, w4.2.1, w4.2.2⟩
          refine ih (p + 1) es8 (by omega) (by omega) q2 f8 q3.1.hE hn8 ⟨by omega, by omega⟩ (fun _ => ⟨?_, fun k hk => ?_⟩)
          · have := hdn.2
            rw [hwh] at this
            exact this
          · have := q3.1.many k hk
            omega
        · exact fin es8 _ q2 f8
    have start : ∀ es6 p0, hOK tT es6 → fr [(79, 29, 0, 1), (79, 37, 0, 1), (79, 38, 0, 1)] es2 es6 → (0 ≤ (gI es6 79 27).toInt ∧ (gI es6 79 27).toInt ≤ 8000) → v ≤ p0 → p0 ≤ v + wd → p0 ≤ v + 1 → aW O (d' + 16) 267 0 0 (cPost O gG gInv kc_400 ρ es) (99, [some (.ref 143), some (.int (zI i)), some (.int (zI wd)), some (.int (zI be)), some (.int (zI v)), some (.int (zI p0)), none, none, none, none, none, none], [], es6) := by
      intro es6 p0 hT6 f6 hq6 h1 h2 h3
      refine loop p0 h1 h2 (v + wd + 1 - p0).toNat p0 es6 (by omega) (Int.le_refl _) hT6 (fr_trans fr12 (fr_sub (by decide) f6)) ?_ ?_ hq6 (fun h => by omega)
      · exact evE_fr f6 (sh_of hT2) (fun k => by simp only [mHq, true_and, and_true, false_and, and_false, or_false, false_or, not_false_eq_true, Nat.reduceEqDiff] <;> omega) (fun k => by simp only [mHq, true_and, and_true, false_and, and_false, or_false, false_or, not_false_eq_true, Nat.reduceEqDiff] <;> omega) (fun k => by simp only [mHq, true_and, and_true, false_and, and_false, or_false, false_or, not_false_eq_true, Nat.reduceEqDiff] <;> omega) (by simp only [mHq, true_and, and_true, false_and, and_false, or_false, false_or, not_false_eq_true, Nat.reduceEqDiff] <;> omega) (by simp only [mHq, true_and, and_true, false_and, and_false, or_false, false_or, not_false_eq_true, Nat.reduceEqDiff] <;> omega)
      · rw [fr_fld f6 (sh_of hT2) (p := 79) (b := 29) rfl (by simp only [mHq, true_and, and_true, false_and, and_false, or_false, false_or, not_false_eq_true, Nat.reduceEqDiff] <;> omega)]
        exact t4
    have g27 : gI es5 79 27 = gI es2 79 27 := by rw [e5, gI_sI_ne (Or.inr (by decide)), gI_sI_ne (Or.inr (by decide))]
    refine s_od75 (d := d' + 16) (sh_of hT5) ⟨hv0, hv.2⟩ hw hT5 (fun c1 => start es5 (v + 1) hT5 f5 (by rw [g27]; exact t5) (by omega) (by omega) (by omega)) (fun c1 es6 e6 => ?_)
    have hT6 : hOK tT es6 := by rw [e6]; exact hOK_sI hT5 (p := 79) (b := 27) (lo := iLO) (hi := iHI) rfl rfl (i32_rng _)
    refine start es6 v hT6 (by rw [e6]; exact fr_trans f5 (fr_sI rfl)) ?_ (by omega) (by omega) (by omega)
    rw [e6, gI_sI (sh_of hT5) (p := 79) rfl (by decide), show (zI 0).toInt = 0 from rfl]
    omega
  refine s_od37 (d := d' + 16) (sh_of hT2) hv hi0 h41 hT2 (fun c1 es3 e3 v3 f3 c4 es5 e5 => go75 c1 es5 (-1) (by rw [e5, e3])) (fun c1 es3 e3 v3 f3 c4 v6 f6 es5 e5 => go75 c1 es5 v6 (by rw [e5, e3])) (fun c1 => fin es2 _ hT2 fr12)
