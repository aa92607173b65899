theorem s_go0 {O : pOut} {d kc ks : Nat} {Q : pRes → Prop} {es : PH} {m : Int} (hs_es : sh es) (hm : 0 ≤ m ∧ m ≤ 30) (hT_es : hOK tT es)
    (K1 : 30 ≤ m → Q (.inl (some (.int (zI 0))), es, kc, ks))
    (K2 : ¬ (30 ≤ m) → ∀ v2 : Int, v2 = (gI es 79 30).toInt → v2 ≠ 0 → ∀ v4 : Int, barP m es v4 → v4 ≠ 0 → Q (.inl (some (.int (zI 0))), es, kc, ks))
    (K3 : ¬ (30 ≤ m) → ∀ v2 : Int, v2 = (gI es 79 30).toInt → v2 ≠ 0 → ∀ v4 : Int, barP m es v4 → ¬ (v4 ≠ 0) → Q (.inl (some (.int (zI 1))), es, kc, ks))
    (K4 : ¬ (30 ≤ m) → ∀ v2 : Int, v2 = (gI es 79 30).toInt → ¬ (v2 ≠ 0) → ∀ v6 : Int, v6 = (gA es 80 (Int.toNat 3)).toInt → v6 = m → Q (.inl (some (.int (zI 0))), es, kc, ks))
    (K5 : ¬ (30 ≤ m) → ∀ v2 : Int, v2 = (gI es 79 30).toInt → ¬ (v2 ≠ 0) → ∀ v6 : Int, v6 = (gA es 80 (Int.toNat 3)).toInt → ¬ (v6 = m) → ∀ v8 : Int, barP m es v8 → v8 ≠ 0 → Q (.inl (some (.int (zI 0))), es, kc, ks))
    (K6 : ¬ (30 ≤ m) → ∀ v2 : Int, v2 = (gI es 79 30).toInt → ¬ (v2 ≠ 0) → ∀ v6 : Int, v6 = (gA es 80 (Int.toNat 3)).toInt → ¬ (v6 = m) → ∀ v8 : Int, barP m es v8 → ¬ (v8 ≠ 0) → Q (.inl (some (.int (zI 1))), es, kc, ks)) :
    aW O (d + 2) 252 kc ks Q (0, [some (.ref 143), some (.int (zI m))], [], es) := by
  refine x0 (r := (1, [some (.ref 143), some (.int (zI m))], [.int (zI m)], es)) i_252_0 rfl ?_
  refine x0 (r := (3, [some (.ref 143), some (.int (zI m))], [.int (zI 30), .int (zI m)], es)) i_252_1 (by rfl) ?_
  by_cases c1 : 30 ≤ m
  · refine x_cmpT i_252_3 (by unfold i32 iLO iHI; omega) (by unfold i32 iLO iHI; omega) rfl (by simp only [zC, cR]; omega) ?_
    refine x0 (r := (36, [some (.ref 143), some (.int (zI m))], [.int (zI 0)], es)) i_252_35 (by rfl) ?_
    refine x_ret (v := some (.int (zI 0))) i_252_36 rfl (fun _ => rfl) rfl rfl (pFin_b (by omega)) ?_
    exact K1 c1
  · refine x_cmpF i_252_3 (by unfold i32 iLO iHI; omega) (by unfold i32 iLO iHI; omega) rfl (by simp only [zC, cR]; omega) ?_
    refine x0 (r := (7, [some (.ref 143), some (.int (zI m))], [.ref 143], es)) i_252_6 rfl ?_
    refine x_geti (p := 79) i_252_7 hs_es rfl rfl ?_
    obtain ⟨v2, e_v2⟩ : ∃ z : Int, z = (gI es 79 30).toInt := ⟨_, rfl⟩
    rw [← e_v2]
    have r_v2 : iLO ≤ v2 ∧ v2 ≤ iHI := by rw [e_v2]; exact i32_rng _
    unfold iLO iHI at r_v2
    have b_v2 : (0 : Int) ≤ v2 ∧ v2 ≤ (1 : Int) := by rw [e_v2]; exact gI_bd hT_es (p := 79) (b := 30) rfl rfl
    by_cases c3 : v2 ≠ 0
    · refine x_ifT i_252_10 (by unfold i32 iLO iHI; omega) rfl (by simp only [zC, cR]; omega) ?_
      refine x0 (r := (24, [some (.ref 143), some (.int (zI m))], [.ref 143], es)) i_252_23 rfl ?_
      refine x0 (r := (25, [some (.ref 143), some (.int (zI m))], [.int (zI m), .ref 143], es)) i_252_24 rfl ?_
      refine x_call (vs := [.ref 143, .int (zI m)]) (rs := []) i_252_25 rfl (fun _ => rfl) rfl rfl rfl rfl rfl (pCall_v (p := 79) hs_es rfl rfl rfl rfl rfl (by decide) rfl rfl rfl rfl rfl) ?_
      show aW _ _ _ _ _ _ (0, [some (.ref 143), some (.int (zI m)), none, none, none], [], es)
      refine bar_spec hs_es hT_es (by omega) (fun v4 p_v4 => ?_)
      have r_v4 := p_v4.2
      show aW _ _ _ _ _ _ (28, [some (.ref 143), some (.int (zI m))], [.int (zI v4)], es)
      by_cases c5 : v4 ≠ 0
      · refine x_ifT i_252_28 (by unfold i32 iLO iHI; omega) rfl (by simp only [zC, cR]; omega) ?_
        refine x0 (r := (36, [some (.ref 143), some (.int (zI m))], [.int (zI 0)], es)) i_252_35 (by rfl) ?_
        refine x_ret (v := some (.int (zI 0))) i_252_36 rfl (fun _ => rfl) rfl rfl (pFin_b (by omega)) ?_
        exact K2 c1 v2 e_v2 c3 v4 p_v4 c5
      · refine x_ifF i_252_28 (by unfold i32 iLO iHI; omega) rfl (by simp only [zC, cR]; omega) ?_
        refine x0 (r := (32, [some (.ref 143), some (.int (zI m))], [.int (zI 1)], es)) i_252_31 (by rfl) ?_
        refine x0 (r := (36, [some (.ref 143), some (.int (zI m))], [.int (zI 1)], es)) i_252_32 rfl ?_
        refine x_ret (v := some (.int (zI 1))) i_252_36 rfl (fun _ => rfl) rfl rfl (pFin_b (by omega)) ?_
        exact K3 c1 v2 e_v2 c3 v4 p_v4 c5
    · refine x_ifF i_252_10 (by unfold i32 iLO iHI; omega) rfl (by simp only [zC, cR]; omega) ?_
      refine x0 (r := (14, [some (.ref 143), some (.int (zI m))], [.ref 143], es)) i_252_13 rfl ?_
      refine x_getr (p := 79) (k := 144) i_252_14 hs_es rfl rfl ?_
      show aW _ _ _ _ _ _ (17, [some (.ref 143), some (.int (zI m))], [.ref 144], es)
      refine x0 (r := (18, [some (.ref 143), some (.int (zI m))], [.int (zI 3), .ref 144], es)) i_252_17 (by rfl) ?_
      refine x_iald (p := 80) i_252_18 hs_es rfl (by unfold i32 iLO iHI; omega) (by omega) (by omega) ?_
      obtain ⟨v6, e_v6⟩ : ∃ z : Int, z = (gA es 80 (Int.toNat 3)).toInt := ⟨_, rfl⟩
      rw [← e_v6]
      have r_v6 : iLO ≤ v6 ∧ v6 ≤ iHI := by rw [e_v6]; exact i32_rng _
      unfold iLO iHI at r_v6
      have b_v6 : (-1 : Int) ≤ v6 ∧ v6 ≤ (30 : Int) := by rw [e_v6]; exact gA_bd hT_es (p := 80) (k := (Int.toNat 3)) rfl (by omega) (by decide)
      refine x0 (r := (20, [some (.ref 143), some (.int (zI m))], [.int (zI m), .int (zI v6)], es)) i_252_19 rfl ?_
      by_cases c7 : v6 = m
      · refine x_cmpT i_252_20 (by unfold i32 iLO iHI; omega) (by unfold i32 iLO iHI; omega) rfl (by simp only [zC, cR]; omega) ?_
        refine x0 (r := (36, [some (.ref 143), some (.int (zI m))], [.int (zI 0)], es)) i_252_35 (by rfl) ?_
        refine x_ret (v := some (.int (zI 0))) i_252_36 rfl (fun _ => rfl) rfl rfl (pFin_b (by omega)) ?_
        exact K4 c1 v2 e_v2 c3 v6 e_v6 c7
      · refine x_cmpF i_252_20 (by unfold i32 iLO iHI; omega) (by unfold i32 iLO iHI; omega) rfl (by simp only [zC, cR]; omega) ?_
        refine x0 (r := (24, [some (.ref 143), some (.int (zI m))], [.ref 143], es)) i_252_23 rfl ?_
        refine x0 (r := (25, [some (.ref 143), some (.int (zI m))], [.int (zI m), .ref 143], es)) i_252_24 rfl ?_
        refine x_call (vs := [.ref 143, .int (zI m)]) (rs := []) i_252_25 rfl (fun _ => rfl) rfl rfl rfl rfl rfl (pCall_v (p := 79) hs_es rfl rfl rfl rfl rfl (by decide) rfl rfl rfl rfl rfl) ?_
        show aW _ _ _ _ _ _ (0, [some (.ref 143), some (.int (zI m)), none, none, none], [], es)
        refine bar_spec hs_es hT_es (by omega) (fun v8 p_v8 => ?_)
        have r_v8 := p_v8.2
        show aW _ _ _ _ _ _ (28, [some (.ref 143), some (.int (zI m))], [.int (zI v8)], es)
        by_cases c9 : v8 ≠ 0
        · refine x_ifT i_252_28 (by unfold i32 iLO iHI; omega) rfl (by simp only [zC, cR]; omega) ?_
          refine x0 (r := (36, [some (.ref 143), some (.int (zI m))], [.int (zI 0)], es)) i_252_35 (by rfl) ?_
          refine x_ret (v := some (.int (zI 0))) i_252_36 rfl (fun _ => rfl) rfl rfl (pFin_b (by omega)) ?_
          exact K5 c1 v2 e_v2 c3 v6 e_v6 c7 v8 p_v8 c9
        · refine x_ifF i_252_28 (by unfold i32 iLO iHI; omega) rfl (by simp only [zC, cR]; omega) ?_
          refine x0 (r := (32, [some (.ref 143), some (.int (zI m))], [.int (zI 1)], es)) i_252_31 (by rfl) ?_
          refine x0 (r := (36, [some (.ref 143), some (.int (zI m))], [.int (zI 1)], es)) i_252_32 rfl ?_
          refine x_ret (v := some (.int (zI 1))) i_252_36 rfl (fun _ => rfl) rfl rfl (pFin_b (by omega)) ?_
          exact K6 c1 v2 e_v2 c3 v6 e_v6 c7 v8 p_v8 c9

theorem s_meet0 {O : pOut} {d kc ks : Nat} {Q : pRes → Prop} {es : PH} {m pr : Int} (hs_es : sh es) (hm : 0 ≤ m ∧ m ≤ 30) (hp : 0 ≤ pr ∧ pr ≤ 22) (hT_es : hOK tT es)
    (K1 : ∀ v1 : Int, v1 = (gI es 79 26).toInt → pr < v1 → Q (.inl (none), es, kc, ks))
    (K2 : ∀ v1 : Int, v1 = (gI es 79 26).toInt → ¬ (pr < v1) → ∀ v3 : Int, barP m es v3 → v3 ≠ 0 → Q (.inl (none), es, kc, ks))
    (K3 : ∀ v1 : Int, v1 = (gI es 79 26).toInt → ¬ (pr < v1) → ∀ v3 : Int, barP m es v3 → ¬ (v3 ≠ 0) → ∀ v5 : Int, lenP m es v5 → v5 ≠ 0 → aW O (d + 2) 248 kc ks Q (25, [some (.ref 143), some (.int (zI m)), some (.int (zI pr))], [], es))
    (K4 : ∀ v1 : Int, v1 = (gI es 79 26).toInt → ¬ (pr < v1) → ∀ v3 : Int, barP m es v3 → ¬ (v3 ≠ 0) → ∀ v5 : Int, lenP m es v5 → ¬ (v5 ≠ 0) → Q (.inl (none), es, kc, ks)) :
    aW O (d + 2) 248 kc ks Q (0, [some (.ref 143), some (.int (zI m)), some (.int (zI pr))], [], es) := by
  refine x0 (r := (1, [some (.ref 143), some (.int (zI m)), some (.int (zI pr))], [.ref 143], es)) i_248_0 rfl ?_
  refine x_geti (p := 79) i_248_1 hs_es rfl rfl ?_
  obtain ⟨v1, e_v1⟩ : ∃ z : Int, z = (gI es 79 26).toInt := ⟨_, rfl⟩
  rw [← e_v1]
  have r_v1 : iLO ≤ v1 ∧ v1 ≤ iHI := by rw [e_v1]; exact i32_rng _
  unfold iLO iHI at r_v1
  have b_v1 : (0 : Int) ≤ v1 ∧ v1 ≤ (3000 : Int) := by rw [e_v1]; exact gI_bd hT_es (p := 79) (b := 26) rfl rfl
  refine x0 (r := (5, [some (.ref 143), some (.int (zI m)), some (.int (zI pr))], [.int (zI pr), .int (zI v1)], es)) i_248_4 rfl ?_
  by_cases c2 : pr < v1
  · refine x_cmpT i_248_5 (by unfold i32 iLO iHI; omega) (by unfold i32 iLO iHI; omega) rfl (by simp only [zC, cR]; omega) ?_
    refine x_ret (v := none) i_248_24 rfl (fun _ => rfl) rfl rfl rfl ?_
    exact K1 v1 e_v1 c2
  · refine x_cmpF i_248_5 (by unfold i32 iLO iHI; omega) (by unfold i32 iLO iHI; omega) rfl (by simp only [zC, cR]; omega) ?_
    refine x0 (r := (9, [some (.ref 143), some (.int (zI m)), some (.int (zI pr))], [.ref 143], es)) i_248_8 rfl ?_
    refine x0 (r := (10, [some (.ref 143), some (.int (zI m)), some (.int (zI pr))], [.int (zI m), .ref 143], es)) i_248_9 rfl ?_
    refine x_call (vs := [.ref 143, .int (zI m)]) (rs := []) i_248_10 rfl (fun _ => rfl) rfl rfl rfl rfl rfl (pCall_v (p := 79) hs_es rfl rfl rfl rfl rfl (by decide) rfl rfl rfl rfl rfl) ?_
    show aW _ _ _ _ _ _ (0, [some (.ref 143), some (.int (zI m)), none, none, none], [], es)
    refine bar_spec hs_es hT_es (by omega) (fun v3 p_v3 => ?_)
    have r_v3 := p_v3.2
    show aW _ _ _ _ _ _ (13, [some (.ref 143), some (.int (zI m)), some (.int (zI pr))], [.int (zI v3)], es)
    by_cases c4 : v3 ≠ 0
    · refine x_ifT i_248_13 (by unfold i32 iLO iHI; omega) rfl (by simp only [zC, cR]; omega) ?_
      refine x_ret (v := none) i_248_24 rfl (fun _ => rfl) rfl rfl rfl ?_
      exact K2 v1 e_v1 c2 v3 p_v3 c4
    · refine x_ifF i_248_13 (by unfold i32 iLO iHI; omega) rfl (by simp only [zC, cR]; omega) ?_
      refine x0 (r := (17, [some (.ref 143), some (.int (zI m)), some (.int (zI pr))], [.ref 143], es)) i_248_16 rfl ?_
      refine x0 (r := (18, [some (.ref 143), some (.int (zI m)), some (.int (zI pr))], [.int (zI m), .ref 143], es)) i_248_17 rfl ?_
      refine x_call (vs := [.ref 143, .int (zI m)]) (rs := []) i_248_18 rfl (fun _ => rfl) rfl rfl rfl rfl rfl (pCall_v (p := 79) hs_es rfl rfl rfl rfl rfl (by decide) rfl rfl rfl rfl rfl) ?_
      show aW _ _ _ _ _ _ (0, [some (.ref 143), some (.int (zI m)), none, none], [], es)
      refine len_spec hs_es hT_es (by omega) (fun v5 p_v5 => ?_)
      have r_v5 := p_v5.2
      show aW _ _ _ _ _ _ (21, [some (.ref 143), some (.int (zI m)), some (.int (zI pr))], [.int (zI v5)], es)
      by_cases c6 : v5 ≠ 0
      · refine x_ifT i_248_21 (by unfold i32 iLO iHI; omega) rfl (by simp only [zC, cR]; omega) ?_
        exact K3 v1 e_v1 c2 v3 p_v3 c4 v5 p_v5 c6
      · refine x_ifF i_248_21 (by unfold i32 iLO iHI; omega) rfl (by simp only [zC, cR]; omega) ?_
        refine x_ret (v := none) i_248_24 rfl (fun _ => rfl) rfl rfl rfl ?_
        exact K4 v1 e_v1 c2 v3 p_v3 c4 v5 p_v5 c6

theorem s_meet25 {O : pOut} {d kc ks : Nat} {Q : pRes → Prop} {es : PH} {m pr : Int} (hs_es : sh es) (hm : 0 ≤ m ∧ m ≤ 30) (hp : 0 ≤ pr ∧ pr ≤ 22) (hw : (gI es 79 26).toInt ≤ 22) (hT_es : hOK tT es)
    (K1 : ∀ v1 : Int, v1 = (gI es 79 26).toInt → ∀ w2 : Int64, w2 = gJ es 96 v1.toNat → ∀ w3 : Int64, w3 = w2 + (Int64.ofNat 1) → ∀ es4 : PH, es4 = sJ es 96 v1.toNat w3 → ∀ v5 : Int, v5 = (gI es4 79 35).toInt → m ≤ v5 → aW O d 248 kc ks Q (75, [some (.ref 143), some (.int (zI m)), some (.int (zI pr))], [], es4))
    (K2 : ∀ v1 : Int, v1 = (gI es 79 26).toInt → ∀ w2 : Int64, w2 = gJ es 96 v1.toNat → ∀ w3 : Int64, w3 = w2 + (Int64.ofNat 1) → ∀ es4 : PH, es4 = sJ es 96 v1.toNat w3 → ∀ v5 : Int, v5 = (gI es4 79 35).toInt → ¬ (m ≤ v5) → ∀ v7 : Int, v7 = (gI es4 79 35).toInt → ∀ v8 : Int, v8 = (gA es4 91 v7.toNat).toInt → ∀ v9 : Int, v9 = (gI es4 79 36).toInt → v8 ≠ v9 → aW O d 248 kc ks Q (75, [some (.ref 143), some (.int (zI m)), some (.int (zI pr))], [], es4))
    (K3 : ∀ v1 : Int, v1 = (gI es 79 26).toInt → ∀ w2 : Int64, w2 = gJ es 96 v1.toNat → ∀ w3 : Int64, w3 = w2 + (Int64.ofNat 1) → ∀ es4 : PH, es4 = sJ es 96 v1.toNat w3 → ∀ v5 : Int, v5 = (gI es4 79 35).toInt → ¬ (m ≤ v5) → ∀ v7 : Int, v7 = (gI es4 79 35).toInt → ∀ v8 : Int, v8 = (gA es4 91 v7.toNat).toInt → ∀ v9 : Int, v9 = (gI es4 79 36).toInt → ¬ (v8 ≠ v9) → aW O d 248 kc ks Q (62, [some (.ref 143), some (.int (zI m)), some (.int (zI pr))], [], es4)) :
    aW O d 248 kc ks Q (25, [some (.ref 143), some (.int (zI m)), some (.int (zI pr))], [], es) := by
  refine x0 (r := (26, [some (.ref 143), some (.int (zI m)), some (.int (zI pr))], [.ref 143], es)) i_248_25 rfl ?_
  refine x_getr (p := 79) (k := 160) i_248_26 hs_es rfl rfl ?_
  show aW _ _ _ _ _ _ (29, [some (.ref 143), some (.int (zI m)), some (.int (zI pr))], [.ref 160], es)
  refine x0 (r := (30, [some (.ref 143), some (.int (zI m)), some (.int (zI pr))], [.ref 143, .ref 160], es)) i_248_29 rfl ?_
  refine x_geti (p := 79) i_248_30 hs_es rfl rfl ?_
  obtain ⟨v1, e_v1⟩ : ∃ z : Int, z = (gI es 79 26).toInt := ⟨_, rfl⟩
  rw [← e_v1]
  have r_v1 : iLO ≤ v1 ∧ v1 ≤ iHI := by rw [e_v1]; exact i32_rng _
  unfold iLO iHI at r_v1
  have b_v1 : (0 : Int) ≤ v1 ∧ v1 ≤ (3000 : Int) := by rw [e_v1]; exact gI_bd hT_es (p := 79) (b := 26) rfl rfl
  refine x0 (r := (34, [some (.ref 143), some (.int (zI m)), some (.int (zI pr))], [.int (zI v1), .ref 160, .int (zI v1), .ref 160], es)) i_248_33 rfl ?_
  refine x_lald (p := 96) i_248_34 hs_es rfl (by unfold i32 iLO iHI; omega) (by omega) (by omega) ?_
  obtain ⟨w2, e_w2⟩ : ∃ z : Int64, z = gJ es 96 v1.toNat := ⟨_, rfl⟩
  rw [← e_w2]
  refine x0 (r := (36, [some (.ref 143), some (.int (zI m)), some (.int (zI pr))], [.long (Int64.ofNat 1), .long w2, .int (zI v1), .ref 160], es)) i_248_35 rfl ?_
  refine x0 (r := (37, [some (.ref 143), some (.int (zI m)), some (.int (zI pr))], [.long (w2 + (Int64.ofNat 1)), .int (zI v1), .ref 160], es)) i_248_36 rfl ?_
  obtain ⟨w3, e_w3⟩ : ∃ z : Int64, z = w2 + (Int64.ofNat 1) := ⟨_, rfl⟩
  rw [← e_w3]
  refine x_last (p := 96) i_248_37 hs_es rfl (by unfold i32 iLO iHI; omega) (by omega) (by omega) ?_
  obtain ⟨es4, e_es4⟩ : ∃ z : PH, z = sJ es 96 v1.toNat w3 := ⟨_, rfl⟩
  have hs_es4 : sh es4 := by rw [e_es4]; exact sh_sJ hs_es
  have hT_es4 : hOK tT es4 := by rw [e_es4]; exact hOK_sJ hT_es
  rw [← e_es4]
  refine x0 (r := (39, [some (.ref 143), some (.int (zI m)), some (.int (zI pr))], [.ref 143], es4)) i_248_38 rfl ?_
  refine x_geti (p := 79) i_248_39 hs_es4 rfl rfl ?_
  obtain ⟨v5, e_v5⟩ : ∃ z : Int, z = (gI es4 79 35).toInt := ⟨_, rfl⟩
  rw [← e_v5]
  have r_v5 : iLO ≤ v5 ∧ v5 ≤ iHI := by rw [e_v5]; exact i32_rng _
  unfold iLO iHI at r_v5
  have b_v5 : (0 : Int) ≤ v5 ∧ v5 ≤ (2147483647 : Int) := by rw [e_v5]; exact gI_bd hT_es4 (p := 79) (b := 35) rfl rfl
  refine x0 (r := (43, [some (.ref 143), some (.int (zI m)), some (.int (zI pr))], [.int (zI m), .int (zI v5)], es4)) i_248_42 rfl ?_
  by_cases c6 : m ≤ v5
  · refine x_cmpT i_248_43 (by unfold i32 iLO iHI; omega) (by unfold i32 iLO iHI; omega) rfl (by simp only [zC, cR]; omega) ?_
    exact K1 v1 e_v1 w2 e_w2 w3 e_w3 es4 e_es4 v5 e_v5 c6
  · refine x_cmpF i_248_43 (by unfold i32 iLO iHI; omega) (by unfold i32 iLO iHI; omega) rfl (by simp only [zC, cR]; omega) ?_
    refine x0 (r := (47, [some (.ref 143), some (.int (zI m)), some (.int (zI pr))], [.ref 143], es4)) i_248_46 rfl ?_
    refine x_getr (p := 79) (k := 155) i_248_47 hs_es4 rfl rfl ?_
    show aW _ _ _ _ _ _ (50, [some (.ref 143), some (.int (zI m)), some (.int (zI pr))], [.ref 155], es4)
    refine x0 (r := (51, [some (.ref 143), some (.int (zI m)), some (.int (zI pr))], [.ref 143, .ref 155], es4)) i_248_50 rfl ?_
    refine x_geti (p := 79) i_248_51 hs_es4 rfl rfl ?_
    obtain ⟨v7, e_v7⟩ : ∃ z : Int, z = (gI es4 79 35).toInt := ⟨_, rfl⟩
    rw [← e_v7]
    have r_v7 : iLO ≤ v7 ∧ v7 ≤ iHI := by rw [e_v7]; exact i32_rng _
    unfold iLO iHI at r_v7
    have b_v7 : (0 : Int) ≤ v7 ∧ v7 ≤ (2147483647 : Int) := by rw [e_v7]; exact gI_bd hT_es4 (p := 79) (b := 35) rfl rfl
    refine x_iald (p := 91) i_248_54 hs_es4 rfl (by unfold i32 iLO iHI; omega) (by omega) (by omega) ?_
    obtain ⟨v8, e_v8⟩ : ∃ z : Int, z = (gA es4 91 v7.toNat).toInt := ⟨_, rfl⟩
    rw [← e_v8]
    have r_v8 : iLO ≤ v8 ∧ v8 ≤ iHI := by rw [e_v8]; exact i32_rng _
    unfold iLO iHI at r_v8
    have b_v8 : (0 : Int) ≤ v8 ∧ v8 ≤ (1295 : Int) := by rw [e_v8]; exact gA_bd hT_es4 (p := 91) (k := v7.toNat) rfl (by omega) (by decide)
    refine x0 (r := (56, [some (.ref 143), some (.int (zI m)), some (.int (zI pr))], [.ref 143, .int (zI v8)], es4)) i_248_55 rfl ?_
    refine x_geti (p := 79) i_248_56 hs_es4 rfl rfl ?_
    obtain ⟨v9, e_v9⟩ : ∃ z : Int, z = (gI es4 79 36).toInt := ⟨_, rfl⟩
    rw [← e_v9]
    have r_v9 : iLO ≤ v9 ∧ v9 ≤ iHI := by rw [e_v9]; exact i32_rng _
    unfold iLO iHI at r_v9
    by_cases c10 : v8 ≠ v9
    · refine x_cmpT i_248_59 (by unfold i32 iLO iHI; omega) (by unfold i32 iLO iHI; omega) rfl (by simp only [zC, cR]; omega) ?_
      exact K2 v1 e_v1 w2 e_w2 w3 e_w3 es4 e_es4 v5 e_v5 c6 v7 e_v7 v8 e_v8 v9 e_v9 c10
    · refine x_cmpF i_248_59 (by unfold i32 iLO iHI; omega) (by unfold i32 iLO iHI; omega) rfl (by simp only [zC, cR]; omega) ?_
      exact K3 v1 e_v1 w2 e_w2 w3 e_w3 es4 e_es4 v5 e_v5 c6 v7 e_v7 v8 e_v8 v9 e_v9 c10

theorem s_meet62 {O : pOut} {d kc ks : Nat} {Q : pRes → Prop} {es : PH} {m pr : Int} (hs_es : sh es) (hm : 0 ≤ m ∧ m ≤ 30) (hp : 0 ≤ pr ∧ pr ≤ 22) (hw : (gI es 79 26).toInt ≤ 22) (hT_es : hOK tT es)
    (K1 : ∀ v1 : Int, v1 = (gI es 79 26).toInt → ∀ w2 : Int64, w2 = gJ es 97 v1.toNat → ∀ w3 : Int64, w3 = w2 + (Int64.ofNat 1) → ∀ es4 : PH, es4 = sJ es 97 v1.toNat w3 → aW O d 248 kc ks Q (75, [some (.ref 143), some (.int (zI m)), some (.int (zI pr))], [], es4)) :
    aW O d 248 kc ks Q (62, [some (.ref 143), some (.int (zI m)), some (.int (zI pr))], [], es) := by
  refine x0 (r := (63, [some (.ref 143), some (.int (zI m)), some (.int (zI pr))], [.ref 143], es)) i_248_62 rfl ?_
  refine x_getr (p := 79) (k := 161) i_248_63 hs_es rfl rfl ?_
  show aW _ _ _ _ _ _ (66, [some (.ref 143), some (.int (zI m)), some (.int (zI pr))], [.ref 161], es)
  refine x0 (r := (67, [some (.ref 143), some (.int (zI m)), some (.int (zI pr))], [.ref 143, .ref 161], es)) i_248_66 rfl ?_
  refine x_geti (p := 79) i_248_67 hs_es rfl rfl ?_
  obtain ⟨v1, e_v1⟩ : ∃ z : Int, z = (gI es 79 26).toInt := ⟨_, rfl⟩
  rw [← e_v1]
  have r_v1 : iLO ≤ v1 ∧ v1 ≤ iHI := by rw [e_v1]; exact i32_rng _
  unfold iLO iHI at r_v1
  have b_v1 : (0 : Int) ≤ v1 ∧ v1 ≤ (3000 : Int) := by rw [e_v1]; exact gI_bd hT_es (p := 79) (b := 26) rfl rfl
  refine x0 (r := (71, [some (.ref 143), some (.int (zI m)), some (.int (zI pr))], [.int (zI v1), .ref 161, .int (zI v1), .ref 161], es)) i_248_70 rfl ?_
  refine x_lald (p := 97) i_248_71 hs_es rfl (by unfold i32 iLO iHI; omega) (by omega) (by omega) ?_
  obtain ⟨w2, e_w2⟩ : ∃ z : Int64, z = gJ es 97 v1.toNat := ⟨_, rfl⟩
  rw [← e_w2]
  refine x0 (r := (73, [some (.ref 143), some (.int (zI m)), some (.int (zI pr))], [.long (Int64.ofNat 1), .long w2, .int (zI v1), .ref 161], es)) i_248_72 rfl ?_
  refine x0 (r := (74, [some (.ref 143), some (.int (zI m)), some (.int (zI pr))], [.long (w2 + (Int64.ofNat 1)), .int (zI v1), .ref 161], es)) i_248_73 rfl ?_
  obtain ⟨w3, e_w3⟩ : ∃ z : Int64, z = w2 + (Int64.ofNat 1) := ⟨_, rfl⟩
  rw [← e_w3]
  refine x_last (p := 97) i_248_74 hs_es rfl (by unfold i32 iLO iHI; omega) (by omega) (by omega) ?_
  obtain ⟨es4, e_es4⟩ : ∃ z : PH, z = sJ es 97 v1.toNat w3 := ⟨_, rfl⟩
  have hs_es4 : sh es4 := by rw [e_es4]; exact sh_sJ hs_es
  have hT_es4 : hOK tT es4 := by rw [e_es4]; exact hOK_sJ hT_es
  rw [← e_es4]
  exact K1 v1 e_v1 w2 e_w2 w3 e_w3 es4 e_es4

theorem s_meet75 {O : pOut} {d kc ks : Nat} {Q : pRes → Prop} {es : PH} {m pr : Int} (hs_es : sh es) (hm : 0 ≤ m ∧ m ≤ 30) (hp : 0 ≤ pr ∧ pr ≤ 22) (hf : 0 ≤ (gI es 79 37).toInt ∧ (gI es 79 37).toInt ≤ 10000) (hT_es : hOK tT es)
    (K1 : ∀ v1 : Int, v1 = (gI es 79 37).toInt → ∀ es2 : PH, es2 = sI es 79 37 (.int (zI (v1 + 1))) → ∀ v3 : Int, v3 = (gI es2 79 37).toInt → v3 ≠ 1 → aW O (d + 1) 248 kc ks Q (106, [some (.ref 143), some (.int (zI m)), some (.int (zI pr))], [], es2))
    (K2 : ∀ v1 : Int, v1 = (gI es 79 37).toInt → ∀ es2 : PH, es2 = sI es 79 37 (.int (zI (v1 + 1))) → ∀ v3 : Int, v3 = (gI es2 79 37).toInt → ¬ (v3 ≠ 1) → ∀ es5 : PH, ∀ v6 : Int, take98P m es2 es5 v6 → ∀ es7 : PH, es7 = sI es5 79 41 (.int (zI v6)) → aW O (d + 1) 248 kc ks Q (106, [some (.ref 143), some (.int (zI m)), some (.int (zI pr))], [], es7)) :
    aW O (d + 1) 248 kc ks Q (75, [some (.ref 143), some (.int (zI m)), some (.int (zI pr))], [], es) := by
  refine x0 (r := (76, [some (.ref 143), some (.int (zI m)), some (.int (zI pr))], [.ref 143], es)) i_248_75 rfl ?_
  refine x0 (r := (77, [some (.ref 143), some (.int (zI m)), some (.int (zI pr))], [.ref 143, .ref 143], es)) i_248_76 rfl ?_
  refine x_geti (p := 79) i_248_77 hs_es rfl rfl ?_
  obtain ⟨v1, e_v1⟩ : ∃ z : Int, z = (gI es 79 37).toInt := ⟨_, rfl⟩
  rw [← e_v1]
  have r_v1 : iLO ≤ v1 ∧ v1 ≤ iHI := by rw [e_v1]; exact i32_rng _
  unfold iLO iHI at r_v1
  refine x0 (r := (81, [some (.ref 143), some (.int (zI m)), some (.int (zI pr))], [.int (zI 1), .int (zI v1), .ref 143], es)) i_248_80 (by rfl) ?_
  refine x_iadd i_248_81 ?_
  refine x_puti (p := 79) (ty := .int) i_248_82 hs_es rfl rfl rfl (Or.inl rfl) ?_
  obtain ⟨es2, e_es2⟩ : ∃ z : PH, z = sI es 79 37 (.int (zI (v1 + 1))) := ⟨_, rfl⟩
  have hs_es2 : sh es2 := by rw [e_es2]; exact sh_sI hs_es (p := 79) (b := 37) rfl rfl
  have hT_es2 : hOK tT es2 := by rw [e_es2]; exact hOK_sI hT_es (p := 79) (b := 37) (lo := iLO) (hi := iHI) rfl rfl (i32_rng _)
  rw [← e_es2]
  refine x0 (r := (86, [some (.ref 143), some (.int (zI m)), some (.int (zI pr))], [.ref 143], es2)) i_248_85 rfl ?_
  refine x_geti (p := 79) i_248_86 hs_es2 rfl rfl ?_
  obtain ⟨v3, e_v3⟩ : ∃ z : Int, z = (gI es2 79 37).toInt := ⟨_, rfl⟩
  rw [← e_v3]
  have r_v3 : iLO ≤ v3 ∧ v3 ≤ iHI := by rw [e_v3]; exact i32_rng _
  unfold iLO iHI at r_v3
  refine x0 (r := (90, [some (.ref 143), some (.int (zI m)), some (.int (zI pr))], [.int (zI 1), .int (zI v3)], es2)) i_248_89 (by rfl) ?_
  by_cases c4 : v3 ≠ 1
  · refine x_cmpT i_248_90 (by unfold i32 iLO iHI; omega) (by unfold i32 iLO iHI; omega) rfl (by simp only [zC, cR]; omega) ?_
    exact K1 v1 e_v1 es2 e_es2 v3 e_v3 c4
  · refine x_cmpF i_248_90 (by unfold i32 iLO iHI; omega) (by unfold i32 iLO iHI; omega) rfl (by simp only [zC, cR]; omega) ?_
    refine x0 (r := (94, [some (.ref 143), some (.int (zI m)), some (.int (zI pr))], [.ref 143], es2)) i_248_93 rfl ?_
    refine x0 (r := (95, [some (.ref 143), some (.int (zI m)), some (.int (zI pr))], [.ref 143, .ref 143], es2)) i_248_94 rfl ?_
    refine x0 (r := (96, [some (.ref 143), some (.int (zI m)), some (.int (zI pr))], [.ref 143, .ref 143, .ref 143], es2)) i_248_95 rfl ?_
    refine x_getr (p := 79) (k := 162) i_248_96 hs_es2 rfl rfl ?_
    show aW _ _ _ _ _ _ (99, [some (.ref 143), some (.int (zI m)), some (.int (zI pr))], [.ref 162, .ref 143, .ref 143], es2)
    refine x0 (r := (100, [some (.ref 143), some (.int (zI m)), some (.int (zI pr))], [.int (zI m), .ref 162, .ref 143, .ref 143], es2)) i_248_99 rfl ?_
    refine x_call (vs := [.ref 143, .ref 162, .int (zI m)]) (rs := [.ref 143]) i_248_100 rfl (fun _ => rfl) rfl rfl rfl rfl rfl (pCall_v (p := 79) hs_es2 rfl rfl rfl rfl rfl (by decide) rfl rfl rfl rfl rfl) ?_
    show aW _ _ _ _ _ _ (0, [some (.ref 143), some (.ref 162), some (.int (zI m)), none], [], es2)
    refine take98_spec hs_es2 hT_es2 (by omega) (fun es5 v6 p_es5 => ?_)
    have hs_es5 : sh es5 := p_es5.1
    have hT_es5 : hOK tT es5 := p_es5.2.1
    have r_v6 := p_es5.2.2.1
    show aW _ _ _ _ _ _ (103, [some (.ref 143), some (.int (zI m)), some (.int (zI pr))], [.int (zI v6), .ref 143], es5)
    refine x_puti (p := 79) (ty := .int) i_248_103 hs_es5 rfl rfl rfl (Or.inl rfl) ?_
    obtain ⟨es7, e_es7⟩ : ∃ z : PH, z = sI es5 79 41 (.int (zI v6)) := ⟨_, rfl⟩
    have hs_es7 : sh es7 := by rw [e_es7]; exact sh_sI hs_es5 (p := 79) (b := 41) rfl rfl
    have hT_es7 : hOK tT es7 := by rw [e_es7]; exact hOK_sI hT_es5 (p := 79) (b := 41) rfl rfl (by rw [zI_toInt (by unfold i32 iLO iHI; omega)]; exact ⟨by show (0 : Int) ≤ v6; omega, by show v6 ≤ (30 : Int); omega⟩)
    rw [← e_es7]
    exact K2 v1 e_v1 es2 e_es2 v3 e_v3 c4 es5 v6 p_es5 es7 e_es7

theorem s_meet106 {O : pOut} {d kc ks : Nat} {Q : pRes → Prop} {es : PH} {m pr : Int} (hs_es : sh es) (hm : 0 ≤ m ∧ m ≤ 30) (hp : 0 ≤ pr ∧ pr ≤ 22) (hT_es : hOK tT es)
    (K1 : ∀ v1 : Int, v1 = (gI es 79 37).toInt → v1 ≠ 2 → aW O (d + 1) 248 kc ks Q (127, [some (.ref 143), some (.int (zI m)), some (.int (zI pr))], [], es))
    (K2 : ∀ v1 : Int, v1 = (gI es 79 37).toInt → ¬ (v1 ≠ 2) → ∀ es3 : PH, ∀ v4 : Int, take99P m es es3 v4 → ∀ es5 : PH, es5 = sI es3 79 42 (.int (zI v4)) → aW O (d + 1) 248 kc ks Q (127, [some (.ref 143), some (.int (zI m)), some (.int (zI pr))], [], es5)) :
    aW O (d + 1) 248 kc ks Q (106, [some (.ref 143), some (.int (zI m)), some (.int (zI pr))], [], es) := by
  refine x0 (r := (107, [some (.ref 143), some (.int (zI m)), some (.int (zI pr))], [.ref 143], es)) i_248_106 rfl ?_
  refine x_geti (p := 79) i_248_107 hs_es rfl rfl ?_
  obtain ⟨v1, e_v1⟩ : ∃ z : Int, z = (gI es 79 37).toInt := ⟨_, rfl⟩
  rw [← e_v1]
  have r_v1 : iLO ≤ v1 ∧ v1 ≤ iHI := by rw [e_v1]; exact i32_rng _
  unfold iLO iHI at r_v1
  refine x0 (r := (111, [some (.ref 143), some (.int (zI m)), some (.int (zI pr))], [.int (zI 2), .int (zI v1)], es)) i_248_110 (by rfl) ?_
  by_cases c2 : v1 ≠ 2
  · refine x_cmpT i_248_111 (by unfold i32 iLO iHI; omega) (by unfold i32 iLO iHI; omega) rfl (by simp only [zC, cR]; omega) ?_
    exact K1 v1 e_v1 c2
  · refine x_cmpF i_248_111 (by unfold i32 iLO iHI; omega) (by unfold i32 iLO iHI; omega) rfl (by simp only [zC, cR]; omega) ?_
    refine x0 (r := (115, [some (.ref 143), some (.int (zI m)), some (.int (zI pr))], [.ref 143], es)) i_248_114 rfl ?_
    refine x0 (r := (116, [some (.ref 143), some (.int (zI m)), some (.int (zI pr))], [.ref 143, .ref 143], es)) i_248_115 rfl ?_
    refine x0 (r := (117, [some (.ref 143), some (.int (zI m)), some (.int (zI pr))], [.ref 143, .ref 143, .ref 143], es)) i_248_116 rfl ?_
    refine x_getr (p := 79) (k := 163) i_248_117 hs_es rfl rfl ?_
    show aW _ _ _ _ _ _ (120, [some (.ref 143), some (.int (zI m)), some (.int (zI pr))], [.ref 163, .ref 143, .ref 143], es)
    refine x0 (r := (121, [some (.ref 143), some (.int (zI m)), some (.int (zI pr))], [.int (zI m), .ref 163, .ref 143, .ref 143], es)) i_248_120 rfl ?_
    refine x_call (vs := [.ref 143, .ref 163, .int (zI m)]) (rs := [.ref 143]) i_248_121 rfl (fun _ => rfl) rfl rfl rfl rfl rfl (pCall_v (p := 79) hs_es rfl rfl rfl rfl rfl (by decide) rfl rfl rfl rfl rfl) ?_
    show aW _ _ _ _ _ _ (0, [some (.ref 143), some (.ref 163), some (.int (zI m)), none], [], es)
    refine take99_spec hs_es hT_es (by omega) (fun es3 v4 p_es3 => ?_)
    have hs_es3 : sh es3 := p_es3.1
    have hT_es3 : hOK tT es3 := p_es3.2.1
    have r_v4 := p_es3.2.2.1
    show aW _ _ _ _ _ _ (124, [some (.ref 143), some (.int (zI m)), some (.int (zI pr))], [.int (zI v4), .ref 143], es3)
    refine x_puti (p := 79) (ty := .int) i_248_124 hs_es3 rfl rfl rfl (Or.inl rfl) ?_
    obtain ⟨es5, e_es5⟩ : ∃ z : PH, z = sI es3 79 42 (.int (zI v4)) := ⟨_, rfl⟩
    have hs_es5 : sh es5 := by rw [e_es5]; exact sh_sI hs_es3 (p := 79) (b := 42) rfl rfl
    have hT_es5 : hOK tT es5 := by rw [e_es5]; exact hOK_sI hT_es3 (p := 79) (b := 42) rfl rfl (by rw [zI_toInt (by unfold i32 iLO iHI; omega)]; exact ⟨by show (0 : Int) ≤ v4; omega, by show v4 ≤ (30 : Int); omega⟩)
    rw [← e_es5]
    exact K2 v1 e_v1 c2 es3 v4 p_es3 es5 e_es5

theorem s_meet127 {O : pOut} {d kc ks : Nat} {Q : pRes → Prop} {es : PH} {m pr : Int} (hs_es : sh es) (hm : 0 ≤ m ∧ m ≤ 30) (hp : 0 ≤ pr ∧ pr ≤ 22) (hT_es : hOK tT es)
    (K1 : ∀ v1 : Int, v1 = (gI es 79 37).toInt → 200 < v1 → Q (.inl (none), es, kc, ks))
    (K2 : ∀ v1 : Int, v1 = (gI es 79 37).toInt → ¬ (200 < v1) → ∀ v3 : Int, v3 = (gI es 79 37).toInt → v3 ≤ 1 → ∀ es5 : PH, ∀ v6 : Int, take100P m es es5 v6 → ∀ es7 : PH, es7 = sI es5 79 43 (.int (zI v6)) → ∀ v8 : Int, v8 = (gA es7 101 m.toNat).toInt → ∀ es9 : PH, es9 = sI es7 79 44 (.int (zI v8)) → Q (.inl (none), es9, kc, ks))
    (K3 : ∀ v1 : Int, v1 = (gI es 79 37).toInt → ¬ (200 < v1) → ∀ v3 : Int, v3 = (gI es 79 37).toInt → ¬ (v3 ≤ 1) → ∀ v10 : Int, v10 = (gA es 101 m.toNat).toInt → ∀ v11 : Int, v11 = (gI es 79 44).toInt → v10 < v11 → ∀ es13 : PH, ∀ v14 : Int, take100P m es es13 v14 → ∀ es15 : PH, es15 = sI es13 79 43 (.int (zI v14)) → ∀ v16 : Int, v16 = (gA es15 101 m.toNat).toInt → ∀ es17 : PH, es17 = sI es15 79 44 (.int (zI v16)) → Q (.inl (none), es17, kc, ks))
    (K4 : ∀ v1 : Int, v1 = (gI es 79 37).toInt → ¬ (200 < v1) → ∀ v3 : Int, v3 = (gI es 79 37).toInt → ¬ (v3 ≤ 1) → ∀ v10 : Int, v10 = (gA es 101 m.toNat).toInt → ∀ v11 : Int, v11 = (gI es 79 44).toInt → ¬ (v10 < v11) → Q (.inl (none), es, kc, ks)) :
    aW O (d + 1) 248 kc ks Q (127, [some (.ref 143), some (.int (zI m)), some (.int (zI pr))], [], es) := by
  refine x0 (r := (128, [some (.ref 143), some (.int (zI m)), some (.int (zI pr))], [.ref 143], es)) i_248_127 rfl ?_
  refine x_geti (p := 79) i_248_128 hs_es rfl rfl ?_
  obtain ⟨v1, e_v1⟩ : ∃ z : Int, z = (gI es 79 37).toInt := ⟨_, rfl⟩
  rw [← e_v1]
  have r_v1 : iLO ≤ v1 ∧ v1 ≤ iHI := by rw [e_v1]; exact i32_rng _
  unfold iLO iHI at r_v1
  refine x0 (r := (134, [some (.ref 143), some (.int (zI m)), some (.int (zI pr))], [.int (zI 200), .int (zI v1)], es)) i_248_131 (by rfl) ?_
  by_cases c2 : 200 < v1
  · refine x_cmpT i_248_134 (by unfold i32 iLO iHI; omega) (by unfold i32 iLO iHI; omega) rfl (by simp only [zC, cR]; omega) ?_
    refine x_ret (v := none) i_248_158 rfl (fun _ => rfl) rfl rfl rfl ?_
    exact K1 v1 e_v1 c2
  · refine x_cmpF i_248_134 (by unfold i32 iLO iHI; omega) (by unfold i32 iLO iHI; omega) rfl (by simp only [zC, cR]; omega) ?_
    refine x0 (r := (138, [some (.ref 143), some (.int (zI m)), some (.int (zI pr))], [.ref 143], es)) i_248_137 rfl ?_
    refine x_geti (p := 79) i_248_138 hs_es rfl rfl ?_
    obtain ⟨v3, e_v3⟩ : ∃ z : Int, z = (gI es 79 37).toInt := ⟨_, rfl⟩
    rw [← e_v3]
    have r_v3 : iLO ≤ v3 ∧ v3 ≤ iHI := by rw [e_v3]; exact i32_rng _
    unfold iLO iHI at r_v3
    refine x0 (r := (142, [some (.ref 143), some (.int (zI m)), some (.int (zI pr))], [.int (zI 1), .int (zI v3)], es)) i_248_141 (by rfl) ?_
    by_cases c4 : v3 ≤ 1
    · refine x_cmpT i_248_142 (by unfold i32 iLO iHI; omega) (by unfold i32 iLO iHI; omega) rfl (by simp only [zC, cR]; omega) ?_
      refine x0 (r := (160, [some (.ref 143), some (.int (zI m)), some (.int (zI pr))], [.ref 143], es)) i_248_159 rfl ?_
      refine x0 (r := (161, [some (.ref 143), some (.int (zI m)), some (.int (zI pr))], [.ref 143, .ref 143], es)) i_248_160 rfl ?_
      refine x0 (r := (162, [some (.ref 143), some (.int (zI m)), some (.int (zI pr))], [.ref 143, .ref 143, .ref 143], es)) i_248_161 rfl ?_
      refine x_getr (p := 79) (k := 164) i_248_162 hs_es rfl rfl ?_
      show aW _ _ _ _ _ _ (165, [some (.ref 143), some (.int (zI m)), some (.int (zI pr))], [.ref 164, .ref 143, .ref 143], es)
      refine x0 (r := (166, [some (.ref 143), some (.int (zI m)), some (.int (zI pr))], [.int (zI m), .ref 164, .ref 143, .ref 143], es)) i_248_165 rfl ?_
      refine x_call (vs := [.ref 143, .ref 164, .int (zI m)]) (rs := [.ref 143]) i_248_166 rfl (fun _ => rfl) rfl rfl rfl rfl rfl (pCall_v (p := 79) hs_es rfl rfl rfl rfl rfl (by decide) rfl rfl rfl rfl rfl) ?_
      show aW _ _ _ _ _ _ (0, [some (.ref 143), some (.ref 164), some (.int (zI m)), none], [], es)
      refine take100_spec hs_es hT_es (by omega) (fun es5 v6 p_es5 => ?_)
      have hs_es5 : sh es5 := p_es5.1
      have hT_es5 : hOK tT es5 := p_es5.2.1
      have r_v6 := p_es5.2.2.1
      show aW _ _ _ _ _ _ (169, [some (.ref 143), some (.int (zI m)), some (.int (zI pr))], [.int (zI v6), .ref 143], es5)
      refine x_puti (p := 79) (ty := .int) i_248_169 hs_es5 rfl rfl rfl (Or.inl rfl) ?_
      obtain ⟨es7, e_es7⟩ : ∃ z : PH, z = sI es5 79 43 (.int (zI v6)) := ⟨_, rfl⟩
      have hs_es7 : sh es7 := by rw [e_es7]; exact sh_sI hs_es5 (p := 79) (b := 43) rfl rfl
      have hT_es7 : hOK tT es7 := by rw [e_es7]; exact hOK_sI hT_es5 (p := 79) (b := 43) rfl rfl (by rw [zI_toInt (by unfold i32 iLO iHI; omega)]; exact ⟨by show (0 : Int) ≤ v6; omega, by show v6 ≤ (30 : Int); omega⟩)
      rw [← e_es7]
      refine x0 (r := (173, [some (.ref 143), some (.int (zI m)), some (.int (zI pr))], [.ref 143], es7)) i_248_172 rfl ?_
      refine x0 (r := (174, [some (.ref 143), some (.int (zI m)), some (.int (zI pr))], [.ref 143, .ref 143], es7)) i_248_173 rfl ?_
      refine x_getr (p := 79) (k := 165) i_248_174 hs_es7 rfl rfl ?_
      show aW _ _ _ _ _ _ (177, [some (.ref 143), some (.int (zI m)), some (.int (zI pr))], [.ref 165, .ref 143], es7)
      refine x0 (r := (178, [some (.ref 143), some (.int (zI m)), some (.int (zI pr))], [.int (zI m), .ref 165, .ref 143], es7)) i_248_177 rfl ?_
      refine x_iald (p := 101) i_248_178 hs_es7 rfl (by unfold i32 iLO iHI; omega) (by omega) (by omega) ?_
      obtain ⟨v8, e_v8⟩ : ∃ z : Int, z = (gA es7 101 m.toNat).toInt := ⟨_, rfl⟩
      rw [← e_v8]
      have r_v8 : iLO ≤ v8 ∧ v8 ≤ iHI := by rw [e_v8]; exact i32_rng _
      unfold iLO iHI at r_v8
      refine x_puti (p := 79) (ty := .int) i_248_179 hs_es7 rfl rfl rfl (Or.inl rfl) ?_
      obtain ⟨es9, e_es9⟩ : ∃ z : PH, z = sI es7 79 44 (.int (zI v8)) := ⟨_, rfl⟩
      have hs_es9 : sh es9 := by rw [e_es9]; exact sh_sI hs_es7 (p := 79) (b := 44) rfl rfl
      have hT_es9 : hOK tT es9 := by rw [e_es9]; exact hOK_sI hT_es7 (p := 79) (b := 44) (lo := iLO) (hi := iHI) rfl rfl (i32_rng _)
      rw [← e_es9]
      refine x_ret (v := none) i_248_182 rfl (fun _ => rfl) rfl rfl rfl ?_
      exact K2 v1 e_v1 c2 v3 e_v3 c4 es5 v6 p_es5 es7 e_es7 v8 e_v8 es9 e_es9
    · refine x_cmpF i_248_142 (by unfold i32 iLO iHI; omega) (by unfold i32 iLO iHI; omega) rfl (by simp only [zC, cR]; omega) ?_
      refine x0 (r := (146, [some (.ref 143), some (.int (zI m)), some (.int (zI pr))], [.ref 143], es)) i_248_145 rfl ?_
      refine x_getr (p := 79) (k := 165) i_248_146 hs_es rfl rfl ?_
      show aW _ _ _ _ _ _ (149, [some (.ref 143), some (.int (zI m)), some (.int (zI pr))], [.ref 165], es)
      refine x0 (r := (150, [some (.ref 143), some (.int (zI m)), some (.int (zI pr))], [.int (zI m), .ref 165], es)) i_248_149 rfl ?_
      refine x_iald (p := 101) i_248_150 hs_es rfl (by unfold i32 iLO iHI; omega) (by omega) (by omega) ?_
      obtain ⟨v10, e_v10⟩ : ∃ z : Int, z = (gA es 101 m.toNat).toInt := ⟨_, rfl⟩
      rw [← e_v10]
      have r_v10 : iLO ≤ v10 ∧ v10 ≤ iHI := by rw [e_v10]; exact i32_rng _
      unfold iLO iHI at r_v10
      refine x0 (r := (152, [some (.ref 143), some (.int (zI m)), some (.int (zI pr))], [.ref 143, .int (zI v10)], es)) i_248_151 rfl ?_
      refine x_geti (p := 79) i_248_152 hs_es rfl rfl ?_
      obtain ⟨v11, e_v11⟩ : ∃ z : Int, z = (gI es 79 44).toInt := ⟨_, rfl⟩
      rw [← e_v11]
      have r_v11 : iLO ≤ v11 ∧ v11 ≤ iHI := by rw [e_v11]; exact i32_rng _
      unfold iLO iHI at r_v11
      by_cases c12 : v10 < v11
      · refine x_cmpT i_248_155 (by unfold i32 iLO iHI; omega) (by unfold i32 iLO iHI; omega) rfl (by simp only [zC, cR]; omega) ?_
        refine x0 (r := (160, [some (.ref 143), some (.int (zI m)), some (.int (zI pr))], [.ref 143], es)) i_248_159 rfl ?_
        refine x0 (r := (161, [some (.ref 143), some (.int (zI m)), some (.int (zI pr))], [.ref 143, .ref 143], es)) i_248_160 rfl ?_
        refine x0 (r := (162, [some (.ref 143), some (.int (zI m)), some (.int (zI pr))], [.ref 143, .ref 143, .ref 143], es)) i_248_161 rfl ?_
        refine x_getr (p := 79) (k := 164) i_248_162 hs_es rfl rfl ?_
        show aW _ _ _ _ _ _ (165, [some (.ref 143), some (.int (zI m)), some (.int (zI pr))], [.ref 164, .ref 143, .ref 143], es)
        refine x0 (r := (166, [some (.ref 143), some (.int (zI m)), some (.int (zI pr))], [.int (zI m), .ref 164, .ref 143, .ref 143], es)) i_248_165 rfl ?_
        refine x_call (vs := [.ref 143, .ref 164, .int (zI m)]) (rs := [.ref 143]) i_248_166 rfl (fun _ => rfl) rfl rfl rfl rfl rfl (pCall_v (p := 79) hs_es rfl rfl rfl rfl rfl (by decide) rfl rfl rfl rfl rfl) ?_
        show aW _ _ _ _ _ _ (0, [some (.ref 143), some (.ref 164), some (.int (zI m)), none], [], es)
        refine take100_spec hs_es hT_es (by omega) (fun es13 v14 p_es13 => ?_)
        have hs_es13 : sh es13 := p_es13.1
        have hT_es13 : hOK tT es13 := p_es13.2.1
        have r_v14 := p_es13.2.2.1
        show aW _ _ _ _ _ _ (169, [some (.ref 143), some (.int (zI m)), some (.int (zI pr))], [.int (zI v14), .ref 143], es13)
        refine x_puti (p := 79) (ty := .int) i_248_169 hs_es13 rfl rfl rfl (Or.inl rfl) ?_
        obtain ⟨es15, e_es15⟩ : ∃ z : PH, z = sI es13 79 43 (.int (zI v14)) := ⟨_, rfl⟩
        have hs_es15 : sh es15 := by rw [e_es15]; exact sh_sI hs_es13 (p := 79) (b := 43) rfl rfl
        have hT_es15 : hOK tT es15 := by rw [e_es15]; exact hOK_sI hT_es13 (p := 79) (b := 43) rfl rfl (by rw [zI_toInt (by unfold i32 iLO iHI; omega)]; exact ⟨by show (0 : Int) ≤ v14; omega, by show v14 ≤ (30 : Int); omega⟩)
        rw [← e_es15]
        refine x0 (r := (173, [some (.ref 143), some (.int (zI m)), some (.int (zI pr))], [.ref 143], es15)) i_248_172 rfl ?_
        refine x0 (r := (174, [some (.ref 143), some (.int (zI m)), some (.int (zI pr))], [.ref 143, .ref 143], es15)) i_248_173 rfl ?_
        refine x_getr (p := 79) (k := 165) i_248_174 hs_es15 rfl rfl ?_
        show aW _ _ _ _ _ _ (177, [some (.ref 143), some (.int (zI m)), some (.int (zI pr))], [.ref 165, .ref 143], es15)
        refine x0 (r := (178, [some (.ref 143), some (.int (zI m)), some (.int (zI pr))], [.int (zI m), .ref 165, .ref 143], es15)) i_248_177 rfl ?_
        refine x_iald (p := 101) i_248_178 hs_es15 rfl (by unfold i32 iLO iHI; omega) (by omega) (by omega) ?_
        obtain ⟨v16, e_v16⟩ : ∃ z : Int, z = (gA es15 101 m.toNat).toInt := ⟨_, rfl⟩
        rw [← e_v16]
        have r_v16 : iLO ≤ v16 ∧ v16 ≤ iHI := by rw [e_v16]; exact i32_rng _
        unfold iLO iHI at r_v16
        refine x_puti (p := 79) (ty := .int) i_248_179 hs_es15 rfl rfl rfl (Or.inl rfl) ?_
        obtain ⟨es17, e_es17⟩ : ∃ z : PH, z = sI es15 79 44 (.int (zI v16)) := ⟨_, rfl⟩
        have hs_es17 : sh es17 := by rw [e_es17]; exact sh_sI hs_es15 (p := 79) (b := 44) rfl rfl
        have hT_es17 : hOK tT es17 := by rw [e_es17]; exact hOK_sI hT_es15 (p := 79) (b := 44) (lo := iLO) (hi := iHI) rfl rfl (i32_rng _)
        rw [← e_es17]
        refine x_ret (v := none) i_248_182 rfl (fun _ => rfl) rfl rfl rfl ?_
        exact K3 v1 e_v1 c2 v3 e_v3 c4 v10 e_v10 v11 e_v11 c12 es13 v14 p_es13 es15 e_es15 v16 e_v16 es17 e_es17
      · refine x_cmpF i_248_155 (by unfold i32 iLO iHI; omega) (by unfold i32 iLO iHI; omega) rfl (by simp only [zC, cR]; omega) ?_
        refine x_ret (v := none) i_248_158 rfl (fun _ => rfl) rfl rfl rfl ?_
        exact K4 v1 e_v1 c2 v3 e_v3 c4 v10 e_v10 v11 e_v11 c12
def goD (W : Nat → Int32) (fz : Int) (bd : Nat → Int) (m : Nat) : Prop := m < 30 ∧ (fz ≠ 0 ∨ (W 3).toInt ≠ (m : Int)) ∧ ¬ barD W fz bd m
noncomputable def goI (W : Nat → Int32) (fz : Int) (bd : Nat → Int) (m : Nat) : Int := @ite Int (goD W fz bd m) (Classical.propDecidable _) 1 0
def goP (m : Int) (es : PH) (v : Int) : Prop := v = goI (gA es 80) (gI es 79 30).toInt (brow es m.toNat) m.toNat ∧ 0 ≤ v ∧ v ≤ 1
def frMe : List aMod := [(79, 39, 0, 1), (79, 43, 0, 1), (79, 44, 0, 1), (79, 45, 0, 1), (79, 46, 0, 1), (96, 0, 0, 24), (97, 0, 0, 24), (98, 0, 0, 30), (99, 0, 0, 30), (100, 0, 0, 30)]
def metD (m : Nat) (pr : Int) (es : PH) : Prop := (gI es 79 26).toInt ≤ pr ∧ ¬ barD (gA es 80) (gI es 79 30).toInt (brow es m) m ∧ lenD (gA es 80) (gI es 79 30).toInt m
def meetsN (m pr : Int) (es es' : PH) : Prop := sh es' ∧ hOK tT es' ∧ fr frMe es es' ∧ (¬ metD m.toNat pr es → es' = es) ∧
  (metD m.toNat pr es → (gI es' 79 37).toInt = (gI es 79 37).toInt + 1 ∧ (∀ k, gJ es' 96 k = if k = (gI es 79 26).toInt.toNat then gJ es 96 k + 1 else gJ es 96 k) ∧
    ((gI es 79 37).toInt = 0 → (gI es' 79 41).toInt = m ∧ ∀ k, k < m.toNat → gA es' 98 k = gA es 91 k) ∧ ((gI es 79 37).toInt ≠ 0 → gI es' 79 41 = gI es 79 41 ∧ gA es' 98 = gA es 98))
section
variable {O : pOut} {d kc ks : Nat} {Q : pRes → Prop} {es : PH}
theorem go_spec {m : Int} (hs : sh es) (hT : hOK tT es) (hm : 0 ≤ m ∧ m ≤ 30) (K : ∀ v, goP m es v → Q (.inl (some (.int (zI v))), es, kc, ks)) :
    aW O (d + 2) 252 kc ks Q (0, [some (.ref 143), some (.int (zI m))], [], es) := by
  have k0 : ¬ goD (gA es 80) (gI es 79 30).toInt (brow es m.toNat) m.toNat → Q (.inl (some (.int (zI 0))), es, kc, ks) := fun h => K 0 ⟨by unfold goI; rw [if_neg h], by omega, by omega⟩
  have k1 : goD (gA es 80) (gI es 79 30).toInt (brow es m.toNat) m.toNat → Q (.inl (some (.int (zI 1))), es, kc, ks) := fun h => K 1 ⟨by unfold goI; rw [if_pos h], by omega, by omega⟩
  have b1 : ∀ v : Int, barP m es v → v ≠ 0 → barD (gA es 80) (gI es 79 30).toInt (brow es m.toNat) m.toNat := by
    intro v hv h
    have h1 := hv.1
    unfold barI at h1
    split at h1
    · assumption
    · exact absurd h1 h
  have b0 : ∀ v : Int, barP m es v → ¬ (v ≠ 0) → ¬ barD (gA es 80) (gI es 79 30).toInt (brow es m.toNat) m.toNat := by
    intro v hv h
    have h1 := hv.1
    unfold barI at h1
    split at h1
    · omega
    · assumption
  refine s_go0 (d := d) hs hm hT (fun h => k0 (fun hg => ?_)) (fun h v2 e2 h2 v4 p4 h4 => k0 (fun hg => hg.2.2 (b1 _ p4 h4))) (fun h v2 e2 h2 v4 p4 h4 => k1 ⟨by omega, Or.inl (by rw [← e2]; exact h2), b0 _ p4 h4⟩) (fun h v2 e2 h2 v6 e6 h6 => k0 (fun hg => ?_)) (fun h v2 e2 h2 v6 e6 h6 v8 p8 h8 => k0 (fun hg => hg.2.2 (b1 _ p8 h8))) (fun h v2 e2 h2 v6 e6 h6 v8 p8 h8 => k1 ⟨by omega, Or.inr (by have e : v6 = (gA es 80 3).toInt := e6; omega), b0 _ p8 h8⟩)
  · have := hg.1; omega
  · have e : v6 = (gA es 80 3).toInt := e6
    rcases hg.2.1 with h9 | h9 <;> omega
theorem meets_T {m pr : Int} (hs : sh es) (hT : hOK tT es) (hm : 0 ≤ m ∧ m ≤ 30) (hp : 0 ≤ pr ∧ pr ≤ 22) (hf : 0 ≤ (gI es 79 37).toInt ∧ (gI es 79 37).toInt ≤ 10000) (K : ∀ es', meetsN m pr es es' → Q (.inl none, es', kc, ks)) :
    aW O (d + 2) 248 kc ks Q (0, [some (.ref 143), some (.int (zI m)), some (.int (zI pr))], [], es) := by
  have none_ : ¬ metD m.toNat pr es → Q (.inl none, es, kc, ks) := fun h => K es ⟨hs, hT, fr_refl _ _, fun _ => rfl, fun hh => absurd hh h⟩
  -- the best
  have s127 : ∀ es1, hOK tT es1 → (∀ es', hOK tT es' → fr [(79, 45, 0, 1), (79, 46, 0, 1), (100, 0, 0, 30)] es1 es' → Q (.inl none, es', kc, ks)) → aW O (d + 2) 248 kc ks Q (127, [some (.ref 143), some (.int (zI m)), some (.int (zI pr))], [], es1) := by
    intro es1 hT1 K1
    have best : ∀ es5 v6, take100P m es1 es5 v6 → ∀ es7, es7 = sI es5 79 43 (.int (zI v6)) → ∀ v8 : Int, ∀ es9, es9 = sI es7 79 44 (.int (zI v8)) → Q (.inl none, es9, kc, ks) := by
      intro es5 v6 p5 es7 e7 v8 es9 e9
      obtain ⟨q1, q2, q3, q4, q5, q6⟩ := p5
      have hT7 : hOK tT es7 := by
        rw [e7]
        exact hOK_sI q2 (p := 79) (b := 43) rfl rfl (by rw [zI_toInt (by unfold i32 iLO iHI; omega)]; exact q3)
      have hT9 : hOK tT es9 := by
        rw [e9]
        exact hOK_sI hT7 (p := 79) (b := 44) (lo := iLO) (hi := iHI) rfl rfl (i32_rng _)
      refine K1 es9 hT9 ?_
      rw [e9, e7]
      exact fr_trans (fr_wk (by simp only [mAl, mHq, true_and, and_true, false_and, and_false, or_false, false_or, not_false_eq_true, Nat.reduceEqDiff] <;> (repeat' apply And.intro) <;> intros <;> omega) q5) (fr_trans (fr_sI (mIn_yes (by simp only [mHq, true_and, and_true, false_and, and_false, or_false, false_or, not_false_eq_true, Nat.reduceEqDiff] <;> omega))) (fr_sI (mIn_yes (by simp only [mHq, true_and, and_true, false_and, and_false, or_false, false_or, not_false_eq_true, Nat.reduceEqDiff] <;> omega))))
    refine s_meet127 (d := d + 1) (sh_of hT1) hm hp hT1 (fun v1 e1 h1 => K1 es1 hT1 (fr_refl _ _)) (fun v1 e1 h1 v3 e3 h3 es5 v6 p5 es7 e7 v8 e8 es9 e9 => best es5 v6 p5 es7 e7 v8 es9 e9) (fun v1 e1 h1 v3 e3 h3 v10 e10 v11 e11 h11 es5 v6 p5 es7 e7 v8 e8 es9 e9 => best es5 v6 p5 es7 e7 v8 es9 e9) (fun v1 e1 h1 v3 e3 h3 v10 e10 v11 e11 h11 => K1 es1 hT1 (fr_refl _ _))
  have s106 : ∀ es1, hOK tT es1 → (∀ es', hOK tT es' → fr [(79, 44, 0, 1), (79, 45, 0, 1), (79, 46, 0, 1), (99, 0, 0, 30), (100, 0, 0, 30)] es1 es' → Q (.inl none, es', kc, ks)) → aW O (d + 2) 248 kc ks Q (106, [some (.ref 143), some (.int (zI m)), some (.int (zI pr))], [], es1) := by
    intro es1 hT1 K1
    refine s_meet106 (d := d + 1) (sh_of hT1) hm hp hT1 (fun v1 e1 h1 => s127 es1 hT1 (fun es' h hf => K1 es' h (fr_wk (by simp only [mAl, mHq, true_and, and_true, false_and, and_false, or_false, false_or, not_false_eq_true, Nat.reduceEqDiff] <;> (repeat' apply And.intro) <;> intros <;> omega) hf))) (fun v1 e1 h1 es5 v6 p5 es7 e7 => ?_)
    obtain ⟨q1, q2, q3, q4, q5, q6⟩ := p5
    have hT7 : hOK tT es7 := by
      rw [e7]
      exact hOK_sI q2 (p := 79) (b := 42) rfl rfl (by rw [zI_toInt (by unfold i32 iLO iHI; omega)]; exact q3)
    refine s127 es7 hT7 (fun es' h hf => K1 es' h (fr_trans ?_ (fr_wk (by simp only [mAl, mHq, true_and, and_true, false_and, and_false, or_false, false_or, not_false_eq_true, Nat.reduceEqDiff] <;> (repeat' apply And.intro) <;> intros <;> omega) hf)))
    rw [e7]
    exact fr_trans (fr_wk (by simp only [mAl, mHq, true_and, and_true, false_and, and_false, or_false, false_or, not_false_eq_true, Nat.reduceEqDiff] <;> (repeat' apply And.intro) <;> intros <;> omega) q5) (fr_sI (mIn_yes (by simp only [mHq, true_and, and_true, false_and, and_false, or_false, false_or, not_false_eq_true, Nat.reduceEqDiff] <;> omega)))
  -- from 75 on: found, and the first
  have s75 : metD m.toNat pr es → ∀ es1, hOK tT es1 → fr [(96, 0, 0, 24), (97, 0, 0, 24)] es es1 → (∀ k, gJ es1 96 k = if k = (gI es 79 26).toInt.toNat then gJ es 96 k + 1 else gJ es 96 k) → aW O (d + 2) 248 kc ks Q (75, [some (.ref 143), some (.int (zI m)), some (.int (zI pr))], [], es1) := by
    intro hmet es1 hT1 hf1 hJ
    have f37 : gI es1 79 37 = gI es 79 37 := fr_fld hf1 hs (p := 79) (b := 37) rfl (by simp only [mHq, true_and, and_true, false_and, and_false, or_false, false_or, not_false_eq_true, Nat.reduceEqDiff] <;> omega)
    have a98 : gA es1 98 = gA es 98 := fr_row hf1 hs (p := 98) (t := 0) (n := 30) rfl (by decide) (fun k => by simp only [mHq, true_and, and_true, false_and, and_false, or_false, false_or, not_false_eq_true, Nat.reduceEqDiff] <;> omega)
    have a91 : gA es1 91 = gA es 91 := fr_row hf1 hs (p := 91) (t := 0) (n := 31) rfl (by decide) (fun k => by simp only [mHq, true_and, and_true, false_and, and_false, or_false, false_or, not_false_eq_true, Nat.reduceEqDiff] <;> omega)
    have f41 : gI es1 79 41 = gI es 79 41 := fr_fld hf1 hs (p := 79) (b := 41) rfl (by simp only [mHq, true_and, and_true, false_and, and_false, or_false, false_or, not_false_eq_true, Nat.reduceEqDiff] <;> omega)
    have fin : ∀ es7, hOK tT es7 → fr frMe es1 es7 → (∀ k, gJ es7 96 k = gJ es1 96 k) → (gI es7 79 37).toInt = (gI es 79 37).toInt + 1 → ((gI es 79 37).toInt = 0 → (gI es7 79 41).toInt = m ∧ ∀ k, k < m.toNat → gA es7 98 k = gA es 91 k) → ((gI es 79 37).toInt ≠ 0 → gI es7 79 41 = gI es 79 41 ∧ gA es7 98 = gA es 98) →
        aW O (d + 2) 248 kc ks Q (106, [some (.ref 143), some (.int (zI m)), some (.int (zI pr))], [], es7) := by
      intro es7 hT7 hf7 hJ7 h37 h0 h1
      refine s106 es7 hT7 (fun es' hT' hf' => K es' ⟨sh_of hT', hT', ?_, fun hh => absurd hmet hh, fun _ => ⟨?_, fun k => ?_, fun hz => ?_, fun hz => ?_⟩⟩)
      · exact fr_trans (fr_wk (by simp only [mAl, frMe, mHq, true_and, and_true, false_and, and_false, or_false, false_or, not_false_eq_true, Nat.reduceEqDiff] <;> (repeat' apply And.intro) <;> intros <;> omega) hf1) (fr_trans hf7 (fr_wk (by simp only [mAl, frMe, mHq, true_and, and_true, false_and, and_false, or_false, false_or, not_false_eq_true, Nat.reduceEqDiff] <;> (repeat' apply And.intro) <;> intros <;> omega) hf'))
      · rw [fr_fld hf' (sh_of hT7) (p := 79) (b := 37) rfl (by simp only [mHq, true_and, and_true, false_and, and_false, or_false, false_or, not_false_eq_true, Nat.reduceEqDiff] <;> omega)]; exact h37
      · rw [fr_gJ hf' (sh_of hT7) (p := 96) (n := 24) rfl (by simp only [mHq, true_and, and_true, false_and, and_false, or_false, false_or, not_false_eq_true, Nat.reduceEqDiff] <;> omega), hJ7, hJ]
      · rw [fr_fld hf' (sh_of hT7) (p := 79) (b := 41) rfl (by simp only [mHq, true_and, and_true, false_and, and_false, or_false, false_or, not_false_eq_true, Nat.reduceEqDiff] <;> omega), fr_row hf' (sh_of hT7) (p := 98) (t := 0) (n := 30) rfl (by decide) (fun k => by simp only [mHq, true_and, and_true, false_and, and_false, or_false, false_or, not_false_eq_true, Nat.reduceEqDiff] <;> omega)]
        exact h0 hz
      · rw [fr_fld hf' (sh_of hT7) (p := 79) (b := 41) rfl (by simp only [mHq, true_and, and_true, false_and, and_false, or_false, false_or, not_false_eq_true, Nat.reduceEqDiff] <;> omega), fr_row hf' (sh_of hT7) (p := 98) (t := 0) (n := 30) rfl (by decide) (fun k => by simp only [mHq, true_and, and_true, false_and, and_false, or_false, false_or, not_false_eq_true, Nat.reduceEqDiff] <;> omega)]
        exact h1 hz
    refine s_meet75 (d := d + 1) (sh_of hT1) hm hp (by rw [f37]; exact hf) hT1 (fun v1 e1 es2 e2 v3 e3 h3 => ?_) (fun v1 e1 es2 e2 v3 e3 h3 es5 v6 p5 es7 e7 => ?_)
    all_goals
      rw [f37] at e1
      have hz1 : (zI (v1 + 1)).toInt = v1 + 1 := zI_toInt (by unfold i32 iLO iHI; omega)
      have hT2 : hOK tT es2 := by rw [e2]; exact hOK_sI hT1 (p := 79) (b := 37) (lo := iLO) (hi := iHI) rfl rfl (i32_rng _)
      have g37 : (gI es2 79 37).toInt = v1 + 1 := by rw [e2, gI_sI (sh_of hT1) (p := 79) rfl (by decide)]; exact hz1
      have fr2 : fr frMe es1 es2 := by rw [e2]; exact fr_sI (mIn_yes (by simp only [frMe, mHq, true_and, and_true, false_and, and_false, or_false, false_or, not_false_eq_true, Nat.reduceEqDiff] <;> omega))
    · refine fin es2 hT2 fr2 (fun k => by rw [e2, gJ_sI]) (by rw [g37, e1]) (fun hz => by omega) (fun hz => ⟨?_, ?_⟩)
      · rw [e2, gI_sI_ne (Or.inr (by decide)), f41]
      · rw [e2, gA_sI, a98]
    · obtain ⟨q1, q2, q3, q4, q5, q6⟩ := p5
      have hT7 : hOK tT es7 := by
        rw [e7]
        exact hOK_sI q2 (p := 79) (b := 41) rfl rfl (by rw [zI_toInt (by unfold i32 iLO iHI; omega)]; exact q3)
      have b37 : gI es7 79 37 = gI es2 79 37 := by
        rw [e7, gI_sI_ne (Or.inr (by decide))]
        exact fr_fld q5 (sh_of hT2) (p := 79) (b := 37) rfl (by simp only [mHq, true_and, and_true, false_and, and_false, or_false, false_or, not_false_eq_true, Nat.reduceEqDiff] <;> omega)
      refine fin es7 hT7 ?_ (fun k => ?_) (by rw [b37, g37, e1]) (fun hz => ⟨?_, fun k hk => ?_⟩) (fun hz => by omega)
      · rw [e7]
        exact fr_trans fr2 (fr_trans (fr_wk (by simp only [mAl, frMe, mHq, true_and, and_true, false_and, and_false, or_false, false_or, not_false_eq_true, Nat.reduceEqDiff] <;> (repeat' apply And.intro) <;> intros <;> omega) q5) (fr_sI (mIn_yes (by simp only [frMe, mHq, true_and, and_true, false_and, and_false, or_false, false_or, not_false_eq_true, Nat.reduceEqDiff] <;> omega))))
      · rw [e7, gJ_sI, fr_gJ q5 (sh_of hT2) (p := 96) (n := 24) rfl (by simp only [mHq, true_and, and_true, false_and, and_false, or_false, false_or, not_false_eq_true, Nat.reduceEqDiff] <;> omega), e2, gJ_sI]
      · rw [e7, gI_sI q1 (p := 79) rfl (by decide), zI_toInt (by unfold i32 iLO iHI; omega), q4]
      · rw [e7, gA_sI, q6 k hk, e2, gA_sI, a91]
  have b1 : ∀ v : Int, barP m es v → v ≠ 0 → barD (gA es 80) (gI es 79 30).toInt (brow es m.toNat) m.toNat := by
    intro v hv h
    have h1 := hv.1
    unfold barI at h1
    split at h1
    · assumption
    · exact absurd h1 h
  have b0 : ∀ v : Int, barP m es v → ¬ (v ≠ 0) → ¬ barD (gA es 80) (gI es 79 30).toInt (brow es m.toNat) m.toNat := by
    intro v hv h
    have h1 := hv.1
    unfold barI at h1
    split at h1
    · omega
    · assumption
  have l1 : ∀ v : Int, lenP m es v → v ≠ 0 → lenD (gA es 80) (gI es 79 30).toInt m.toNat := by
    intro v hv h
    have h1 := hv.1
    unfold lenI at h1
    split at h1
    · assumption
    · exact absurd h1 h
  have l0 : ∀ v : Int, lenP m es v → ¬ (v ≠ 0) → ¬ lenD (gA es 80) (gI es 79 30).toInt m.toNat := by
    intro v hv h
    have h1 := hv.1
    unfold lenI at h1
    split at h1
    · omega
    · assumption
  refine s_meet0 (d := d) hs hm hp hT (fun v1 e1 h1 => none_ (fun hh => by have := hh.1; omega)) (fun v1 e1 h1 v3 p3 h3 => none_ (fun hh => hh.2.1 (b1 _ p3 h3))) (fun v1 e1 h1 v3 p3 h3 v5 p5 h5 => ?_) (fun v1 e1 h1 v3 p3 h3 v5 p5 h5 => none_ (fun hh => l0 _ p5 h5 hh.2.2))
  have hmet : metD m.toNat pr es := ⟨by omega, b0 _ p3 h3, l1 _ p5 h5⟩
  have hb26 : 0 ≤ (gI es 79 26).toInt ∧ (gI es 79 26).toInt ≤ 3000 := gI_bd hT (p := 79) (b := 26) rfl rfl
  have many : ∀ es4, es4 = sJ es 96 (gI es 79 26).toInt.toNat (gJ es 96 (gI es 79 26).toInt.toNat + Int64.ofNat 1) → ∀ es5, es5 = es4 ∨ (∃ k w, es5 = sJ es4 97 k w ∧ k < 24) → aW O (d + 2) 248 kc ks Q (75, [some (.ref 143), some (.int (zI m)), some (.int (zI pr))], [], es5) := by
    intro es4 e4 es5 h5
    have hT4 : hOK tT es4 := by rw [e4]; exact hOK_sJ hT
    have f4 : fr [(96, 0, 0, 24), (97, 0, 0, 24)] es es4 := by rw [e4]; exact fr_sJ (mIn_yes (by simp only [mHq, true_and, and_true, false_and, and_false, or_false, false_or, not_false_eq_true, Nat.reduceEqDiff] <;> omega))
    have j4 : ∀ k, gJ es4 96 k = if k = (gI es 79 26).toInt.toNat then gJ es 96 k + 1 else gJ es 96 k := by
      intro k
      rw [e4, gJ_sJ hs (p := 96) (n := 24) rfl]
      unfold vp_updL
      split
      · rename_i hk; rw [hk]; rfl
      · rfl
    rcases h5 with rfl | ⟨k, w, h5, hk⟩
    · exact s75 hmet _ hT4 f4 j4
    · refine s75 hmet es5 (by rw [h5]; exact hOK_sJ hT4) (by rw [h5]; exact fr_trans f4 (fr_sJ (mIn_yes (by simp only [mHq, true_and, and_true, false_and, and_false, or_false, false_or, not_false_eq_true, Nat.reduceEqDiff] <;> omega)))) (fun i => ?_)
      rw [h5, gJ_sJ_ne (by decide)]
      exact j4 i
  refine s_meet25 (d := d + 2) hs hm hp (by omega) hT (fun v1 e1 w2 f2 w3 f3 es4 e4 v5 e5 h5 => ?_) (fun v1 e1 w2 f2 w3 f3 es4 e4 v5 e5 h5 v7 e7 v8 e8 v9 e9 h9 => ?_) (fun v1 e1 w2 f2 w3 f3 es4 e4 v5 e5 h5 v7 e7 v8 e8 v9 e9 h9 => ?_)
  all_goals rw [f3, f2, e1] at e4
  · exact many es4 e4 es4 (Or.inl rfl)
  · exact many es4 e4 es4 (Or.inl rfl)
  · have hT4 : hOK tT es4 := by rw [e4]; exact hOK_sJ hT
    have g26 : gI es4 79 26 = gI es 79 26 := by rw [e4]; exact gI_sJ
    refine s_meet62 (d := d + 2) (sh_of hT4) hm hp (by rw [g26]; omega) hT4 (fun v11 e11 w12 f12 w13 f13 es14 e14 => ?_)
    refine many es4 e4 es14 (Or.inr ⟨_, _, e14, ?_⟩)
    rw [e11, g26]
    omega
end
