/-! MEASURE, by the document's tokens; printed by wip/rel/meas.py -/
theorem s_gsg0 {O : pOut} {d kc ks : Nat} {Q : pRes → Prop} {es : PH} {R : Nat → Int32} {n0 : Nat} {c : Int} (hs_es : sh es) (hc : 0 ≤ c ∧ c ≤ 127) (hT_es : hOK tT es) (hr_es : rR R n0 es)
    (K1 : ∀ es1 : PH, blG R n0  es es1 → ∀ v2 : Int, v2 = (gI es1 79 6).toInt → ∀ v3 : Int, v3 = (gI es1 79 7).toInt → v3 ≤ v2 → Q (.inl (some (.int (zI 0))), es1, kc, ks))
    (K2 : ∀ es1 : PH, blG R n0  es es1 → ∀ v2 : Int, v2 = (gI es1 79 6).toInt → ∀ v3 : Int, v3 = (gI es1 79 7).toInt → ¬ (v3 ≤ v2) → ∀ v5 : Int, v5 = (gI es1 79 6).toInt → ∀ v6 : Int, v6 = (gA es1 82 v5.toNat).toInt → v6 < c → Q (.inl (some (.int (zI 0))), es1, kc, ks))
    (K3 : ∀ es1 : PH, blG R n0  es es1 → ∀ v2 : Int, v2 = (gI es1 79 6).toInt → ∀ v3 : Int, v3 = (gI es1 79 7).toInt → ¬ (v3 ≤ v2) → ∀ v5 : Int, v5 = (gI es1 79 6).toInt → ∀ v6 : Int, v6 = (gA es1 82 v5.toNat).toInt → ¬ (v6 < c) → ∀ v8 : Int, v8 = (gI es1 79 6).toInt → ∀ v9 : Int, v9 = (gA es1 82 v8.toNat).toInt → c < v9 → Q (.inl (some (.int (zI 0))), es1, kc, ks))
    (K4 : ∀ es1 : PH, blG R n0  es es1 → ∀ v2 : Int, v2 = (gI es1 79 6).toInt → ∀ v3 : Int, v3 = (gI es1 79 7).toInt → ¬ (v3 ≤ v2) → ∀ v5 : Int, v5 = (gI es1 79 6).toInt → ∀ v6 : Int, v6 = (gA es1 82 v5.toNat).toInt → ¬ (v6 < c) → ∀ v8 : Int, v8 = (gI es1 79 6).toInt → ∀ v9 : Int, v9 = (gA es1 82 v8.toNat).toInt → ¬ (c < v9) → ∀ v11 : Int, v11 = (gI es1 79 6).toInt → ∀ es12 : PH, es12 = sI es1 79 6 (.int (zI (v11 + 1))) → Q (.inl (some (.int (zI 1))), es12, kc, ks)) :
    aW O (d + 2) 184 kc ks Q (0, [some (.ref 143), some (.int (zI c))], [], es) := by
  refine x0 (r := (1, [some (.ref 143), some (.int (zI c))], [.ref 143], es)) i_184_0 rfl ?_
  refine x_call (vs := [.ref 143]) (rs := []) i_184_1 rfl (fun _ => rfl) rfl rfl rfl rfl rfl (pCall_v (p := 79) hs_es rfl rfl rfl rfl rfl (by decide) rfl rfl rfl rfl rfl) ?_
  show aW _ _ _ _ _ _ (0, [some (.ref 143)], [], es)
  refine blG_spec hs_es hT_es hr_es (fun es1 p_es1 => ?_)
  have hs_es1 : sh es1 := p_es1.1
  have hT_es1 : hOK tT es1 := p_es1.2.1
  have hr_es1 : rR R n0 es1 := p_es1.2.2.1
  show aW _ _ _ _ _ _ (4, [some (.ref 143), some (.int (zI c))], [], es1)
  refine x0 (r := (5, [some (.ref 143), some (.int (zI c))], [.ref 143], es1)) i_184_4 rfl ?_
  refine x0 (r := (6, [some (.ref 143), some (.int (zI c))], [.int (zI c), .ref 143], es1)) i_184_5 rfl ?_
  refine x0 (r := (7, [some (.ref 143), some (.int (zI c))], [.int (zI c), .int (zI c), .ref 143], es1)) i_184_6 rfl ?_
  refine x_call (vs := [.ref 143, .int (zI c), .int (zI c)]) (rs := []) i_184_7 rfl (fun _ => rfl) rfl rfl rfl rfl rfl (pCall_v (p := 79) hs_es1 rfl rfl rfl rfl rfl (by decide) rfl rfl rfl rfl rfl) ?_
  show aW _ _ _ _ _ _ (0, [some (.ref 143), some (.int (zI c)), some (.int (zI c))], [], es1)
  refine x0 (r := (1, [some (.ref 143), some (.int (zI c)), some (.int (zI c))], [.ref 143], es1)) i_177_0 rfl ?_
  refine x_geti (p := 79) i_177_1 hs_es1 rfl rfl ?_
  obtain ⟨v2, e_v2⟩ : ∃ z : Int, z = (gI es1 79 6).toInt := ⟨_, rfl⟩
  rw [← e_v2]
  have r_v2 : iLO ≤ v2 ∧ v2 ≤ iHI := by rw [e_v2]; exact i32_rng _
  unfold iLO iHI at r_v2
  have b_v2 : (0 : Int) ≤ v2 ∧ v2 ≤ (400 : Int) := by rw [e_v2]; exact gI_bd hT_es1 (p := 79) (b := 6) rfl rfl
  refine x0 (r := (5, [some (.ref 143), some (.int (zI c)), some (.int (zI c))], [.ref 143, .int (zI v2)], es1)) i_177_4 rfl ?_
  refine x_geti (p := 79) i_177_5 hs_es1 rfl rfl ?_
  obtain ⟨v3, e_v3⟩ : ∃ z : Int, z = (gI es1 79 7).toInt := ⟨_, rfl⟩
  rw [← e_v3]
  have r_v3 : iLO ≤ v3 ∧ v3 ≤ iHI := by rw [e_v3]; exact i32_rng _
  unfold iLO iHI at r_v3
  have b_v3 : (0 : Int) ≤ v3 ∧ v3 ≤ (400 : Int) := by rw [e_v3]; exact gI_bd hT_es1 (p := 79) (b := 7) rfl rfl
  by_cases c4 : v3 ≤ v2
  · refine x_cmpT i_177_8 (by unfold i32 iLO iHI; omega) (by unfold i32 iLO iHI; omega) rfl (by simp only [zC, cR]; omega) ?_
    refine x0 (r := (42, [some (.ref 143), some (.int (zI c)), some (.int (zI c))], [.int (zI 0)], es1)) i_177_41 (by rfl) ?_
    refine x_ret (v := some (.int (zI 0))) i_177_42 rfl (fun _ => rfl) rfl rfl (pFin_b (by omega)) ?_
    show aW _ _ _ _ _ _ (10, [some (.ref 143), some (.int (zI c))], [.int (zI 0)], es1)
    refine x_ifF i_184_10 (by unfold i32 iLO iHI; omega) rfl (by simp only [zC, cR]; omega) ?_
    refine x0 (r := (14, [some (.ref 143), some (.int (zI c))], [.int (zI 0)], es1)) i_184_13 (by rfl) ?_
    refine x_ret (v := some (.int (zI 0))) i_184_14 rfl (fun _ => rfl) rfl rfl (pFin_b (by omega)) ?_
    exact K1 es1 p_es1 v2 e_v2 v3 e_v3 c4
  · refine x_cmpF i_177_8 (by unfold i32 iLO iHI; omega) (by unfold i32 iLO iHI; omega) rfl (by simp only [zC, cR]; omega) ?_
    refine x0 (r := (12, [some (.ref 143), some (.int (zI c)), some (.int (zI c))], [.ref 143], es1)) i_177_11 rfl ?_
    refine x_getr (p := 79) (k := 146) i_177_12 hs_es1 rfl rfl ?_
    show aW _ _ _ _ _ _ (15, [some (.ref 143), some (.int (zI c)), some (.int (zI c))], [.ref 146], es1)
    refine x0 (r := (16, [some (.ref 143), some (.int (zI c)), some (.int (zI c))], [.ref 143, .ref 146], es1)) i_177_15 rfl ?_
    refine x_geti (p := 79) i_177_16 hs_es1 rfl rfl ?_
    obtain ⟨v5, e_v5⟩ : ∃ z : Int, z = (gI es1 79 6).toInt := ⟨_, rfl⟩
    rw [← e_v5]
    have r_v5 : iLO ≤ v5 ∧ v5 ≤ iHI := by rw [e_v5]; exact i32_rng _
    unfold iLO iHI at r_v5
    have b_v5 : (0 : Int) ≤ v5 ∧ v5 ≤ (400 : Int) := by rw [e_v5]; exact gI_bd hT_es1 (p := 79) (b := 6) rfl rfl
    refine x_bald (p := 82) i_177_19 hs_es1 rfl (by decide) (by unfold i32 iLO iHI; omega) (by omega) (by omega) ?_
    obtain ⟨v6, e_v6⟩ : ∃ z : Int, z = (gA es1 82 v5.toNat).toInt := ⟨_, rfl⟩
    rw [← e_v6]
    have r_v6 : iLO ≤ v6 ∧ v6 ≤ iHI := by rw [e_v6]; exact i32_rng _
    unfold iLO iHI at r_v6
    have b_v6 : (-128 : Int) ≤ v6 ∧ v6 ≤ (127 : Int) := by rw [e_v6]; exact gA_bd hT_es1 (p := 82) (k := v5.toNat) rfl (by omega) (by decide)
    refine x0 (r := (21, [some (.ref 143), some (.int (zI c)), some (.int (zI c))], [.int (zI c), .int (zI v6)], es1)) i_177_20 rfl ?_
    by_cases c7 : v6 < c
    · refine x_cmpT i_177_21 (by unfold i32 iLO iHI; omega) (by unfold i32 iLO iHI; omega) rfl (by simp only [zC, cR]; omega) ?_
      refine x0 (r := (42, [some (.ref 143), some (.int (zI c)), some (.int (zI c))], [.int (zI 0)], es1)) i_177_41 (by rfl) ?_
      refine x_ret (v := some (.int (zI 0))) i_177_42 rfl (fun _ => rfl) rfl rfl (pFin_b (by omega)) ?_
      show aW _ _ _ _ _ _ (10, [some (.ref 143), some (.int (zI c))], [.int (zI 0)], es1)
      refine x_ifF i_184_10 (by unfold i32 iLO iHI; omega) rfl (by simp only [zC, cR]; omega) ?_
      refine x0 (r := (14, [some (.ref 143), some (.int (zI c))], [.int (zI 0)], es1)) i_184_13 (by rfl) ?_
      refine x_ret (v := some (.int (zI 0))) i_184_14 rfl (fun _ => rfl) rfl rfl (pFin_b (by omega)) ?_
      exact K2 es1 p_es1 v2 e_v2 v3 e_v3 c4 v5 e_v5 v6 e_v6 c7
    · refine x_cmpF i_177_21 (by unfold i32 iLO iHI; omega) (by unfold i32 iLO iHI; omega) rfl (by simp only [zC, cR]; omega) ?_
      refine x0 (r := (25, [some (.ref 143), some (.int (zI c)), some (.int (zI c))], [.ref 143], es1)) i_177_24 rfl ?_
      refine x_getr (p := 79) (k := 146) i_177_25 hs_es1 rfl rfl ?_
      show aW _ _ _ _ _ _ (28, [some (.ref 143), some (.int (zI c)), some (.int (zI c))], [.ref 146], es1)
      refine x0 (r := (29, [some (.ref 143), some (.int (zI c)), some (.int (zI c))], [.ref 143, .ref 146], es1)) i_177_28 rfl ?_
      refine x_geti (p := 79) i_177_29 hs_es1 rfl rfl ?_
      obtain ⟨v8, e_v8⟩ : ∃ z : Int, z = (gI es1 79 6).toInt := ⟨_, rfl⟩
      rw [← e_v8]
      have r_v8 : iLO ≤ v8 ∧ v8 ≤ iHI := by rw [e_v8]; exact i32_rng _
      unfold iLO iHI at r_v8
      have b_v8 : (0 : Int) ≤ v8 ∧ v8 ≤ (400 : Int) := by rw [e_v8]; exact gI_bd hT_es1 (p := 79) (b := 6) rfl rfl
      refine x_bald (p := 82) i_177_32 hs_es1 rfl (by decide) (by unfold i32 iLO iHI; omega) (by omega) (by omega) ?_
      obtain ⟨v9, e_v9⟩ : ∃ z : Int, z = (gA es1 82 v8.toNat).toInt := ⟨_, rfl⟩
      rw [← e_v9]
      have r_v9 : iLO ≤ v9 ∧ v9 ≤ iHI := by rw [e_v9]; exact i32_rng _
      unfold iLO iHI at r_v9
      have b_v9 : (-128 : Int) ≤ v9 ∧ v9 ≤ (127 : Int) := by rw [e_v9]; exact gA_bd hT_es1 (p := 82) (k := v8.toNat) rfl (by omega) (by decide)
      refine x0 (r := (34, [some (.ref 143), some (.int (zI c)), some (.int (zI c))], [.int (zI c), .int (zI v9)], es1)) i_177_33 rfl ?_
      by_cases c10 : c < v9
      · refine x_cmpT i_177_34 (by unfold i32 iLO iHI; omega) (by unfold i32 iLO iHI; omega) rfl (by simp only [zC, cR]; omega) ?_
        refine x0 (r := (42, [some (.ref 143), some (.int (zI c)), some (.int (zI c))], [.int (zI 0)], es1)) i_177_41 (by rfl) ?_
        refine x_ret (v := some (.int (zI 0))) i_177_42 rfl (fun _ => rfl) rfl rfl (pFin_b (by omega)) ?_
        show aW _ _ _ _ _ _ (10, [some (.ref 143), some (.int (zI c))], [.int (zI 0)], es1)
        refine x_ifF i_184_10 (by unfold i32 iLO iHI; omega) rfl (by simp only [zC, cR]; omega) ?_
        refine x0 (r := (14, [some (.ref 143), some (.int (zI c))], [.int (zI 0)], es1)) i_184_13 (by rfl) ?_
        refine x_ret (v := some (.int (zI 0))) i_184_14 rfl (fun _ => rfl) rfl rfl (pFin_b (by omega)) ?_
        exact K3 es1 p_es1 v2 e_v2 v3 e_v3 c4 v5 e_v5 v6 e_v6 c7 v8 e_v8 v9 e_v9 c10
      · refine x_cmpF i_177_34 (by unfold i32 iLO iHI; omega) (by unfold i32 iLO iHI; omega) rfl (by simp only [zC, cR]; omega) ?_
        refine x0 (r := (38, [some (.ref 143), some (.int (zI c)), some (.int (zI c))], [.int (zI 1)], es1)) i_177_37 (by rfl) ?_
        refine x0 (r := (42, [some (.ref 143), some (.int (zI c)), some (.int (zI c))], [.int (zI 1)], es1)) i_177_38 rfl ?_
        refine x_ret (v := some (.int (zI 1))) i_177_42 rfl (fun _ => rfl) rfl rfl (pFin_b (by omega)) ?_
        show aW _ _ _ _ _ _ (10, [some (.ref 143), some (.int (zI c))], [.int (zI 1)], es1)
        refine x_ifT i_184_10 (by unfold i32 iLO iHI; omega) rfl (by simp only [zC, cR]; omega) ?_
        refine x0 (r := (16, [some (.ref 143), some (.int (zI c))], [.ref 143], es1)) i_184_15 rfl ?_
        refine x0 (r := (17, [some (.ref 143), some (.int (zI c))], [.ref 143, .ref 143], es1)) i_184_16 rfl ?_
        refine x_geti (p := 79) i_184_17 hs_es1 rfl rfl ?_
        obtain ⟨v11, e_v11⟩ : ∃ z : Int, z = (gI es1 79 6).toInt := ⟨_, rfl⟩
        rw [← e_v11]
        have r_v11 : iLO ≤ v11 ∧ v11 ≤ iHI := by rw [e_v11]; exact i32_rng _
        unfold iLO iHI at r_v11
        have b_v11 : (0 : Int) ≤ v11 ∧ v11 ≤ (400 : Int) := by rw [e_v11]; exact gI_bd hT_es1 (p := 79) (b := 6) rfl rfl
        refine x0 (r := (21, [some (.ref 143), some (.int (zI c))], [.int (zI 1), .int (zI v11), .ref 143], es1)) i_184_20 (by rfl) ?_
        refine x_iadd i_184_21 ?_
        refine x_puti (p := 79) (ty := .int) i_184_22 hs_es1 rfl rfl rfl (Or.inl rfl) ?_
        obtain ⟨es12, e_es12⟩ : ∃ z : PH, z = sI es1 79 6 (.int (zI (v11 + 1))) := ⟨_, rfl⟩
        have hs_es12 : sh es12 := by rw [e_es12]; exact sh_sI hs_es1 (p := 79) (b := 6) rfl rfl
        have hT_es12 : hOK tT es12 := by rw [e_es12]; exact hOK_sI hT_es1 (p := 79) (b := 6) rfl rfl (by rw [zI_toInt (by unfold i32 iLO iHI; omega)]; exact ⟨by show (0 : Int) ≤ (v11 + 1); omega, by show (v11 + 1) ≤ (400 : Int); omega⟩)
        rw [← e_es12]
        refine x0 (r := (26, [some (.ref 143), some (.int (zI c))], [.int (zI 1)], es12)) i_184_25 (by rfl) ?_
        refine x_ret (v := some (.int (zI 1))) i_184_26 rfl (fun _ => rfl) rfl rfl (pFin_b (by omega)) ?_
        exact K4 es1 p_es1 v2 e_v2 v3 e_v3 c4 v5 e_v5 v6 e_v6 c7 v8 e_v8 v9 e_v9 c10 v11 e_v11 es12 e_es12
theorem s_gps0 {O : pOut} {d kc ks : Nat} {Q : pRes → Prop} {es : PH} {R : Nat → Int32} {n0 : Nat} {tt : List Nat} {wk : Nat} (hs_es : sh es) (hk : 8 ≤ wk) (ht : pTX[wk - 8]? = some tt) (ha : ∀ x ∈ tt, x ≤ 127) (hl : 0 < tt.length ∧ tt.length ≤ 10) (hT_es : hOK tT es) (hr_es : rR R n0 es)
    (K1 : ∀ es1 : PH, ltG R n0  es es1 → ∀ v2 : Int, iswG tt R  es1 v2 → v2 = 0 → ∀ v4 : Int, v4 = (gI es1 79 8).toInt → ∀ es5 : PH, es5 = sI es1 79 6 (.int (zI v4)) → Q (.inl (some (.int (zI 0))), es5, kc, ks))
    (K2 : ∀ es1 : PH, ltG R n0  es es1 → ∀ v2 : Int, iswG tt R  es1 v2 → ¬ (v2 = 0) → Q (.inl (some (.int (zI 1))), es1, kc, ks)) :
    aW O (d + 3) 186 kc ks Q (0, [some (.ref 143), some (.ref wk)], [], es) := by
  refine x0 (r := (1, [some (.ref 143), some (.ref wk)], [.ref 143], es)) i_186_0 rfl ?_
  refine x_call (vs := [.ref 143]) (rs := []) i_186_1 rfl (fun _ => rfl) rfl rfl rfl rfl rfl (pCall_v (p := 79) hs_es rfl rfl rfl rfl rfl (by decide) rfl rfl rfl rfl rfl) ?_
  show aW _ _ _ _ _ _ (0, [some (.ref 143)], [], es)
  refine ltG_spec hs_es hT_es hr_es (fun es1 p_es1 => ?_)
  have hs_es1 : sh es1 := p_es1.1
  have hT_es1 : hOK tT es1 := p_es1.2.1
  have hr_es1 : rR R n0 es1 := p_es1.2.2.1
  show aW _ _ _ _ _ _ (4, [some (.ref 143), some (.ref wk)], [], es1)
  refine x0 (r := (5, [some (.ref 143), some (.ref wk)], [.ref 143], es1)) i_186_4 rfl ?_
  refine x0 (r := (6, [some (.ref 143), some (.ref wk)], [.ref wk, .ref 143], es1)) i_186_5 rfl ?_
  refine x_call (vs := [.ref 143, .ref wk]) (rs := []) i_186_6 rfl (fun _ => rfl) rfl rfl rfl rfl rfl (pCall_v (p := 79) hs_es1 rfl rfl rfl rfl rfl (by decide) rfl rfl rfl rfl rfl) ?_
  show aW _ _ _ _ _ _ (0, [some (.ref 143), some (.ref wk), none, none], [], es1)
  refine iswG_spec (t := tt) hs_es1 hT_es1 hr_es1 hk ht ha hl (fun v2 p_v2 => ?_)
  have r_v2 := p_v2.1
  show aW _ _ _ _ _ _ (9, [some (.ref 143), some (.ref wk)], [.int (zI v2)], es1)
  by_cases c3 : v2 = 0
  · refine x_ifT i_186_9 (by unfold i32 iLO iHI; omega) rfl (by simp only [zC, cR]; omega) ?_
    refine x0 (r := (15, [some (.ref 143), some (.ref wk)], [.ref 143], es1)) i_186_14 rfl ?_
    refine x0 (r := (16, [some (.ref 143), some (.ref wk)], [.ref 143, .ref 143], es1)) i_186_15 rfl ?_
    refine x_geti (p := 79) i_186_16 hs_es1 rfl rfl ?_
    obtain ⟨v4, e_v4⟩ : ∃ z : Int, z = (gI es1 79 8).toInt := ⟨_, rfl⟩
    rw [← e_v4]
    have r_v4 : iLO ≤ v4 ∧ v4 ≤ iHI := by rw [e_v4]; exact i32_rng _
    unfold iLO iHI at r_v4
    have b_v4 : (0 : Int) ≤ v4 ∧ v4 ≤ (400 : Int) := by rw [e_v4]; exact gI_bd hT_es1 (p := 79) (b := 8) rfl rfl
    refine x_puti (p := 79) (ty := .int) i_186_19 hs_es1 rfl rfl rfl (Or.inl rfl) ?_
    obtain ⟨es5, e_es5⟩ : ∃ z : PH, z = sI es1 79 6 (.int (zI v4)) := ⟨_, rfl⟩
    have hs_es5 : sh es5 := by rw [e_es5]; exact sh_sI hs_es1 (p := 79) (b := 6) rfl rfl
    have hT_es5 : hOK tT es5 := by rw [e_es5]; exact hOK_sI hT_es1 (p := 79) (b := 6) rfl rfl (by rw [zI_toInt (by unfold i32 iLO iHI; omega)]; exact ⟨by show (0 : Int) ≤ v4; omega, by show v4 ≤ (400 : Int); omega⟩)
    rw [← e_es5]
    refine x0 (r := (23, [some (.ref 143), some (.ref wk)], [.int (zI 0)], es5)) i_186_22 (by rfl) ?_
    refine x_ret (v := some (.int (zI 0))) i_186_23 rfl (fun _ => rfl) rfl rfl (pFin_b (by omega)) ?_
    exact K1 es1 p_es1 v2 p_v2 c3 v4 e_v4 es5 e_es5
  · refine x_ifF i_186_9 (by unfold i32 iLO iHI; omega) rfl (by simp only [zC, cR]; omega) ?_
    refine x0 (r := (13, [some (.ref 143), some (.ref wk)], [.int (zI 1)], es1)) i_186_12 (by rfl) ?_
    refine x_ret (v := some (.int (zI 1))) i_186_13 rfl (fun _ => rfl) rfl rfl (pFin_b (by omega)) ?_
    exact K2 es1 p_es1 v2 p_v2 c3
theorem s_gfa0 {O : pOut} {d kc ks : Nat} {Q : pRes → Prop} {es : PH} {R : Nat → Int32} {n0 : Nat} (hs_es : sh es) (hT_es : hOK tT es) (hr_es : rR R n0 es)
    (K1 : ∀ v1 : Int, iswG (zWds.getD 0 []) R  es v1 → v1 = 0 → ∀ v3 : Int, iswG (zWds.getD 1 []) R  es v3 → v3 = 0 → ∀ v5 : Int, iswG (zWds.getD 2 []) R  es v5 → v5 = 0 → ∀ v7 : Int, iswG (zWds.getD 3 []) R  es v7 → v7 = 0 → Q (.inl (some (.int (zI (-1)))), es, kc, ks))
    (K2 : ∀ v1 : Int, iswG (zWds.getD 0 []) R  es v1 → v1 = 0 → ∀ v3 : Int, iswG (zWds.getD 1 []) R  es v3 → v3 = 0 → ∀ v5 : Int, iswG (zWds.getD 2 []) R  es v5 → v5 = 0 → ∀ v7 : Int, iswG (zWds.getD 3 []) R  es v7 → ¬ (v7 = 0) → Q (.inl (some (.int (zI 3))), es, kc, ks))
    (K3 : ∀ v1 : Int, iswG (zWds.getD 0 []) R  es v1 → v1 = 0 → ∀ v3 : Int, iswG (zWds.getD 1 []) R  es v3 → v3 = 0 → ∀ v5 : Int, iswG (zWds.getD 2 []) R  es v5 → ¬ (v5 = 0) → Q (.inl (some (.int (zI 2))), es, kc, ks))
    (K4 : ∀ v1 : Int, iswG (zWds.getD 0 []) R  es v1 → v1 = 0 → ∀ v3 : Int, iswG (zWds.getD 1 []) R  es v3 → ¬ (v3 = 0) → Q (.inl (some (.int (zI 1))), es, kc, ks))
    (K5 : ∀ v1 : Int, iswG (zWds.getD 0 []) R  es v1 → ¬ (v1 = 0) → Q (.inl (some (.int (zI 0))), es, kc, ks)) :
    aW O (d + 2) 185 kc ks Q (0, [some (.ref 143)], [], es) := by
  refine x0 (r := (1, [some (.ref 143)], [.ref 143], es)) i_185_0 rfl ?_
  refine x1 (r := (3, [some (.ref 143)], [.ref 40, .ref 143], es)) i_185_1 rfl (fun _ => rfl) rfl ?_
  refine x_call (vs := [.ref 143, .ref 40]) (rs := []) i_185_3 rfl (fun _ => rfl) rfl rfl rfl rfl rfl (pCall_v (p := 79) hs_es rfl rfl rfl rfl rfl (by decide) rfl rfl rfl rfl rfl) ?_
  show aW _ _ _ _ _ _ (0, [some (.ref 143), some (.ref 40), none, none], [], es)
  refine iswG_spec (t := zWds.getD 0 []) hs_es hT_es hr_es (by decide) rfl (by decide) (by decide) (fun v1 p_v1 => ?_)
  have r_v1 := p_v1.1
  show aW _ _ _ _ _ _ (6, [some (.ref 143)], [.int (zI v1)], es)
  by_cases c2 : v1 = 0
  · refine x_ifT i_185_6 (by unfold i32 iLO iHI; omega) rfl (by simp only [zC, cR]; omega) ?_
    refine x0 (r := (14, [some (.ref 143)], [.ref 143], es)) i_185_13 rfl ?_
    refine x1 (r := (16, [some (.ref 143)], [.ref 41, .ref 143], es)) i_185_14 rfl (fun _ => rfl) rfl ?_
    refine x_call (vs := [.ref 143, .ref 41]) (rs := []) i_185_16 rfl (fun _ => rfl) rfl rfl rfl rfl rfl (pCall_v (p := 79) hs_es rfl rfl rfl rfl rfl (by decide) rfl rfl rfl rfl rfl) ?_
    show aW _ _ _ _ _ _ (0, [some (.ref 143), some (.ref 41), none, none], [], es)
    refine iswG_spec (t := zWds.getD 1 []) hs_es hT_es hr_es (by decide) rfl (by decide) (by decide) (fun v3 p_v3 => ?_)
    have r_v3 := p_v3.1
    show aW _ _ _ _ _ _ (19, [some (.ref 143)], [.int (zI v3)], es)
    by_cases c4 : v3 = 0
    · refine x_ifT i_185_19 (by unfold i32 iLO iHI; omega) rfl (by simp only [zC, cR]; omega) ?_
      refine x0 (r := (27, [some (.ref 143)], [.ref 143], es)) i_185_26 rfl ?_
      refine x1 (r := (29, [some (.ref 143)], [.ref 42, .ref 143], es)) i_185_27 rfl (fun _ => rfl) rfl ?_
      refine x_call (vs := [.ref 143, .ref 42]) (rs := []) i_185_29 rfl (fun _ => rfl) rfl rfl rfl rfl rfl (pCall_v (p := 79) hs_es rfl rfl rfl rfl rfl (by decide) rfl rfl rfl rfl rfl) ?_
      show aW _ _ _ _ _ _ (0, [some (.ref 143), some (.ref 42), none, none], [], es)
      refine iswG_spec (t := zWds.getD 2 []) hs_es hT_es hr_es (by decide) rfl (by decide) (by decide) (fun v5 p_v5 => ?_)
      have r_v5 := p_v5.1
      show aW _ _ _ _ _ _ (32, [some (.ref 143)], [.int (zI v5)], es)
      by_cases c6 : v5 = 0
      · refine x_ifT i_185_32 (by unfold i32 iLO iHI; omega) rfl (by simp only [zC, cR]; omega) ?_
        refine x0 (r := (40, [some (.ref 143)], [.ref 143], es)) i_185_39 rfl ?_
        refine x1 (r := (42, [some (.ref 143)], [.ref 43, .ref 143], es)) i_185_40 rfl (fun _ => rfl) rfl ?_
        refine x_call (vs := [.ref 143, .ref 43]) (rs := []) i_185_42 rfl (fun _ => rfl) rfl rfl rfl rfl rfl (pCall_v (p := 79) hs_es rfl rfl rfl rfl rfl (by decide) rfl rfl rfl rfl rfl) ?_
        show aW _ _ _ _ _ _ (0, [some (.ref 143), some (.ref 43), none, none], [], es)
        refine iswG_spec (t := zWds.getD 3 []) hs_es hT_es hr_es (by decide) rfl (by decide) (by decide) (fun v7 p_v7 => ?_)
        have r_v7 := p_v7.1
        show aW _ _ _ _ _ _ (45, [some (.ref 143)], [.int (zI v7)], es)
        by_cases c8 : v7 = 0
        · refine x_ifT i_185_45 (by unfold i32 iLO iHI; omega) rfl (by simp only [zC, cR]; omega) ?_
          refine x0 (r := (53, [some (.ref 143)], [.int (zI (-1))], es)) i_185_52 (by rfl) ?_
          refine x_ret (v := some (.int (zI (-1)))) i_185_53 rfl (fun _ => rfl) rfl rfl rfl ?_
          exact K1 v1 p_v1 c2 v3 p_v3 c4 v5 p_v5 c6 v7 p_v7 c8
        · refine x_ifF i_185_45 (by unfold i32 iLO iHI; omega) rfl (by simp only [zC, cR]; omega) ?_
          refine x0 (r := (49, [some (.ref 143)], [.int (zI 3)], es)) i_185_48 (by rfl) ?_
          refine x0 (r := (53, [some (.ref 143)], [.int (zI 3)], es)) i_185_49 rfl ?_
          refine x_ret (v := some (.int (zI 3))) i_185_53 rfl (fun _ => rfl) rfl rfl rfl ?_
          exact K2 v1 p_v1 c2 v3 p_v3 c4 v5 p_v5 c6 v7 p_v7 c8
      · refine x_ifF i_185_32 (by unfold i32 iLO iHI; omega) rfl (by simp only [zC, cR]; omega) ?_
        refine x0 (r := (36, [some (.ref 143)], [.int (zI 2)], es)) i_185_35 (by rfl) ?_
        refine x0 (r := (53, [some (.ref 143)], [.int (zI 2)], es)) i_185_36 rfl ?_
        refine x_ret (v := some (.int (zI 2))) i_185_53 rfl (fun _ => rfl) rfl rfl rfl ?_
        exact K3 v1 p_v1 c2 v3 p_v3 c4 v5 p_v5 c6
    · refine x_ifF i_185_19 (by unfold i32 iLO iHI; omega) rfl (by simp only [zC, cR]; omega) ?_
      refine x0 (r := (23, [some (.ref 143)], [.int (zI 1)], es)) i_185_22 (by rfl) ?_
      refine x0 (r := (53, [some (.ref 143)], [.int (zI 1)], es)) i_185_23 rfl ?_
      refine x_ret (v := some (.int (zI 1))) i_185_53 rfl (fun _ => rfl) rfl rfl rfl ?_
      exact K4 v1 p_v1 c2 v3 p_v3 c4
  · refine x_ifF i_185_6 (by unfold i32 iLO iHI; omega) rfl (by simp only [zC, cR]; omega) ?_
    refine x0 (r := (10, [some (.ref 143)], [.int (zI 0)], es)) i_185_9 (by rfl) ?_
    refine x0 (r := (53, [some (.ref 143)], [.int (zI 0)], es)) i_185_10 rfl ?_
    refine x_ret (v := some (.int (zI 0))) i_185_53 rfl (fun _ => rfl) rfl rfl rfl ?_
    exact K5 v1 p_v1 c2
/-! the reference's tokens of MEASURE's text -/
def sgG (R : Nat → Int32) (n : Nat) (c : Int) (es es' : PH) (v : Int) : Prop := sh es' ∧ hOK tT es' ∧ rR R n es' ∧ fr frB es es' ∧ bT es' = (zNx (zR R) n (pT es).toNat : Nat) ∧ ((v = 1 ∧ zCod (zR R) n (zNx (zR R) n (pT es).toNat) = -1000 - c ∧ pT es' = (zBe (zR R) n (zNx (zR R) n (pT es).toNat) : Nat) ∧ zNx (zR R) n (pT es).toNat < n) ∨ (v = 0 ∧ ¬ zCod (zR R) n (zNx (zR R) n (pT es).toNat) = -1000 - c ∧ pT es' = (zNx (zR R) n (pT es).toNat : Nat)))
def psG (i : Nat) (R : Nat → Int32) (n : Nat) (es es' : PH) (v : Int) : Prop := sh es' ∧ hOK tT es' ∧ rR R n es' ∧ fr frB es es' ∧ bT es' = (zNx (zR R) n (pT es).toNat : Nat) ∧ ((v = 1 ∧ zCod (zR R) n (zNx (zR R) n (pT es).toNat) = -1 - (i : Int) ∧ pT es' = (zBe (zR R) n (zNx (zR R) n (pT es).toNat) : Nat) ∧ zNx (zR R) n (pT es).toNat < n) ∨ (v = 0 ∧ ¬ zCod (zR R) n (zNx (zR R) n (pT es).toNat) = -1 - (i : Int) ∧ pT es' = (zNx (zR R) n (pT es).toNat : Nat)))
def faG (R : Nat → Int32) (n : Nat) (es : PH) (v : Int) : Prop := (0 ≤ v ∧ v ≤ 3 ∧ zCod (zR R) n (bT es).toNat = -1 - v) ∨ (v = -1 ∧ ¬ (-4 ≤ zCod (zR R) n (bT es).toNat ∧ zCod (zR R) n (bT es).toNat ≤ -1))
theorem sgG_rng {R : Nat → Int32} {n : Nat} {c v : Int} {es es' : PH} (h : sgG R n c es es' v) : 0 ≤ v ∧ v ≤ 1 := by
  rcases h.2.2.2.2.2 with ⟨h1, -⟩ | ⟨h1, -⟩ <;> omega
theorem psG_rng {i : Nat} {R : Nat → Int32} {n : Nat} {v : Int} {es es' : PH} (h : psG i R n es es' v) : 0 ≤ v ∧ v ≤ 1 := by
  rcases h.2.2.2.2.2 with ⟨h1, -⟩ | ⟨h1, -⟩ <;> omega
theorem fB_sd {a b : PH} (hT : hOK tT a) (h : fr frB a b) : sT b = sT a ∧ dT b = dT a := by
  refine ⟨?_, ?_⟩
  · unfold sT; rw [fr_fld h (sh_of hT) (p := 79) (b := 12) rfl (by simp only [frB, mHq, true_and, and_true, false_and, and_false, or_false, false_or, not_false_eq_true, Nat.reduceEqDiff] <;> omega)]
  · unfold dT; rw [fr_fld h (sh_of hT) (p := 79) (b := 9) rfl (by simp only [frB, mHq, true_and, and_true, false_and, and_false, or_false, false_or, not_false_eq_true, Nat.reduceEqDiff] <;> omega)]
theorem rR_pb {R : Nat → Int32} {n : Nat} {es es' : PH} {v : Int} (hT : hOK tT es) (hr : rR R n es) (hb : bT es ≤ (n : Int)) (hv : v = (gI es 79 8).toInt) (he : es' = sI es 79 6 (.int (zI v))) : hOK tT es' ∧ rR R n es' ∧ fr frB es es' ∧ pT es' = bT es ∧ bT es' = bT es := by
  have hbb := bT_bd hT
  unfold bT at hbb
  subst hv
  have hz : (zI (gI es 79 8).toInt).toInt = (gI es 79 8).toInt := zI_toInt (i32_rng _)
  have hT5 : hOK tT es' := by rw [he]; exact hOK_sI hT (p := 79) (b := 6) rfl rfl (by rw [hz]; exact hbb)
  have hp5 : pT es' = bT es := by
    unfold pT bT
    rw [he, gI_sI (sh_of hT) (p := 79) rfl (by decide), hz]
  refine ⟨hT5, ⟨by rw [he, gA_sI]; exact hr.1, by rw [he, gI_sI_ne (Or.inr (by decide))]; exact hr.2.1, by rw [hp5]; exact hb⟩, by rw [he]; exact fr_sI rfl, hp5, ?_⟩
  unfold bT
  rw [he, gI_sI_ne (Or.inr (by decide))]
theorem zNx_mono {c : Nat → Int} {n p p' : Nat} (h : p ≤ p') (hn : p ≤ n) : zNx c n p ≤ zNx c n p' := by
  by_cases hlt : zNx c n p' < zNx c n p
  · have h1 : zNx c n p ≤ n := zNx_le hn
    have h2 : p' ≤ zNx c n p' := zNx_ge
    have h3 : zSp (c (zNx c n p')) = true := zRn_all (n := n) (P := zSp) (p := p) (i := zNx c n p') (by omega) hlt
    have h4 : zSp (c (zNx c n p')) = false := zRn_end (n := n) (P := zSp) (p := p') (by show zNx c n p' < n; omega)
    rw [h3] at h4
    cases h4
  · omega
theorem nx_nx {c : Nat → Int} {n p q : Nat} (h : p = zNx c n q) : zNx c n p = p := by rw [h]; exact zNx_nx
section
variable {O : pOut} {d kc ks : Nat} {Q : pRes → Prop} {es : PH} {R : Nat → Int32} {n : Nat}
theorem sgG_spec {c : Int} (hs : sh es) (hT : hOK tT es) (hr : rR R n es) (hc : 33 ≤ c ∧ c ≤ 47 ∨ 58 ≤ c ∧ c ≤ 96) (K : ∀ es' v, sgG R n c es es' v → Q (.inl (some (.int (zI v))), es', kc, ks)) : aW O (d + 2) 184 kc ks Q (0, [some (.ref 143), some (.int (zI c))], [], es) := by
  have hpb := pT_bd hT
  have no : ∀ es1, blG R n es es1 → (pT es1 < (n : Int) → ¬ zR R (pT es1).toNat = c) → Q (.inl (some (.int (zI 0))), es1, kc, ks) := by
    intro es1 p1 h1
    obtain ⟨q1, q2, q3, q4, q5, q6⟩ := p1
    obtain ⟨hn4, hrng⟩ := rR_rng q2 q3
    refine K es1 0 ⟨q1, q2, q3, q4, by rw [q6, q5], Or.inr ⟨rfl, fun h => ?_, q5⟩⟩
    have h2 := (zCod_sign hrng hc).mp h
    rw [show (pT es1).toNat = zNx (zR R) n (pT es).toNat by omega] at h1
    exact h1 (by omega) h2.2
  refine s_gsg0 (d := d) hs (by omega) hT hr (fun es1 p1 v2 e2 v3 e3 h3 => ?_) (fun es1 p1 v2 e2 v3 e3 h3 v5 e5 v6 e6 h6 => ?_) (fun es1 p1 v2 e2 v3 e3 h3 v5 e5 v6 e6 h6 v8 e8 v9 e9 h9 => ?_) (fun es1 p1 v2 e2 v3 e3 h3 v5 e5 v6 e6 h6 v8 e8 v9 e9 h9 v11 e11 es12 e12 => ?_)
  · have b1 := p1.2.2.1.2.1
    have hpd : pT es1 = (gI es1 79 6).toInt := rfl
    exact no es1 p1 (fun h => by omega)
  · have c1 := rR_ch p1.2.2.1 e5
    exact no es1 p1 (fun _ => by omega)
  · have c1 := rR_ch p1.2.2.1 e8
    exact no es1 p1 (fun _ => by omega)
  · have c1 := rR_ch p1.2.2.1 e5
    have c2 := rR_ch p1.2.2.1 e8
    obtain ⟨q1, q2, q3, q4, q5, q6⟩ := p1
    obtain ⟨hn4, hrng⟩ := rR_rng q2 q3
    have b1 := q3.2.1
    have hpd : pT es1 = (gI es1 79 6).toInt := rfl
    obtain ⟨a1, a2, a3, a4, a5⟩ := rR_up (es' := es12) q2 q3 (by omega) (by rw [e12, e11])
    have hq : (pT es1).toNat = zNx (zR R) n (pT es).toNat := by omega
    have hcd : zCod (zR R) n (zNx (zR R) n (pT es).toNat) = -1000 - c := (zCod_sign hrng hc).mpr ⟨by omega, by rw [← hq]; omega⟩
    have hbe := zBe_sign hrng (q := zNx (zR R) n (pT es).toNat) (by omega) (by omega)
    exact K es12 1 ⟨sh_of a1, a1, a2, fr_trans q4 a3, by rw [a5, q6, q5], Or.inl ⟨rfl, hcd, by rw [hbe.2]; omega, hbe.1⟩⟩
theorem psG_spec {i wk : Nat} {t : List Nat} (hs : sh es) (hT : hOK tT es) (hr : rR R n es) (hw : zWds[i]? = some t) (hk : 8 ≤ wk) (ht : pTX[wk - 8]? = some t) (ha : ∀ x ∈ t, x ≤ 127) (h0 : 0 < t.length ∧ t.length ≤ 10) (K : ∀ es' v, psG i R n es es' v → Q (.inl (some (.int (zI v))), es', kc, ks)) : aW O (d + 3) 186 kc ks Q (0, [some (.ref 143), some (.ref wk)], [], es) := by
  have hpb := pT_bd hT
  have hi : i < 16 := (List.getElem?_eq_some_iff.mp hw).1
  have hle : zNx (zR R) n (pT es).toNat ≤ n := zNx_le (by have := hr.2.2; omega)
  refine s_gps0 (d := d) hs hk ht ha h0 hT hr (fun es1 p1 v2 p2 h2 v4 e4 es5 e5 => ?_) (fun es1 p1 v2 p2 h2 => ?_)
  all_goals
    obtain ⟨q1, q2, q3, q4, q5, q6⟩ := p1
    obtain ⟨hn4, hrng⟩ := rR_rng q2 q3
    have hwd := zCod_word hrng hw hle
    have h3 := p2.2
    rw [show (bT es1).toNat = zNx (zR R) n (pT es).toNat by omega, show (pT es1).toNat = zRn (zR R) n zLe (zNx (zR R) n (pT es).toNat) by omega, ← hwd] at h3
  · obtain ⟨a1, a2, a3, a4, a5⟩ := rR_pb (es' := es5) q2 q3 (by omega) e4 e5
    exact K es5 0 ⟨sh_of a1, a1, a2, fr_trans q4 a3, by rw [a5, q5], Or.inr ⟨rfl, fun h => by have := h3.mpr h; omega, by rw [a4, q5]⟩⟩
  · have hv : v2 = 1 := by rcases p2.1 with h | h <;> omega
    have hcd := h3.mp hv
    have hbe := zBe_word hrng (q := zNx (zR R) n (pT es).toNat) (by omega) (by omega)
    exact K es1 1 ⟨q1, q2, q3, q4, q5, Or.inl ⟨rfl, hcd, by rw [hbe.2, q6], hbe.1⟩⟩
theorem faG_spec (hs : sh es) (hT : hOK tT es) (hr : rR R n es) (hp : (pT es).toNat = zRn (zR R) n zLe (bT es).toNat) (hq : bT es ≤ (n : Int)) (K : ∀ v, faG R n es v → Q (.inl (some (.int (zI v))), es, kc, ks)) : aW O (d + 2) 185 kc ks Q (0, [some (.ref 143)], [], es) := by
  have hbb := bT_bd hT
  obtain ⟨hn4, hrng⟩ := rR_rng hT hr
  have hw : ∀ {i : Nat} {w : List Nat} {v : Int}, zWds[i]? = some w → iswG w R es v → (v = 0 ∨ v = 1) ∧ (v = 1 ↔ zCod (zR R) n (bT es).toNat = -1 - i) := by
    intro i w v hi hv
    refine ⟨hv.1, ?_⟩
    rw [hv.2, zCod_word hrng hi (by omega), hp]
  refine s_gfa0 (d := d) hs hT hr (fun v1 p1 h1 v3 p3 h3 v5 p5 h5 v7 p7 h7 => ?_) (fun v1 p1 h1 v3 p3 h3 v5 p5 h5 v7 p7 h7 => ?_) (fun v1 p1 h1 v3 p3 h3 v5 p5 h5 => ?_) (fun v1 p1 h1 v3 p3 h3 => ?_) (fun v1 p1 h1 => ?_)
  · have g1 := hw (i := 0) rfl p1
    have g3 := hw (i := 1) rfl p3
    have g5 := hw (i := 2) rfl p5
    have g7 := hw (i := 3) rfl p7
    exact K (-1) (Or.inr ⟨rfl, by omega⟩)
  · have g7 := hw (i := 3) rfl p7
    exact K 3 (Or.inl ⟨by omega, by omega, by omega⟩)
  · have g5 := hw (i := 2) rfl p5
    exact K 2 (Or.inl ⟨by omega, by omega, by omega⟩)
  · have g3 := hw (i := 1) rfl p3
    exact K 1 (Or.inl ⟨by omega, by omega, by omega⟩)
  · have g1 := hw (i := 0) rfl p1
    exact K 0 (Or.inl ⟨by omega, by omega, by omega⟩)
end
/-- a sign, a word that isn't there; that is there -/
theorem sgG_no {R : Nat → Int32} {n q : Nat} {c v : Int} {es es' : PH} (hT : hOK tT es) (hq : zNx (zR R) n (pT es).toNat = q) (h : sgG R n c es es' v) (hv : v = 0) : hOK tT es' ∧ rR R n es' ∧ fr frB es es' ∧ zNx (zR R) n (pT es').toNat = q ∧ ¬ zCod (zR R) n q = -1000 - c ∧ bT es' = (q : Int) ∧ pT es ≤ pT es' := by
  have hpb := pT_bd hT
  have hge : (pT es).toNat ≤ zNx (zR R) n (pT es).toNat := zNx_ge
  obtain ⟨q1, q2, q3, q4, q5, q6⟩ := h
  rcases q6 with ⟨h1, -⟩ | ⟨-, h2, h3⟩
  · omega
  · have e : (pT es').toNat = zNx (zR R) n (pT es).toNat := by omega
    rw [hq] at h2 h3 q5 e
    exact ⟨q2, q3, q4, by rw [e, ← hq]; exact zNx_nx, h2, q5, by omega⟩
theorem sgG_ye {R : Nat → Int32} {n q : Nat} {c v : Int} {es es' : PH} (hT : hOK tT es) (hq : zNx (zR R) n (pT es).toNat = q) (h : sgG R n c es es' v) (hv : ¬ v = 0) : hOK tT es' ∧ rR R n es' ∧ fr frB es es' ∧ zNx (zR R) n (pT es').toNat = zNn (zR R) n q ∧ zCod (zR R) n q = -1000 - c ∧ bT es' = (q : Int) ∧ pT es + 1 ≤ pT es' ∧ q < n ∧ (q : Int) + 1 ≤ pT es' := by
  have hpb := pT_bd hT
  have hge : (pT es).toNat ≤ zNx (zR R) n (pT es).toNat := zNx_ge
  obtain ⟨q1, q2, q3, q4, q5, q6⟩ := h
  rcases q6 with ⟨-, h1, h2, h3⟩ | ⟨h1, -⟩
  · rw [hq] at h1 h2 h3 q5
    have hgt := zBe_gt (c := zR R) h3
    exact ⟨q2, q3, q4, by rw [show (pT es').toNat = zBe (zR R) n q by omega]; rfl, h1, q5, by omega, h3, by omega⟩
  · exact absurd h1 hv
theorem psG_no {i : Nat} {R : Nat → Int32} {n q : Nat} {v : Int} {es es' : PH} (hT : hOK tT es) (hq : zNx (zR R) n (pT es).toNat = q) (h : psG i R n es es' v) (hv : v = 0) : hOK tT es' ∧ rR R n es' ∧ fr frB es es' ∧ zNx (zR R) n (pT es').toNat = q ∧ ¬ zCod (zR R) n q = -1 - (i : Int) ∧ bT es' = (q : Int) ∧ pT es ≤ pT es' := by
  have hpb := pT_bd hT
  have hge : (pT es).toNat ≤ zNx (zR R) n (pT es).toNat := zNx_ge
  obtain ⟨q1, q2, q3, q4, q5, q6⟩ := h
  rcases q6 with ⟨h1, -⟩ | ⟨-, h2, h3⟩
  · omega
  · have e : (pT es').toNat = zNx (zR R) n (pT es).toNat := by omega
    rw [hq] at h2 h3 q5 e
    exact ⟨q2, q3, q4, by rw [e, ← hq]; exact zNx_nx, h2, q5, by omega⟩
theorem psG_ye {i : Nat} {R : Nat → Int32} {n q : Nat} {v : Int} {es es' : PH} (hT : hOK tT es) (hq : zNx (zR R) n (pT es).toNat = q) (h : psG i R n es es' v) (hv : ¬ v = 0) : hOK tT es' ∧ rR R n es' ∧ fr frB es es' ∧ zNx (zR R) n (pT es').toNat = zNn (zR R) n q ∧ zCod (zR R) n q = -1 - (i : Int) ∧ bT es' = (q : Int) ∧ pT es + 1 ≤ pT es' ∧ q < n ∧ (q : Int) + 1 ≤ pT es' := by
  have hpb := pT_bd hT
  have hge : (pT es).toNat ≤ zNx (zR R) n (pT es).toNat := zNx_ge
  obtain ⟨q1, q2, q3, q4, q5, q6⟩ := h
  rcases q6 with ⟨-, h1, h2, h3⟩ | ⟨h1, -⟩
  · rw [hq] at h1 h2 h3 q5
    have hgt := zBe_gt (c := zR R) h3
    exact ⟨q2, q3, q4, by rw [show (pT es').toNat = zBe (zR R) n q by omega]; rfl, h1, q5, by omega, h3, by omega⟩
  · exact absurd h1 hv
/-- what is kept where something was emitted -/
theorem em_all {R : Nat → Int32} {n : Nat} {a b : PH} {op k : Int} (hT : hOK tT a) (hr : rR R n a) (h : emP op k a b) : rR R n b ∧ bT b = bT a ∧ pT b = pT a ∧ dT b = dT a ∧ sT b = sT a + 1 := by
  obtain ⟨e1, e2⟩ := em_pT hT h
  refine ⟨⟨?_, ?_, by rw [e1]; exact hr.2.2⟩, ?_, e1, e2, h.2.2.2.1⟩
  · rw [fr_row h.2.2.1 (sh_of hT) (p := 82) (t := 2) (n := 400) rfl (by decide) (fun k => by simp only [mHq, true_and, and_true, false_and, and_false, or_false, false_or, not_false_eq_true, Nat.reduceEqDiff] <;> omega)]
    exact hr.1
  · rw [fr_fld h.2.2.1 (sh_of hT) (p := 79) (b := 7) rfl (by simp only [mHq, true_and, and_true, false_and, and_false, or_false, false_or, not_false_eq_true, Nat.reduceEqDiff] <;> omega)]
    exact hr.2.1
  · unfold bT
    rw [fr_fld h.2.2.1 (sh_of hT) (p := 79) (b := 8) rfl (by simp only [mHq, true_and, and_true, false_and, and_false, or_false, false_or, not_false_eq_true, Nat.reduceEqDiff] <;> omega)]
/-- read on to b -/
def okG (R : Nat → Int32) (n b : Nat) (es es' : PH) : Prop := hOK tT es' ∧ rR R n es' ∧ zNx (zR R) n (pT es').toNat = b ∧ dT es' = dT es ∧ pT es ≤ pT es' ∧ sT es ≤ sT es' ∧ sT es' - sT es ≤ pT es' - pT es
/-- a reader whose end, or fault, is X -/
def prG (X : Nat × Bool) (R : Nat → Int32) (n : Nat) (es es' : PH) (v : Int) : Prop := (v = 1 ∧ X.2 = true ∧ okG R n X.1 es es') ∨ (v = 0 ∧ X.2 = false ∧ hOK tT es' ∧ bT es' = (X.1 : Nat))
theorem prG_v {X : Nat × Bool} {R : Nat → Int32} {n : Nat} {a b : PH} {v : Int} (h : prG X R n a b v) : (0 ≤ v ∧ v ≤ 1) ∧ hOK tT b ∧ (v ≠ 0 → X.2 = true ∧ okG R n X.1 a b) ∧ (v = 0 → X.2 = false ∧ bT b = (X.1 : Nat)) := by
  rcases h with ⟨rfl, h1, h2⟩ | ⟨rfl, h1, h2, h3⟩
  · exact ⟨⟨by omega, by omega⟩, h2.1, fun _ => ⟨h1, h2⟩, fun h0 => by omega⟩
  · exact ⟨⟨by omega, by omega⟩, h2, fun h0 => absurd rfl h0, fun _ => ⟨h1, h3⟩⟩
theorem okG_seq {R : Nat → Int32} {n b b2 : Nat} {x y z : PH} (h1 : okG R n b x y) (h2 : okG R n b2 y z) : okG R n b2 x z := by
  obtain ⟨a1, a2, a3, a4, a5, a6, a7⟩ := h1
  obtain ⟨c1, c2, c3, c4, c5, c6, c7⟩ := h2
  exact ⟨c1, c2, c3, by rw [c4, a4], by omega, by omega, by omega⟩
/-- a move without a step -/
theorem okG_mv {R : Nat → Int32} {n b : Nat} {x y : PH} (hT : hOK tT x) (hf : fr frB x y) (hTy : hOK tT y) (hr : rR R n y) (hz : zNx (zR R) n (pT y).toNat = b) (hp : pT x ≤ pT y) : okG R n b x y := by
  obtain ⟨e1, e2⟩ := fB_sd hT hf
  exact ⟨hTy, hr, hz, e2, hp, by omega, by omega⟩
theorem okG_em {R : Nat → Int32} {n b : Nat} {x y z : PH} {op k : Int} (h1 : okG R n b x y) (h2 : emP op k y z) (hs : sT y + 1 - sT x ≤ pT y - pT x) : okG R n b x z := by
  obtain ⟨a1, a2, a3, a4, a5, a6, a7⟩ := h1
  obtain ⟨b1, b2, b3, b4, b5⟩ := em_all a1 a2 h2
  exact ⟨h2.2.1, b1, by rw [b3]; exact a3, by rw [b4, a4], by omega, by omega, by omega⟩
