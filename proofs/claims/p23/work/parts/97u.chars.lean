def pT (es : PH) : Int := (gI es 79 6).toInt
def bT (es : PH) : Int := (gI es 79 8).toInt
def dT (es : PH) : Int := (gI es 79 9).toInt
def sT (es : PH) : Int := (gI es 79 12).toInt
def frB : List aMod := [(79, 8, 0, 1), (79, 10, 0, 1)]
def mvB (es es' : PH) : Prop := fr frB es es' ∧ pT es ≤ pT es'
def blP (es es' : PH) : Prop := sh es' ∧ hOK tT es' ∧ mvB es es' ∧ bT es' = pT es'
def ltP (es es' : PH) : Prop := sh es' ∧ hOK tT es' ∧ mvB es es' ∧ pT es ≤ bT es' ∧ bT es' ≤ pT es'
def nmP (_ _ : Int) (es es' : PH) (v : Int) : Prop := sh es' ∧ hOK tT es' ∧ (-1 ≤ v ∧ v ≤ 999) ∧ mvB es es' ∧ (0 ≤ v → pT es + 1 ≤ pT es')
def sgP (_ : Int) (es es' : PH) (v : Int) : Prop := sh es' ∧ hOK tT es' ∧ (0 ≤ v ∧ v ≤ 1) ∧ mvB es es' ∧ (v ≠ 0 → pT es + 1 ≤ pT es')
def psP (es es' : PH) (v : Int) : Prop := sh es' ∧ hOK tT es' ∧ (0 ≤ v ∧ v ≤ 1) ∧ mvB es es' ∧ (v ≠ 0 → pT es + 1 ≤ pT es')
def iswP (es es' : PH) (v : Int) : Prop := sh es' ∧ hOK tT es' ∧ (0 ≤ v ∧ v ≤ 1) ∧ fr [] es es' ∧ (v ≠ 0 → bT es' + 1 ≤ pT es')
def faP (es es' : PH) (v : Int) : Prop := sh es' ∧ hOK tT es' ∧ (-1 ≤ v ∧ v ≤ 3) ∧ mvB es es'
theorem pT_bd {es : PH} (hT : hOK tT es) : 0 ≤ pT es ∧ pT es ≤ 400 := gI_bd hT (p := 79) (b := 6) rfl rfl
theorem bT_bd {es : PH} (hT : hOK tT es) : 0 ≤ bT es ∧ bT es ≤ 400 := gI_bd hT (p := 79) (b := 8) rfl rfl
theorem eT_bd {es : PH} (hT : hOK tT es) : 0 ≤ (gI es 79 7).toInt ∧ (gI es 79 7).toInt ≤ 400 := gI_bd hT (p := 79) (b := 7) rfl rfl
theorem sT_bd {es : PH} (hT : hOK tT es) : 0 ≤ sT es ∧ sT es ≤ 400 := gI_bd hT (p := 79) (b := 12) rfl rfl
theorem dT_bd {es : PH} (hT : hOK tT es) : 0 ≤ dT es ∧ dT es ≤ 6 := gI_bd hT (p := 79) (b := 9) rfl rfl
theorem mvB_refl (es : PH) : mvB es es := ⟨fr_refl _ _, Int.le_refl _⟩
theorem mvB_trans {a b c : PH} (h1 : mvB a b) (h2 : mvB b c) : mvB a c := ⟨fr_trans h1.1 h2.1, Int.le_trans h1.2 h2.2⟩
theorem mvB_sT {a b : PH} (hT : hOK tT a) (h : mvB a b) : sT b = sT a := by unfold sT; rw [fr_fld h.1 (sh_of hT) (p := 79) (b := 12) rfl (by simp only [frB, mHq, true_and, and_true, false_and, and_false, or_false, false_or, not_false_eq_true, Nat.reduceEqDiff] <;> omega)]
theorem mvB_dT {a b : PH} (hT : hOK tT a) (h : mvB a b) : dT b = dT a := by unfold dT; rw [fr_fld h.1 (sh_of hT) (p := 79) (b := 9) rfl (by simp only [frB, mHq, true_and, and_true, false_and, and_false, or_false, false_or, not_false_eq_true, Nat.reduceEqDiff] <;> omega)]
theorem mvB_80 {a b : PH} (hT : hOK tT a) (h : mvB a b) : gA b 80 = gA a 80 := fr_row h.1 (sh_of hT) (p := 80) (t := 0) (n := 2125) (sp := tS80) rfl (by decide) (fun k => by simp only [frB, mHq, true_and, and_true, false_and, and_false, or_false, false_or, not_false_eq_true, Nat.reduceEqDiff] <;> omega)
/-- point goes on by one -/
theorem pt_up {es es' : PH} (hT : hOK tT es) (h : pT es < (gI es 79 7).toInt) (he : es' = sI es 79 6 (.int (zI ((gI es 79 6).toInt + 1)))) : hOK tT es' ∧ mvB es es' ∧ pT es' = pT es + 1 ∧ bT es' = bT es ∧ (gI es' 79 7).toInt = (gI es 79 7).toInt := by
  have h1 := pT_bd hT
  have h2 := eT_bd hT
  unfold pT at h h1
  have hz : (zI ((gI es 79 6).toInt + 1)).toInt = (gI es 79 6).toInt + 1 := zI_toInt (by unfold i32 iLO iHI; omega)
  have hp : pT es' = pT es + 1 := by
    unfold pT
    rw [he, gI_sI (sh_of hT) (p := 79) rfl (by decide), hz]
  refine ⟨by rw [he]; exact hOK_sI hT (p := 79) (b := 6) rfl rfl (by rw [hz]; exact ⟨by show (0 : Int) ≤ _; omega, by show _ ≤ (400 : Int); omega⟩), ⟨by rw [he]; exact fr_sI rfl, by omega⟩, hp, ?_, ?_⟩
  · unfold bT; rw [he, gI_sI_ne (Or.inr (by decide))]
  · rw [he, gI_sI_ne (Or.inr (by decide))]
theorem s_bl0 {O : pOut} {d kc ks : Nat} {Q : pRes → Prop} {es : PH} (hs_es : sh es) (hT_es : hOK tT es)
    (K1 : ∀ v1 : Int, v1 = (gI es 79 6).toInt → ∀ v2 : Int, v2 = (gI es 79 7).toInt → v2 ≤ v1 → ∀ v4 : Int, v4 = (gI es 79 6).toInt → ∀ es5 : PH, es5 = sI es 79 8 (.int (zI v4)) → Q (.inl (none), es5, kc, ks))
    (K2 : ∀ v1 : Int, v1 = (gI es 79 6).toInt → ∀ v2 : Int, v2 = (gI es 79 7).toInt → ¬ (v2 ≤ v1) → ∀ v6 : Int, v6 = (gI es 79 6).toInt → ∀ v7 : Int, v7 = (gA es 82 v6.toNat).toInt → v7 < 32 → ∀ v9 : Int, v9 = (gI es 79 6).toInt → ∀ es10 : PH, es10 = sI es 79 8 (.int (zI v9)) → Q (.inl (none), es10, kc, ks))
    (K3 : ∀ v1 : Int, v1 = (gI es 79 6).toInt → ∀ v2 : Int, v2 = (gI es 79 7).toInt → ¬ (v2 ≤ v1) → ∀ v6 : Int, v6 = (gI es 79 6).toInt → ∀ v7 : Int, v7 = (gA es 82 v6.toNat).toInt → ¬ (v7 < 32) → ∀ v11 : Int, v11 = (gI es 79 6).toInt → ∀ v12 : Int, v12 = (gA es 82 v11.toNat).toInt → 32 < v12 → ∀ v14 : Int, v14 = (gI es 79 6).toInt → ∀ es15 : PH, es15 = sI es 79 8 (.int (zI v14)) → Q (.inl (none), es15, kc, ks))
    (K4 : ∀ v1 : Int, v1 = (gI es 79 6).toInt → ∀ v2 : Int, v2 = (gI es 79 7).toInt → ¬ (v2 ≤ v1) → ∀ v6 : Int, v6 = (gI es 79 6).toInt → ∀ v7 : Int, v7 = (gA es 82 v6.toNat).toInt → ¬ (v7 < 32) → ∀ v11 : Int, v11 = (gI es 79 6).toInt → ∀ v12 : Int, v12 = (gA es 82 v11.toNat).toInt → ¬ (32 < v12) → ∀ v16 : Int, v16 = (gI es 79 6).toInt → ∀ es17 : PH, es17 = sI es 79 6 (.int (zI (v16 + 1))) → aW O (d + 1) 176 kc ks Q (0, [some (.ref 143)], [], es17)) :
    aW O (d + 1) 176 kc ks Q (0, [some (.ref 143)], [], es) := by
  refine x0 (r := (1, [some (.ref 143)], [.ref 143], es)) i_176_0 rfl ?_
  refine x0 (r := (3, [some (.ref 143)], [.int (zI 32), .ref 143], es)) i_176_1 (by rfl) ?_
  refine x0 (r := (5, [some (.ref 143)], [.int (zI 32), .int (zI 32), .ref 143], es)) i_176_3 (by rfl) ?_
  refine x_call (vs := [.ref 143, .int (zI 32), .int (zI 32)]) (rs := []) i_176_5 rfl (fun _ => rfl) rfl rfl rfl rfl rfl (pCall_v (p := 79) hs_es rfl rfl rfl rfl rfl (by decide) rfl rfl rfl rfl rfl) ?_
  show aW _ _ _ _ _ _ (0, [some (.ref 143), some (.int (zI 32)), some (.int (zI 32))], [], es)
  refine x0 (r := (1, [some (.ref 143), some (.int (zI 32)), some (.int (zI 32))], [.ref 143], es)) i_177_0 rfl ?_
  refine x_geti (p := 79) i_177_1 hs_es rfl rfl ?_
  obtain ⟨v1, e_v1⟩ : ∃ z : Int, z = (gI es 79 6).toInt := ⟨_, rfl⟩
  rw [← e_v1]
  have r_v1 : iLO ≤ v1 ∧ v1 ≤ iHI := by rw [e_v1]; exact i32_rng _
  unfold iLO iHI at r_v1
  have b_v1 : (0 : Int) ≤ v1 ∧ v1 ≤ (400 : Int) := by rw [e_v1]; exact gI_bd hT_es (p := 79) (b := 6) rfl rfl
  refine x0 (r := (5, [some (.ref 143), some (.int (zI 32)), some (.int (zI 32))], [.ref 143, .int (zI v1)], es)) i_177_4 rfl ?_
  refine x_geti (p := 79) i_177_5 hs_es rfl rfl ?_
  obtain ⟨v2, e_v2⟩ : ∃ z : Int, z = (gI es 79 7).toInt := ⟨_, rfl⟩
  rw [← e_v2]
  have r_v2 : iLO ≤ v2 ∧ v2 ≤ iHI := by rw [e_v2]; exact i32_rng _
  unfold iLO iHI at r_v2
  have b_v2 : (0 : Int) ≤ v2 ∧ v2 ≤ (400 : Int) := by rw [e_v2]; exact gI_bd hT_es (p := 79) (b := 7) rfl rfl
  by_cases c3 : v2 ≤ v1
  · refine x_cmpT i_177_8 (by unfold i32 iLO iHI; omega) (by unfold i32 iLO iHI; omega) rfl (by simp only [zC, cR]; omega) ?_
    refine x0 (r := (42, [some (.ref 143), some (.int (zI 32)), some (.int (zI 32))], [.int (zI 0)], es)) i_177_41 (by rfl) ?_
    refine x_ret (v := some (.int (zI 0))) i_177_42 rfl (fun _ => rfl) rfl rfl (pFin_b (by omega)) ?_
    show aW _ _ _ _ _ _ (8, [some (.ref 143)], [.int (zI 0)], es)
    refine x_ifT i_176_8 (by unfold i32 iLO iHI; omega) rfl (by simp only [zC, cR]; omega) ?_
    refine x0 (r := (25, [some (.ref 143)], [.ref 143], es)) i_176_24 rfl ?_
    refine x0 (r := (26, [some (.ref 143)], [.ref 143, .ref 143], es)) i_176_25 rfl ?_
    refine x_geti (p := 79) i_176_26 hs_es rfl rfl ?_
    obtain ⟨v4, e_v4⟩ : ∃ z : Int, z = (gI es 79 6).toInt := ⟨_, rfl⟩
    rw [← e_v4]
    have r_v4 : iLO ≤ v4 ∧ v4 ≤ iHI := by rw [e_v4]; exact i32_rng _
    unfold iLO iHI at r_v4
    have b_v4 : (0 : Int) ≤ v4 ∧ v4 ≤ (400 : Int) := by rw [e_v4]; exact gI_bd hT_es (p := 79) (b := 6) rfl rfl
    refine x_puti (p := 79) (ty := .int) i_176_29 hs_es rfl rfl rfl (Or.inl rfl) ?_
    obtain ⟨es5, e_es5⟩ : ∃ z : PH, z = sI es 79 8 (.int (zI v4)) := ⟨_, rfl⟩
    have hs_es5 : sh es5 := by rw [e_es5]; exact sh_sI hs_es (p := 79) (b := 8) rfl rfl
    have hT_es5 : hOK tT es5 := by rw [e_es5]; exact hOK_sI hT_es (p := 79) (b := 8) rfl rfl (by rw [zI_toInt (by unfold i32 iLO iHI; omega)]; exact ⟨by show (0 : Int) ≤ v4; omega, by show v4 ≤ (400 : Int); omega⟩)
    rw [← e_es5]
    refine x_ret (v := none) i_176_32 rfl (fun _ => rfl) rfl rfl rfl ?_
    exact K1 v1 e_v1 v2 e_v2 c3 v4 e_v4 es5 e_es5
  · refine x_cmpF i_177_8 (by unfold i32 iLO iHI; omega) (by unfold i32 iLO iHI; omega) rfl (by simp only [zC, cR]; omega) ?_
    refine x0 (r := (12, [some (.ref 143), some (.int (zI 32)), some (.int (zI 32))], [.ref 143], es)) i_177_11 rfl ?_
    refine x_getr (p := 79) (k := 146) i_177_12 hs_es rfl rfl ?_
    show aW _ _ _ _ _ _ (15, [some (.ref 143), some (.int (zI 32)), some (.int (zI 32))], [.ref 146], es)
    refine x0 (r := (16, [some (.ref 143), some (.int (zI 32)), some (.int (zI 32))], [.ref 143, .ref 146], es)) i_177_15 rfl ?_
    refine x_geti (p := 79) i_177_16 hs_es rfl rfl ?_
    obtain ⟨v6, e_v6⟩ : ∃ z : Int, z = (gI es 79 6).toInt := ⟨_, rfl⟩
    rw [← e_v6]
    have r_v6 : iLO ≤ v6 ∧ v6 ≤ iHI := by rw [e_v6]; exact i32_rng _
    unfold iLO iHI at r_v6
    have b_v6 : (0 : Int) ≤ v6 ∧ v6 ≤ (400 : Int) := by rw [e_v6]; exact gI_bd hT_es (p := 79) (b := 6) rfl rfl
    refine x_bald (p := 82) i_177_19 hs_es rfl (by decide) (by unfold i32 iLO iHI; omega) (by omega) (by omega) ?_
    obtain ⟨v7, e_v7⟩ : ∃ z : Int, z = (gA es 82 v6.toNat).toInt := ⟨_, rfl⟩
    rw [← e_v7]
    have r_v7 : iLO ≤ v7 ∧ v7 ≤ iHI := by rw [e_v7]; exact i32_rng _
    unfold iLO iHI at r_v7
    have b_v7 : (-128 : Int) ≤ v7 ∧ v7 ≤ (127 : Int) := by rw [e_v7]; exact gA_bd hT_es (p := 82) (k := v6.toNat) rfl (by omega) (by decide)
    refine x0 (r := (21, [some (.ref 143), some (.int (zI 32)), some (.int (zI 32))], [.int (zI 32), .int (zI v7)], es)) i_177_20 rfl ?_
    by_cases c8 : v7 < 32
    · refine x_cmpT i_177_21 (by unfold i32 iLO iHI; omega) (by unfold i32 iLO iHI; omega) rfl (by simp only [zC, cR]; omega) ?_
      refine x0 (r := (42, [some (.ref 143), some (.int (zI 32)), some (.int (zI 32))], [.int (zI 0)], es)) i_177_41 (by rfl) ?_
      refine x_ret (v := some (.int (zI 0))) i_177_42 rfl (fun _ => rfl) rfl rfl (pFin_b (by omega)) ?_
      show aW _ _ _ _ _ _ (8, [some (.ref 143)], [.int (zI 0)], es)
      refine x_ifT i_176_8 (by unfold i32 iLO iHI; omega) rfl (by simp only [zC, cR]; omega) ?_
      refine x0 (r := (25, [some (.ref 143)], [.ref 143], es)) i_176_24 rfl ?_
      refine x0 (r := (26, [some (.ref 143)], [.ref 143, .ref 143], es)) i_176_25 rfl ?_
      refine x_geti (p := 79) i_176_26 hs_es rfl rfl ?_
      obtain ⟨v9, e_v9⟩ : ∃ z : Int, z = (gI es 79 6).toInt := ⟨_, rfl⟩
      rw [← e_v9]
      have r_v9 : iLO ≤ v9 ∧ v9 ≤ iHI := by rw [e_v9]; exact i32_rng _
      unfold iLO iHI at r_v9
      have b_v9 : (0 : Int) ≤ v9 ∧ v9 ≤ (400 : Int) := by rw [e_v9]; exact gI_bd hT_es (p := 79) (b := 6) rfl rfl
      refine x_puti (p := 79) (ty := .int) i_176_29 hs_es rfl rfl rfl (Or.inl rfl) ?_
      obtain ⟨es10, e_es10⟩ : ∃ z : PH, z = sI es 79 8 (.int (zI v9)) := ⟨_, rfl⟩
      have hs_es10 : sh es10 := by rw [e_es10]; exact sh_sI hs_es (p := 79) (b := 8) rfl rfl
      have hT_es10 : hOK tT es10 := by rw [e_es10]; exact hOK_sI hT_es (p := 79) (b := 8) rfl rfl (by rw [zI_toInt (by unfold i32 iLO iHI; omega)]; exact ⟨by show (0 : Int) ≤ v9; omega, by show v9 ≤ (400 : Int); omega⟩)
      rw [← e_es10]
      refine x_ret (v := none) i_176_32 rfl (fun _ => rfl) rfl rfl rfl ?_
      exact K2 v1 e_v1 v2 e_v2 c3 v6 e_v6 v7 e_v7 c8 v9 e_v9 es10 e_es10
    · refine x_cmpF i_177_21 (by unfold i32 iLO iHI; omega) (by unfold i32 iLO iHI; omega) rfl (by simp only [zC, cR]; omega) ?_
      refine x0 (r := (25, [some (.ref 143), some (.int (zI 32)), some (.int (zI 32))], [.ref 143], es)) i_177_24 rfl ?_
      refine x_getr (p := 79) (k := 146) i_177_25 hs_es rfl rfl ?_
      show aW _ _ _ _ _ _ (28, [some (.ref 143), some (.int (zI 32)), some (.int (zI 32))], [.ref 146], es)
      refine x0 (r := (29, [some (.ref 143), some (.int (zI 32)), some (.int (zI 32))], [.ref 143, .ref 146], es)) i_177_28 rfl ?_
      refine x_geti (p := 79) i_177_29 hs_es rfl rfl ?_
      obtain ⟨v11, e_v11⟩ : ∃ z : Int, z = (gI es 79 6).toInt := ⟨_, rfl⟩
      rw [← e_v11]
      have r_v11 : iLO ≤ v11 ∧ v11 ≤ iHI := by rw [e_v11]; exact i32_rng _
      unfold iLO iHI at r_v11
      have b_v11 : (0 : Int) ≤ v11 ∧ v11 ≤ (400 : Int) := by rw [e_v11]; exact gI_bd hT_es (p := 79) (b := 6) rfl rfl
      refine x_bald (p := 82) i_177_32 hs_es rfl (by decide) (by unfold i32 iLO iHI; omega) (by omega) (by omega) ?_
      obtain ⟨v12, e_v12⟩ : ∃ z : Int, z = (gA es 82 v11.toNat).toInt := ⟨_, rfl⟩
      rw [← e_v12]
      have r_v12 : iLO ≤ v12 ∧ v12 ≤ iHI := by rw [e_v12]; exact i32_rng _
      unfold iLO iHI at r_v12
      have b_v12 : (-128 : Int) ≤ v12 ∧ v12 ≤ (127 : Int) := by rw [e_v12]; exact gA_bd hT_es (p := 82) (k := v11.toNat) rfl (by omega) (by decide)
      refine x0 (r := (34, [some (.ref 143), some (.int (zI 32)), some (.int (zI 32))], [.int (zI 32), .int (zI v12)], es)) i_177_33 rfl ?_
      by_cases c13 : 32 < v12
      · refine x_cmpT i_177_34 (by unfold i32 iLO iHI; omega) (by unfold i32 iLO iHI; omega) rfl (by simp only [zC, cR]; omega) ?_
        refine x0 (r := (42, [some (.ref 143), some (.int (zI 32)), some (.int (zI 32))], [.int (zI 0)], es)) i_177_41 (by rfl) ?_
        refine x_ret (v := some (.int (zI 0))) i_177_42 rfl (fun _ => rfl) rfl rfl (pFin_b (by omega)) ?_
        show aW _ _ _ _ _ _ (8, [some (.ref 143)], [.int (zI 0)], es)
        refine x_ifT i_176_8 (by unfold i32 iLO iHI; omega) rfl (by simp only [zC, cR]; omega) ?_
        refine x0 (r := (25, [some (.ref 143)], [.ref 143], es)) i_176_24 rfl ?_
        refine x0 (r := (26, [some (.ref 143)], [.ref 143, .ref 143], es)) i_176_25 rfl ?_
        refine x_geti (p := 79) i_176_26 hs_es rfl rfl ?_
        obtain ⟨v14, e_v14⟩ : ∃ z : Int, z = (gI es 79 6).toInt := ⟨_, rfl⟩
        rw [← e_v14]
        have r_v14 : iLO ≤ v14 ∧ v14 ≤ iHI := by rw [e_v14]; exact i32_rng _
        unfold iLO iHI at r_v14
        have b_v14 : (0 : Int) ≤ v14 ∧ v14 ≤ (400 : Int) := by rw [e_v14]; exact gI_bd hT_es (p := 79) (b := 6) rfl rfl
        refine x_puti (p := 79) (ty := .int) i_176_29 hs_es rfl rfl rfl (Or.inl rfl) ?_
        obtain ⟨es15, e_es15⟩ : ∃ z : PH, z = sI es 79 8 (.int (zI v14)) := ⟨_, rfl⟩
        have hs_es15 : sh es15 := by rw [e_es15]; exact sh_sI hs_es (p := 79) (b := 8) rfl rfl
        have hT_es15 : hOK tT es15 := by rw [e_es15]; exact hOK_sI hT_es (p := 79) (b := 8) rfl rfl (by rw [zI_toInt (by unfold i32 iLO iHI; omega)]; exact ⟨by show (0 : Int) ≤ v14; omega, by show v14 ≤ (400 : Int); omega⟩)
        rw [← e_es15]
        refine x_ret (v := none) i_176_32 rfl (fun _ => rfl) rfl rfl rfl ?_
        exact K3 v1 e_v1 v2 e_v2 c3 v6 e_v6 v7 e_v7 c8 v11 e_v11 v12 e_v12 c13 v14 e_v14 es15 e_es15
      · refine x_cmpF i_177_34 (by unfold i32 iLO iHI; omega) (by unfold i32 iLO iHI; omega) rfl (by simp only [zC, cR]; omega) ?_
        refine x0 (r := (38, [some (.ref 143), some (.int (zI 32)), some (.int (zI 32))], [.int (zI 1)], es)) i_177_37 (by rfl) ?_
        refine x0 (r := (42, [some (.ref 143), some (.int (zI 32)), some (.int (zI 32))], [.int (zI 1)], es)) i_177_38 rfl ?_
        refine x_ret (v := some (.int (zI 1))) i_177_42 rfl (fun _ => rfl) rfl rfl (pFin_b (by omega)) ?_
        show aW _ _ _ _ _ _ (8, [some (.ref 143)], [.int (zI 1)], es)
        refine x_ifF i_176_8 (by unfold i32 iLO iHI; omega) rfl (by simp only [zC, cR]; omega) ?_
        refine x0 (r := (12, [some (.ref 143)], [.ref 143], es)) i_176_11 rfl ?_
        refine x0 (r := (13, [some (.ref 143)], [.ref 143, .ref 143], es)) i_176_12 rfl ?_
        refine x_geti (p := 79) i_176_13 hs_es rfl rfl ?_
        obtain ⟨v16, e_v16⟩ : ∃ z : Int, z = (gI es 79 6).toInt := ⟨_, rfl⟩
        rw [← e_v16]
        have r_v16 : iLO ≤ v16 ∧ v16 ≤ iHI := by rw [e_v16]; exact i32_rng _
        unfold iLO iHI at r_v16
        have b_v16 : (0 : Int) ≤ v16 ∧ v16 ≤ (400 : Int) := by rw [e_v16]; exact gI_bd hT_es (p := 79) (b := 6) rfl rfl
        refine x0 (r := (17, [some (.ref 143)], [.int (zI 1), .int (zI v16), .ref 143], es)) i_176_16 (by rfl) ?_
        refine x_iadd i_176_17 ?_
        refine x_puti (p := 79) (ty := .int) i_176_18 hs_es rfl rfl rfl (Or.inl rfl) ?_
        obtain ⟨es17, e_es17⟩ : ∃ z : PH, z = sI es 79 6 (.int (zI (v16 + 1))) := ⟨_, rfl⟩
        have hs_es17 : sh es17 := by rw [e_es17]; exact sh_sI hs_es (p := 79) (b := 6) rfl rfl
        have hT_es17 : hOK tT es17 := by rw [e_es17]; exact hOK_sI hT_es (p := 79) (b := 6) rfl rfl (by rw [zI_toInt (by unfold i32 iLO iHI; omega)]; exact ⟨by show (0 : Int) ≤ (v16 + 1); omega, by show (v16 + 1) ≤ (400 : Int); omega⟩)
        rw [← e_es17]
        refine x0 (r := (0, [some (.ref 143)], [], es17)) i_176_21 rfl ?_
        exact K4 v1 e_v1 v2 e_v2 c3 v6 e_v6 v7 e_v7 c8 v11 e_v11 v12 e_v12 c13 v16 e_v16 es17 e_es17
section
variable {O : pOut} {d kc ks : Nat} {Q : pRes → Prop} {es : PH}
theorem bl_loop (hT0 : hOK tT es) (K : ∀ es', blP es es' → Q (.inl none, es', kc, ks)) : ∀ (N : Nat) (es1 : PH), (400 - pT es1).toNat < N → hOK tT es1 → mvB es es1 → aW O (d + 1) 176 kc ks Q (0, [some (.ref 143)], [], es1) := by
  intro N
  induction N with
  | zero => intro es1 h; omega
  | succ N ih =>
    intro es1 hN hT hm
    have hpb := pT_bd hT
    have heb := eT_bd hT
    have fin : ∀ es5, es5 = sI es1 79 8 (.int (zI (gI es1 79 6).toInt)) → Q (.inl none, es5, kc, ks) := by
      intro es5 e5
      unfold pT at hpb
      have hz : (zI (gI es1 79 6).toInt).toInt = (gI es1 79 6).toInt := zI_toInt (i32_rng _)
      have hT5 : hOK tT es5 := by rw [e5]; exact hOK_sI hT (p := 79) (b := 8) rfl rfl (by rw [hz]; exact hpb)
      have hp5 : pT es5 = pT es1 := by unfold pT; rw [e5, gI_sI_ne (Or.inr (by decide))]
      refine K es5 ⟨sh_of hT5, hT5, mvB_trans hm ⟨by rw [e5]; exact fr_sI rfl, by rw [hp5]; omega⟩, ?_⟩
      rw [hp5]
      unfold bT pT
      rw [e5, gI_sI (sh_of hT) (p := 79) rfl (by decide), hz]
    refine s_bl0 (d := d) (sh_of hT) hT (fun v1 e1 v2 e2 h1 v4 e4 es5 e5 => fin es5 (by rw [e5, e4])) (fun v1 e1 v2 e2 h1 v6 e6 v7 e7 h7 v9 e9 es5 e5 => fin es5 (by rw [e5, e9])) (fun v1 e1 v2 e2 h1 v6 e6 v7 e7 h7 v11 e11 v12 e12 h12 v14 e14 es5 e5 => fin es5 (by rw [e5, e14])) (fun v1 e1 v2 e2 h1 v6 e6 v7 e7 h7 v11 e11 v12 e12 h12 v16 e16 es5 e5 => ?_)
    have hlt : pT es1 < 400 := by unfold pT; omega
    obtain ⟨a1, a2, a3, -, -⟩ := pt_up (es' := es5) hT (by unfold pT; omega) (by rw [e5, e16])
    exact ih es5 (by omega) a1 (mvB_trans hm a2)
theorem bl_spec (hs : sh es) (hT : hOK tT es) (K : ∀ es', blP es es' → Q (.inl none, es', kc, ks)) : aW O (d + 1) 176 kc ks Q (0, [some (.ref 143)], [], es) := bl_loop hT K _ es (Nat.lt_succ_self _) hT (mvB_refl es)
end
theorem s_lt0 {O : pOut} {d kc ks : Nat} {Q : pRes → Prop} {es : PH} (hs_es : sh es) (hT_es : hOK tT es)
    (K1 : ∀ es1 : PH, blP  es es1 → aW O (d + 2) 178 kc ks Q (4, [some (.ref 143)], [], es1)) :
    aW O (d + 2) 178 kc ks Q (0, [some (.ref 143)], [], es) := by
  refine x0 (r := (1, [some (.ref 143)], [.ref 143], es)) i_178_0 rfl ?_
  refine x_call (vs := [.ref 143]) (rs := []) i_178_1 rfl (fun _ => rfl) rfl rfl rfl rfl rfl (pCall_v (p := 79) hs_es rfl rfl rfl rfl rfl (by decide) rfl rfl rfl rfl rfl) ?_
  show aW _ _ _ _ _ _ (0, [some (.ref 143)], [], es)
  refine bl_spec hs_es hT_es (fun es1 p_es1 => ?_)
  have hs_es1 : sh es1 := p_es1.1
  have hT_es1 : hOK tT es1 := p_es1.2.1
  show aW _ _ _ _ _ _ (4, [some (.ref 143)], [], es1)
  exact K1 es1 p_es1

theorem s_lt4 {O : pOut} {d kc ks : Nat} {Q : pRes → Prop} {es : PH} (hs_es : sh es) (hT_es : hOK tT es)
    (K1 : ∀ v1 : Int, v1 = (gI es 79 6).toInt → ∀ v2 : Int, v2 = (gI es 79 7).toInt → v2 ≤ v1 → Q (.inl (none), es, kc, ks))
    (K2 : ∀ v1 : Int, v1 = (gI es 79 6).toInt → ∀ v2 : Int, v2 = (gI es 79 7).toInt → ¬ (v2 ≤ v1) → ∀ v4 : Int, v4 = (gI es 79 6).toInt → ∀ v5 : Int, v5 = (gA es 82 v4.toNat).toInt → v5 < 97 → Q (.inl (none), es, kc, ks))
    (K3 : ∀ v1 : Int, v1 = (gI es 79 6).toInt → ∀ v2 : Int, v2 = (gI es 79 7).toInt → ¬ (v2 ≤ v1) → ∀ v4 : Int, v4 = (gI es 79 6).toInt → ∀ v5 : Int, v5 = (gA es 82 v4.toNat).toInt → ¬ (v5 < 97) → ∀ v7 : Int, v7 = (gI es 79 6).toInt → ∀ v8 : Int, v8 = (gA es 82 v7.toNat).toInt → 122 < v8 → Q (.inl (none), es, kc, ks))
    (K4 : ∀ v1 : Int, v1 = (gI es 79 6).toInt → ∀ v2 : Int, v2 = (gI es 79 7).toInt → ¬ (v2 ≤ v1) → ∀ v4 : Int, v4 = (gI es 79 6).toInt → ∀ v5 : Int, v5 = (gA es 82 v4.toNat).toInt → ¬ (v5 < 97) → ∀ v7 : Int, v7 = (gI es 79 6).toInt → ∀ v8 : Int, v8 = (gA es 82 v7.toNat).toInt → ¬ (122 < v8) → ∀ v10 : Int, v10 = (gI es 79 6).toInt → ∀ es11 : PH, es11 = sI es 79 6 (.int (zI (v10 + 1))) → aW O (d + 1) 178 kc ks Q (4, [some (.ref 143)], [], es11)) :
    aW O (d + 1) 178 kc ks Q (4, [some (.ref 143)], [], es) := by
  refine x0 (r := (5, [some (.ref 143)], [.ref 143], es)) i_178_4 rfl ?_
  refine x0 (r := (7, [some (.ref 143)], [.int (zI 97), .ref 143], es)) i_178_5 (by rfl) ?_
  refine x0 (r := (9, [some (.ref 143)], [.int (zI 122), .int (zI 97), .ref 143], es)) i_178_7 (by rfl) ?_
  refine x_call (vs := [.ref 143, .int (zI 97), .int (zI 122)]) (rs := []) i_178_9 rfl (fun _ => rfl) rfl rfl rfl rfl rfl (pCall_v (p := 79) hs_es rfl rfl rfl rfl rfl (by decide) rfl rfl rfl rfl rfl) ?_
  show aW _ _ _ _ _ _ (0, [some (.ref 143), some (.int (zI 97)), some (.int (zI 122))], [], es)
  refine x0 (r := (1, [some (.ref 143), some (.int (zI 97)), some (.int (zI 122))], [.ref 143], es)) i_177_0 rfl ?_
  refine x_geti (p := 79) i_177_1 hs_es rfl rfl ?_
  obtain ⟨v1, e_v1⟩ : ∃ z : Int, z = (gI es 79 6).toInt := ⟨_, rfl⟩
  rw [← e_v1]
  have r_v1 : iLO ≤ v1 ∧ v1 ≤ iHI := by rw [e_v1]; exact i32_rng _
  unfold iLO iHI at r_v1
  have b_v1 : (0 : Int) ≤ v1 ∧ v1 ≤ (400 : Int) := by rw [e_v1]; exact gI_bd hT_es (p := 79) (b := 6) rfl rfl
  refine x0 (r := (5, [some (.ref 143), some (.int (zI 97)), some (.int (zI 122))], [.ref 143, .int (zI v1)], es)) i_177_4 rfl ?_
  refine x_geti (p := 79) i_177_5 hs_es rfl rfl ?_
  obtain ⟨v2, e_v2⟩ : ∃ z : Int, z = (gI es 79 7).toInt := ⟨_, rfl⟩
  rw [← e_v2]
  have r_v2 : iLO ≤ v2 ∧ v2 ≤ iHI := by rw [e_v2]; exact i32_rng _
  unfold iLO iHI at r_v2
  have b_v2 : (0 : Int) ≤ v2 ∧ v2 ≤ (400 : Int) := by rw [e_v2]; exact gI_bd hT_es (p := 79) (b := 7) rfl rfl
  by_cases c3 : v2 ≤ v1
  · refine x_cmpT i_177_8 (by unfold i32 iLO iHI; omega) (by unfold i32 iLO iHI; omega) rfl (by simp only [zC, cR]; omega) ?_
    refine x0 (r := (42, [some (.ref 143), some (.int (zI 97)), some (.int (zI 122))], [.int (zI 0)], es)) i_177_41 (by rfl) ?_
    refine x_ret (v := some (.int (zI 0))) i_177_42 rfl (fun _ => rfl) rfl rfl (pFin_b (by omega)) ?_
    show aW _ _ _ _ _ _ (12, [some (.ref 143)], [.int (zI 0)], es)
    refine x_ifT i_178_12 (by unfold i32 iLO iHI; omega) rfl (by simp only [zC, cR]; omega) ?_
    refine x_ret (v := none) i_178_28 rfl (fun _ => rfl) rfl rfl rfl ?_
    exact K1 v1 e_v1 v2 e_v2 c3
  · refine x_cmpF i_177_8 (by unfold i32 iLO iHI; omega) (by unfold i32 iLO iHI; omega) rfl (by simp only [zC, cR]; omega) ?_
    refine x0 (r := (12, [some (.ref 143), some (.int (zI 97)), some (.int (zI 122))], [.ref 143], es)) i_177_11 rfl ?_
    refine x_getr (p := 79) (k := 146) i_177_12 hs_es rfl rfl ?_
    show aW _ _ _ _ _ _ (15, [some (.ref 143), some (.int (zI 97)), some (.int (zI 122))], [.ref 146], es)
    refine x0 (r := (16, [some (.ref 143), some (.int (zI 97)), some (.int (zI 122))], [.ref 143, .ref 146], es)) i_177_15 rfl ?_
    refine x_geti (p := 79) i_177_16 hs_es rfl rfl ?_
    obtain ⟨v4, e_v4⟩ : ∃ z : Int, z = (gI es 79 6).toInt := ⟨_, rfl⟩
    rw [← e_v4]
    have r_v4 : iLO ≤ v4 ∧ v4 ≤ iHI := by rw [e_v4]; exact i32_rng _
    unfold iLO iHI at r_v4
    have b_v4 : (0 : Int) ≤ v4 ∧ v4 ≤ (400 : Int) := by rw [e_v4]; exact gI_bd hT_es (p := 79) (b := 6) rfl rfl
    refine x_bald (p := 82) i_177_19 hs_es rfl (by decide) (by unfold i32 iLO iHI; omega) (by omega) (by omega) ?_
    obtain ⟨v5, e_v5⟩ : ∃ z : Int, z = (gA es 82 v4.toNat).toInt := ⟨_, rfl⟩
    rw [← e_v5]
    have r_v5 : iLO ≤ v5 ∧ v5 ≤ iHI := by rw [e_v5]; exact i32_rng _
    unfold iLO iHI at r_v5
    have b_v5 : (-128 : Int) ≤ v5 ∧ v5 ≤ (127 : Int) := by rw [e_v5]; exact gA_bd hT_es (p := 82) (k := v4.toNat) rfl (by omega) (by decide)
    refine x0 (r := (21, [some (.ref 143), some (.int (zI 97)), some (.int (zI 122))], [.int (zI 97), .int (zI v5)], es)) i_177_20 rfl ?_
    by_cases c6 : v5 < 97
    · refine x_cmpT i_177_21 (by unfold i32 iLO iHI; omega) (by unfold i32 iLO iHI; omega) rfl (by simp only [zC, cR]; omega) ?_
      refine x0 (r := (42, [some (.ref 143), some (.int (zI 97)), some (.int (zI 122))], [.int (zI 0)], es)) i_177_41 (by rfl) ?_
      refine x_ret (v := some (.int (zI 0))) i_177_42 rfl (fun _ => rfl) rfl rfl (pFin_b (by omega)) ?_
      show aW _ _ _ _ _ _ (12, [some (.ref 143)], [.int (zI 0)], es)
      refine x_ifT i_178_12 (by unfold i32 iLO iHI; omega) rfl (by simp only [zC, cR]; omega) ?_
      refine x_ret (v := none) i_178_28 rfl (fun _ => rfl) rfl rfl rfl ?_
      exact K2 v1 e_v1 v2 e_v2 c3 v4 e_v4 v5 e_v5 c6
    · refine x_cmpF i_177_21 (by unfold i32 iLO iHI; omega) (by unfold i32 iLO iHI; omega) rfl (by simp only [zC, cR]; omega) ?_
      refine x0 (r := (25, [some (.ref 143), some (.int (zI 97)), some (.int (zI 122))], [.ref 143], es)) i_177_24 rfl ?_
      refine x_getr (p := 79) (k := 146) i_177_25 hs_es rfl rfl ?_
      show aW _ _ _ _ _ _ (28, [some (.ref 143), some (.int (zI 97)), some (.int (zI 122))], [.ref 146], es)
      refine x0 (r := (29, [some (.ref 143), some (.int (zI 97)), some (.int (zI 122))], [.ref 143, .ref 146], es)) i_177_28 rfl ?_
      refine x_geti (p := 79) i_177_29 hs_es rfl rfl ?_
      obtain ⟨v7, e_v7⟩ : ∃ z : Int, z = (gI es 79 6).toInt := ⟨_, rfl⟩
      rw [← e_v7]
      have r_v7 : iLO ≤ v7 ∧ v7 ≤ iHI := by rw [e_v7]; exact i32_rng _
      unfold iLO iHI at r_v7
      have b_v7 : (0 : Int) ≤ v7 ∧ v7 ≤ (400 : Int) := by rw [e_v7]; exact gI_bd hT_es (p := 79) (b := 6) rfl rfl
      refine x_bald (p := 82) i_177_32 hs_es rfl (by decide) (by unfold i32 iLO iHI; omega) (by omega) (by omega) ?_
      obtain ⟨v8, e_v8⟩ : ∃ z : Int, z = (gA es 82 v7.toNat).toInt := ⟨_, rfl⟩
      rw [← e_v8]
      have r_v8 : iLO ≤ v8 ∧ v8 ≤ iHI := by rw [e_v8]; exact i32_rng _
      unfold iLO iHI at r_v8
      have b_v8 : (-128 : Int) ≤ v8 ∧ v8 ≤ (127 : Int) := by rw [e_v8]; exact gA_bd hT_es (p := 82) (k := v7.toNat) rfl (by omega) (by decide)
      refine x0 (r := (34, [some (.ref 143), some (.int (zI 97)), some (.int (zI 122))], [.int (zI 122), .int (zI v8)], es)) i_177_33 rfl ?_
      by_cases c9 : 122 < v8
      · refine x_cmpT i_177_34 (by unfold i32 iLO iHI; omega) (by unfold i32 iLO iHI; omega) rfl (by simp only [zC, cR]; omega) ?_
        refine x0 (r := (42, [some (.ref 143), some (.int (zI 97)), some (.int (zI 122))], [.int (zI 0)], es)) i_177_41 (by rfl) ?_
        refine x_ret (v := some (.int (zI 0))) i_177_42 rfl (fun _ => rfl) rfl rfl (pFin_b (by omega)) ?_
        show aW _ _ _ _ _ _ (12, [some (.ref 143)], [.int (zI 0)], es)
        refine x_ifT i_178_12 (by unfold i32 iLO iHI; omega) rfl (by simp only [zC, cR]; omega) ?_
        refine x_ret (v := none) i_178_28 rfl (fun _ => rfl) rfl rfl rfl ?_
        exact K3 v1 e_v1 v2 e_v2 c3 v4 e_v4 v5 e_v5 c6 v7 e_v7 v8 e_v8 c9
      · refine x_cmpF i_177_34 (by unfold i32 iLO iHI; omega) (by unfold i32 iLO iHI; omega) rfl (by simp only [zC, cR]; omega) ?_
        refine x0 (r := (38, [some (.ref 143), some (.int (zI 97)), some (.int (zI 122))], [.int (zI 1)], es)) i_177_37 (by rfl) ?_
        refine x0 (r := (42, [some (.ref 143), some (.int (zI 97)), some (.int (zI 122))], [.int (zI 1)], es)) i_177_38 rfl ?_
        refine x_ret (v := some (.int (zI 1))) i_177_42 rfl (fun _ => rfl) rfl rfl (pFin_b (by omega)) ?_
        show aW _ _ _ _ _ _ (12, [some (.ref 143)], [.int (zI 1)], es)
        refine x_ifF i_178_12 (by unfold i32 iLO iHI; omega) rfl (by simp only [zC, cR]; omega) ?_
        refine x0 (r := (16, [some (.ref 143)], [.ref 143], es)) i_178_15 rfl ?_
        refine x0 (r := (17, [some (.ref 143)], [.ref 143, .ref 143], es)) i_178_16 rfl ?_
        refine x_geti (p := 79) i_178_17 hs_es rfl rfl ?_
        obtain ⟨v10, e_v10⟩ : ∃ z : Int, z = (gI es 79 6).toInt := ⟨_, rfl⟩
        rw [← e_v10]
        have r_v10 : iLO ≤ v10 ∧ v10 ≤ iHI := by rw [e_v10]; exact i32_rng _
        unfold iLO iHI at r_v10
        have b_v10 : (0 : Int) ≤ v10 ∧ v10 ≤ (400 : Int) := by rw [e_v10]; exact gI_bd hT_es (p := 79) (b := 6) rfl rfl
        refine x0 (r := (21, [some (.ref 143)], [.int (zI 1), .int (zI v10), .ref 143], es)) i_178_20 (by rfl) ?_
        refine x_iadd i_178_21 ?_
        refine x_puti (p := 79) (ty := .int) i_178_22 hs_es rfl rfl rfl (Or.inl rfl) ?_
        obtain ⟨es11, e_es11⟩ : ∃ z : PH, z = sI es 79 6 (.int (zI (v10 + 1))) := ⟨_, rfl⟩
        have hs_es11 : sh es11 := by rw [e_es11]; exact sh_sI hs_es (p := 79) (b := 6) rfl rfl
        have hT_es11 : hOK tT es11 := by rw [e_es11]; exact hOK_sI hT_es (p := 79) (b := 6) rfl rfl (by rw [zI_toInt (by unfold i32 iLO iHI; omega)]; exact ⟨by show (0 : Int) ≤ (v10 + 1); omega, by show (v10 + 1) ≤ (400 : Int); omega⟩)
        rw [← e_es11]
        refine x0 (r := (4, [some (.ref 143)], [], es11)) i_178_25 rfl ?_
        exact K4 v1 e_v1 v2 e_v2 c3 v4 e_v4 v5 e_v5 c6 v7 e_v7 v8 e_v8 c9 v10 e_v10 es11 e_es11

theorem s_nm0 {O : pOut} {d kc ks : Nat} {Q : pRes → Prop} {es : PH} {lo hi : Int} (hs_es : sh es) (hT_es : hOK tT es)
    (K1 : ∀ es1 : PH, blP  es es1 → aW O (d + 2) 181 kc ks Q (6, [some (.ref 143), some (.int (zI lo)), some (.int (zI hi)), some (.int (zI 0))], [], es1)) :
    aW O (d + 2) 181 kc ks Q (0, [some (.ref 143), some (.int (zI lo)), some (.int (zI hi)), none], [], es) := by
  refine x0 (r := (1, [some (.ref 143), some (.int (zI lo)), some (.int (zI hi)), none], [.ref 143], es)) i_181_0 rfl ?_
  refine x_call (vs := [.ref 143]) (rs := []) i_181_1 rfl (fun _ => rfl) rfl rfl rfl rfl rfl (pCall_v (p := 79) hs_es rfl rfl rfl rfl rfl (by decide) rfl rfl rfl rfl rfl) ?_
  show aW _ _ _ _ _ _ (0, [some (.ref 143)], [], es)
  refine bl_spec hs_es hT_es (fun es1 p_es1 => ?_)
  have hs_es1 : sh es1 := p_es1.1
  have hT_es1 : hOK tT es1 := p_es1.2.1
  show aW _ _ _ _ _ _ (4, [some (.ref 143), some (.int (zI lo)), some (.int (zI hi)), none], [], es1)
  refine x0 (r := (5, [some (.ref 143), some (.int (zI lo)), some (.int (zI hi)), none], [.int (zI 0)], es1)) i_181_4 (by rfl) ?_
  refine x0 (r := (6, [some (.ref 143), some (.int (zI lo)), some (.int (zI hi)), some (.int (zI 0))], [], es1)) i_181_5 rfl ?_
  exact K1 es1 p_es1

theorem s_nm6 {O : pOut} {d kc ks : Nat} {Q : pRes → Prop} {es : PH} {lo hi v : Int} (hs_es : sh es) (h1 : -1 ≤ lo ∧ lo ≤ 999) (h2 : -1 ≤ hi ∧ hi ≤ 999) (h3 : -2147483648 ≤ v ∧ v ≤ 2147483647) (hT_es : hOK tT es)
    (K1 : ∀ v1 : Int, v1 = (gI es 79 6).toInt → ∀ v2 : Int, v2 = (gI es 79 7).toInt → v2 ≤ v1 → ∀ v4 : Int, v4 = (gI es 79 6).toInt → ∀ v5 : Int, v5 = (gI es 79 8).toInt → v4 = v5 → Q (.inl (some (.int (zI (-1)))), es, kc, ks))
    (K2 : ∀ v1 : Int, v1 = (gI es 79 6).toInt → ∀ v2 : Int, v2 = (gI es 79 7).toInt → v2 ≤ v1 → ∀ v4 : Int, v4 = (gI es 79 6).toInt → ∀ v5 : Int, v5 = (gI es 79 8).toInt → ¬ (v4 = v5) → ∀ v7 : Int, v7 = (gI es 79 6).toInt → ∀ v8 : Int, v8 = (gI es 79 8).toInt → 3 < (v7 - v8) → Q (.inl (some (.int (zI (-1)))), es, kc, ks))
    (K3 : ∀ v1 : Int, v1 = (gI es 79 6).toInt → ∀ v2 : Int, v2 = (gI es 79 7).toInt → v2 ≤ v1 → ∀ v4 : Int, v4 = (gI es 79 6).toInt → ∀ v5 : Int, v5 = (gI es 79 8).toInt → ¬ (v4 = v5) → ∀ v7 : Int, v7 = (gI es 79 6).toInt → ∀ v8 : Int, v8 = (gI es 79 8).toInt → ¬ (3 < (v7 - v8)) → v < lo → Q (.inl (some (.int (zI (-1)))), es, kc, ks))
    (K4 : ∀ v1 : Int, v1 = (gI es 79 6).toInt → ∀ v2 : Int, v2 = (gI es 79 7).toInt → v2 ≤ v1 → ∀ v4 : Int, v4 = (gI es 79 6).toInt → ∀ v5 : Int, v5 = (gI es 79 8).toInt → ¬ (v4 = v5) → ∀ v7 : Int, v7 = (gI es 79 6).toInt → ∀ v8 : Int, v8 = (gI es 79 8).toInt → ¬ (3 < (v7 - v8)) → ¬ (v < lo) → v ≤ hi → Q (.inl (some (.int (zI v))), es, kc, ks))
    (K5 : ∀ v1 : Int, v1 = (gI es 79 6).toInt → ∀ v2 : Int, v2 = (gI es 79 7).toInt → v2 ≤ v1 → ∀ v4 : Int, v4 = (gI es 79 6).toInt → ∀ v5 : Int, v5 = (gI es 79 8).toInt → ¬ (v4 = v5) → ∀ v7 : Int, v7 = (gI es 79 6).toInt → ∀ v8 : Int, v8 = (gI es 79 8).toInt → ¬ (3 < (v7 - v8)) → ¬ (v < lo) → ¬ (v ≤ hi) → Q (.inl (some (.int (zI (-1)))), es, kc, ks))
    (K6 : ∀ v1 : Int, v1 = (gI es 79 6).toInt → ∀ v2 : Int, v2 = (gI es 79 7).toInt → ¬ (v2 ≤ v1) → ∀ v12 : Int, v12 = (gI es 79 6).toInt → ∀ v13 : Int, v13 = (gA es 82 v12.toNat).toInt → v13 < 48 → ∀ v15 : Int, v15 = (gI es 79 6).toInt → ∀ v16 : Int, v16 = (gI es 79 8).toInt → v15 = v16 → Q (.inl (some (.int (zI (-1)))), es, kc, ks))
    (K7 : ∀ v1 : Int, v1 = (gI es 79 6).toInt → ∀ v2 : Int, v2 = (gI es 79 7).toInt → ¬ (v2 ≤ v1) → ∀ v12 : Int, v12 = (gI es 79 6).toInt → ∀ v13 : Int, v13 = (gA es 82 v12.toNat).toInt → v13 < 48 → ∀ v15 : Int, v15 = (gI es 79 6).toInt → ∀ v16 : Int, v16 = (gI es 79 8).toInt → ¬ (v15 = v16) → ∀ v18 : Int, v18 = (gI es 79 6).toInt → ∀ v19 : Int, v19 = (gI es 79 8).toInt → 3 < (v18 - v19) → Q (.inl (some (.int (zI (-1)))), es, kc, ks))
    (K8 : ∀ v1 : Int, v1 = (gI es 79 6).toInt → ∀ v2 : Int, v2 = (gI es 79 7).toInt → ¬ (v2 ≤ v1) → ∀ v12 : Int, v12 = (gI es 79 6).toInt → ∀ v13 : Int, v13 = (gA es 82 v12.toNat).toInt → v13 < 48 → ∀ v15 : Int, v15 = (gI es 79 6).toInt → ∀ v16 : Int, v16 = (gI es 79 8).toInt → ¬ (v15 = v16) → ∀ v18 : Int, v18 = (gI es 79 6).toInt → ∀ v19 : Int, v19 = (gI es 79 8).toInt → ¬ (3 < (v18 - v19)) → v < lo → Q (.inl (some (.int (zI (-1)))), es, kc, ks))
    (K9 : ∀ v1 : Int, v1 = (gI es 79 6).toInt → ∀ v2 : Int, v2 = (gI es 79 7).toInt → ¬ (v2 ≤ v1) → ∀ v12 : Int, v12 = (gI es 79 6).toInt → ∀ v13 : Int, v13 = (gA es 82 v12.toNat).toInt → v13 < 48 → ∀ v15 : Int, v15 = (gI es 79 6).toInt → ∀ v16 : Int, v16 = (gI es 79 8).toInt → ¬ (v15 = v16) → ∀ v18 : Int, v18 = (gI es 79 6).toInt → ∀ v19 : Int, v19 = (gI es 79 8).toInt → ¬ (3 < (v18 - v19)) → ¬ (v < lo) → v ≤ hi → Q (.inl (some (.int (zI v))), es, kc, ks))
    (K10 : ∀ v1 : Int, v1 = (gI es 79 6).toInt → ∀ v2 : Int, v2 = (gI es 79 7).toInt → ¬ (v2 ≤ v1) → ∀ v12 : Int, v12 = (gI es 79 6).toInt → ∀ v13 : Int, v13 = (gA es 82 v12.toNat).toInt → v13 < 48 → ∀ v15 : Int, v15 = (gI es 79 6).toInt → ∀ v16 : Int, v16 = (gI es 79 8).toInt → ¬ (v15 = v16) → ∀ v18 : Int, v18 = (gI es 79 6).toInt → ∀ v19 : Int, v19 = (gI es 79 8).toInt → ¬ (3 < (v18 - v19)) → ¬ (v < lo) → ¬ (v ≤ hi) → Q (.inl (some (.int (zI (-1)))), es, kc, ks))
    (K11 : ∀ v1 : Int, v1 = (gI es 79 6).toInt → ∀ v2 : Int, v2 = (gI es 79 7).toInt → ¬ (v2 ≤ v1) → ∀ v12 : Int, v12 = (gI es 79 6).toInt → ∀ v13 : Int, v13 = (gA es 82 v12.toNat).toInt → ¬ (v13 < 48) → ∀ v23 : Int, v23 = (gI es 79 6).toInt → ∀ v24 : Int, v24 = (gA es 82 v23.toNat).toInt → 57 < v24 → ∀ v26 : Int, v26 = (gI es 79 6).toInt → ∀ v27 : Int, v27 = (gI es 79 8).toInt → v26 = v27 → Q (.inl (some (.int (zI (-1)))), es, kc, ks))
    (K12 : ∀ v1 : Int, v1 = (gI es 79 6).toInt → ∀ v2 : Int, v2 = (gI es 79 7).toInt → ¬ (v2 ≤ v1) → ∀ v12 : Int, v12 = (gI es 79 6).toInt → ∀ v13 : Int, v13 = (gA es 82 v12.toNat).toInt → ¬ (v13 < 48) → ∀ v23 : Int, v23 = (gI es 79 6).toInt → ∀ v24 : Int, v24 = (gA es 82 v23.toNat).toInt → 57 < v24 → ∀ v26 : Int, v26 = (gI es 79 6).toInt → ∀ v27 : Int, v27 = (gI es 79 8).toInt → ¬ (v26 = v27) → ∀ v29 : Int, v29 = (gI es 79 6).toInt → ∀ v30 : Int, v30 = (gI es 79 8).toInt → 3 < (v29 - v30) → Q (.inl (some (.int (zI (-1)))), es, kc, ks))
    (K13 : ∀ v1 : Int, v1 = (gI es 79 6).toInt → ∀ v2 : Int, v2 = (gI es 79 7).toInt → ¬ (v2 ≤ v1) → ∀ v12 : Int, v12 = (gI es 79 6).toInt → ∀ v13 : Int, v13 = (gA es 82 v12.toNat).toInt → ¬ (v13 < 48) → ∀ v23 : Int, v23 = (gI es 79 6).toInt → ∀ v24 : Int, v24 = (gA es 82 v23.toNat).toInt → 57 < v24 → ∀ v26 : Int, v26 = (gI es 79 6).toInt → ∀ v27 : Int, v27 = (gI es 79 8).toInt → ¬ (v26 = v27) → ∀ v29 : Int, v29 = (gI es 79 6).toInt → ∀ v30 : Int, v30 = (gI es 79 8).toInt → ¬ (3 < (v29 - v30)) → v < lo → Q (.inl (some (.int (zI (-1)))), es, kc, ks))
    (K14 : ∀ v1 : Int, v1 = (gI es 79 6).toInt → ∀ v2 : Int, v2 = (gI es 79 7).toInt → ¬ (v2 ≤ v1) → ∀ v12 : Int, v12 = (gI es 79 6).toInt → ∀ v13 : Int, v13 = (gA es 82 v12.toNat).toInt → ¬ (v13 < 48) → ∀ v23 : Int, v23 = (gI es 79 6).toInt → ∀ v24 : Int, v24 = (gA es 82 v23.toNat).toInt → 57 < v24 → ∀ v26 : Int, v26 = (gI es 79 6).toInt → ∀ v27 : Int, v27 = (gI es 79 8).toInt → ¬ (v26 = v27) → ∀ v29 : Int, v29 = (gI es 79 6).toInt → ∀ v30 : Int, v30 = (gI es 79 8).toInt → ¬ (3 < (v29 - v30)) → ¬ (v < lo) → v ≤ hi → Q (.inl (some (.int (zI v))), es, kc, ks))
    (K15 : ∀ v1 : Int, v1 = (gI es 79 6).toInt → ∀ v2 : Int, v2 = (gI es 79 7).toInt → ¬ (v2 ≤ v1) → ∀ v12 : Int, v12 = (gI es 79 6).toInt → ∀ v13 : Int, v13 = (gA es 82 v12.toNat).toInt → ¬ (v13 < 48) → ∀ v23 : Int, v23 = (gI es 79 6).toInt → ∀ v24 : Int, v24 = (gA es 82 v23.toNat).toInt → 57 < v24 → ∀ v26 : Int, v26 = (gI es 79 6).toInt → ∀ v27 : Int, v27 = (gI es 79 8).toInt → ¬ (v26 = v27) → ∀ v29 : Int, v29 = (gI es 79 6).toInt → ∀ v30 : Int, v30 = (gI es 79 8).toInt → ¬ (3 < (v29 - v30)) → ¬ (v < lo) → ¬ (v ≤ hi) → Q (.inl (some (.int (zI (-1)))), es, kc, ks))
    (K16 : ∀ v1 : Int, v1 = (gI es 79 6).toInt → ∀ v2 : Int, v2 = (gI es 79 7).toInt → ¬ (v2 ≤ v1) → ∀ v12 : Int, v12 = (gI es 79 6).toInt → ∀ v13 : Int, v13 = (gA es 82 v12.toNat).toInt → ¬ (v13 < 48) → ∀ v23 : Int, v23 = (gI es 79 6).toInt → ∀ v24 : Int, v24 = (gA es 82 v23.toNat).toInt → ¬ (57 < v24) → ∀ v34 : Int, v34 = (gI es 79 6).toInt → ∀ v35 : Int, v35 = (gI es 79 8).toInt → 3 ≤ (v34 - v35) → ∀ v37 : Int, v37 = (gI es 79 6).toInt → ∀ es38 : PH, es38 = sI es 79 6 (.int (zI (v37 + 1))) → aW O (d + 1) 181 kc ks Q (6, [some (.ref 143), some (.int (zI lo)), some (.int (zI hi)), some (.int (zI v))], [], es38))
    (K17 : ∀ v1 : Int, v1 = (gI es 79 6).toInt → ∀ v2 : Int, v2 = (gI es 79 7).toInt → ¬ (v2 ≤ v1) → ∀ v12 : Int, v12 = (gI es 79 6).toInt → ∀ v13 : Int, v13 = (gA es 82 v12.toNat).toInt → ¬ (v13 < 48) → ∀ v23 : Int, v23 = (gI es 79 6).toInt → ∀ v24 : Int, v24 = (gA es 82 v23.toNat).toInt → ¬ (57 < v24) → ∀ v34 : Int, v34 = (gI es 79 6).toInt → ∀ v35 : Int, v35 = (gI es 79 8).toInt → ¬ (3 ≤ (v34 - v35)) → ∀ v39 : Int, v39 = (gI es 79 6).toInt → ∀ v40 : Int, v40 = (gA es 82 v39.toNat).toInt → ∀ v41 : Int, v41 = (zI (((10 * v) + v40) - 48)).toInt → ∀ v42 : Int, v42 = (gI es 79 6).toInt → ∀ es43 : PH, es43 = sI es 79 6 (.int (zI (v42 + 1))) → aW O (d + 1) 181 kc ks Q (6, [some (.ref 143), some (.int (zI lo)), some (.int (zI hi)), some (.int (zI v41))], [], es43)) :
    aW O (d + 1) 181 kc ks Q (6, [some (.ref 143), some (.int (zI lo)), some (.int (zI hi)), some (.int (zI v))], [], es) := by
  refine x0 (r := (7, [some (.ref 143), some (.int (zI lo)), some (.int (zI hi)), some (.int (zI v))], [.ref 143], es)) i_181_6 rfl ?_
  refine x0 (r := (9, [some (.ref 143), some (.int (zI lo)), some (.int (zI hi)), some (.int (zI v))], [.int (zI 48), .ref 143], es)) i_181_7 (by rfl) ?_
  refine x0 (r := (11, [some (.ref 143), some (.int (zI lo)), some (.int (zI hi)), some (.int (zI v))], [.int (zI 57), .int (zI 48), .ref 143], es)) i_181_9 (by rfl) ?_
  refine x_call (vs := [.ref 143, .int (zI 48), .int (zI 57)]) (rs := []) i_181_11 rfl (fun _ => rfl) rfl rfl rfl rfl rfl (pCall_v (p := 79) hs_es rfl rfl rfl rfl rfl (by decide) rfl rfl rfl rfl rfl) ?_
  show aW _ _ _ _ _ _ (0, [some (.ref 143), some (.int (zI 48)), some (.int (zI 57))], [], es)
  refine x0 (r := (1, [some (.ref 143), some (.int (zI 48)), some (.int (zI 57))], [.ref 143], es)) i_177_0 rfl ?_
  refine x_geti (p := 79) i_177_1 hs_es rfl rfl ?_
  obtain ⟨v1, e_v1⟩ : ∃ z : Int, z = (gI es 79 6).toInt := ⟨_, rfl⟩
  rw [← e_v1]
  have r_v1 : iLO ≤ v1 ∧ v1 ≤ iHI := by rw [e_v1]; exact i32_rng _
  unfold iLO iHI at r_v1
  have b_v1 : (0 : Int) ≤ v1 ∧ v1 ≤ (400 : Int) := by rw [e_v1]; exact gI_bd hT_es (p := 79) (b := 6) rfl rfl
  refine x0 (r := (5, [some (.ref 143), some (.int (zI 48)), some (.int (zI 57))], [.ref 143, .int (zI v1)], es)) i_177_4 rfl ?_
  refine x_geti (p := 79) i_177_5 hs_es rfl rfl ?_
  obtain ⟨v2, e_v2⟩ : ∃ z : Int, z = (gI es 79 7).toInt := ⟨_, rfl⟩
  rw [← e_v2]
  have r_v2 : iLO ≤ v2 ∧ v2 ≤ iHI := by rw [e_v2]; exact i32_rng _
  unfold iLO iHI at r_v2
  have b_v2 : (0 : Int) ≤ v2 ∧ v2 ≤ (400 : Int) := by rw [e_v2]; exact gI_bd hT_es (p := 79) (b := 7) rfl rfl
  by_cases c3 : v2 ≤ v1
  · refine x_cmpT i_177_8 (by unfold i32 iLO iHI; omega) (by unfold i32 iLO iHI; omega) rfl (by simp only [zC, cR]; omega) ?_
    refine x0 (r := (42, [some (.ref 143), some (.int (zI 48)), some (.int (zI 57))], [.int (zI 0)], es)) i_177_41 (by rfl) ?_
    refine x_ret (v := some (.int (zI 0))) i_177_42 rfl (fun _ => rfl) rfl rfl (pFin_b (by omega)) ?_
    show aW _ _ _ _ _ _ (14, [some (.ref 143), some (.int (zI lo)), some (.int (zI hi)), some (.int (zI v))], [.int (zI 0)], es)
    refine x_ifT i_181_14 (by unfold i32 iLO iHI; omega) rfl (by simp only [zC, cR]; omega) ?_
    refine x0 (r := (66, [some (.ref 143), some (.int (zI lo)), some (.int (zI hi)), some (.int (zI v))], [.ref 143], es)) i_181_65 rfl ?_
    refine x_geti (p := 79) i_181_66 hs_es rfl rfl ?_
    obtain ⟨v4, e_v4⟩ : ∃ z : Int, z = (gI es 79 6).toInt := ⟨_, rfl⟩
    rw [← e_v4]
    have r_v4 : iLO ≤ v4 ∧ v4 ≤ iHI := by rw [e_v4]; exact i32_rng _
    unfold iLO iHI at r_v4
    have b_v4 : (0 : Int) ≤ v4 ∧ v4 ≤ (400 : Int) := by rw [e_v4]; exact gI_bd hT_es (p := 79) (b := 6) rfl rfl
    refine x0 (r := (70, [some (.ref 143), some (.int (zI lo)), some (.int (zI hi)), some (.int (zI v))], [.ref 143, .int (zI v4)], es)) i_181_69 rfl ?_
    refine x_geti (p := 79) i_181_70 hs_es rfl rfl ?_
    obtain ⟨v5, e_v5⟩ : ∃ z : Int, z = (gI es 79 8).toInt := ⟨_, rfl⟩
    rw [← e_v5]
    have r_v5 : iLO ≤ v5 ∧ v5 ≤ iHI := by rw [e_v5]; exact i32_rng _
    unfold iLO iHI at r_v5
    have b_v5 : (0 : Int) ≤ v5 ∧ v5 ≤ (400 : Int) := by rw [e_v5]; exact gI_bd hT_es (p := 79) (b := 8) rfl rfl
    by_cases c6 : v4 = v5
    · refine x_cmpT i_181_73 (by unfold i32 iLO iHI; omega) (by unfold i32 iLO iHI; omega) rfl (by simp only [zC, cR]; omega) ?_
      refine x0 (r := (100, [some (.ref 143), some (.int (zI lo)), some (.int (zI hi)), some (.int (zI v))], [.int (zI (-1))], es)) i_181_99 (by rfl) ?_
      refine x0 (r := (104, [some (.ref 143), some (.int (zI lo)), some (.int (zI hi)), some (.int (zI v))], [.int (zI (-1))], es)) i_181_100 rfl ?_
      refine x_ret (v := some (.int (zI (-1)))) i_181_104 rfl (fun _ => rfl) rfl rfl rfl ?_
      exact K1 v1 e_v1 v2 e_v2 c3 v4 e_v4 v5 e_v5 c6
    · refine x_cmpF i_181_73 (by unfold i32 iLO iHI; omega) (by unfold i32 iLO iHI; omega) rfl (by simp only [zC, cR]; omega) ?_
      refine x0 (r := (77, [some (.ref 143), some (.int (zI lo)), some (.int (zI hi)), some (.int (zI v))], [.ref 143], es)) i_181_76 rfl ?_
      refine x_geti (p := 79) i_181_77 hs_es rfl rfl ?_
      obtain ⟨v7, e_v7⟩ : ∃ z : Int, z = (gI es 79 6).toInt := ⟨_, rfl⟩
      rw [← e_v7]
      have r_v7 : iLO ≤ v7 ∧ v7 ≤ iHI := by rw [e_v7]; exact i32_rng _
      unfold iLO iHI at r_v7
      have b_v7 : (0 : Int) ≤ v7 ∧ v7 ≤ (400 : Int) := by rw [e_v7]; exact gI_bd hT_es (p := 79) (b := 6) rfl rfl
      refine x0 (r := (81, [some (.ref 143), some (.int (zI lo)), some (.int (zI hi)), some (.int (zI v))], [.ref 143, .int (zI v7)], es)) i_181_80 rfl ?_
      refine x_geti (p := 79) i_181_81 hs_es rfl rfl ?_
      obtain ⟨v8, e_v8⟩ : ∃ z : Int, z = (gI es 79 8).toInt := ⟨_, rfl⟩
      rw [← e_v8]
      have r_v8 : iLO ≤ v8 ∧ v8 ≤ iHI := by rw [e_v8]; exact i32_rng _
      unfold iLO iHI at r_v8
      have b_v8 : (0 : Int) ≤ v8 ∧ v8 ≤ (400 : Int) := by rw [e_v8]; exact gI_bd hT_es (p := 79) (b := 8) rfl rfl
      refine x_isub i_181_84 ?_
      refine x0 (r := (86, [some (.ref 143), some (.int (zI lo)), some (.int (zI hi)), some (.int (zI v))], [.int (zI 3), .int (zI (v7 - v8))], es)) i_181_85 (by rfl) ?_
      by_cases c9 : 3 < (v7 - v8)
      · refine x_cmpT i_181_86 (by unfold i32 iLO iHI; omega) (by unfold i32 iLO iHI; omega) rfl (by simp only [zC, cR]; omega) ?_
        refine x0 (r := (100, [some (.ref 143), some (.int (zI lo)), some (.int (zI hi)), some (.int (zI v))], [.int (zI (-1))], es)) i_181_99 (by rfl) ?_
        refine x0 (r := (104, [some (.ref 143), some (.int (zI lo)), some (.int (zI hi)), some (.int (zI v))], [.int (zI (-1))], es)) i_181_100 rfl ?_
        refine x_ret (v := some (.int (zI (-1)))) i_181_104 rfl (fun _ => rfl) rfl rfl rfl ?_
        exact K2 v1 e_v1 v2 e_v2 c3 v4 e_v4 v5 e_v5 c6 v7 e_v7 v8 e_v8 c9
      · refine x_cmpF i_181_86 (by unfold i32 iLO iHI; omega) (by unfold i32 iLO iHI; omega) rfl (by simp only [zC, cR]; omega) ?_
        refine x0 (r := (90, [some (.ref 143), some (.int (zI lo)), some (.int (zI hi)), some (.int (zI v))], [.int (zI v)], es)) i_181_89 rfl ?_
        refine x0 (r := (91, [some (.ref 143), some (.int (zI lo)), some (.int (zI hi)), some (.int (zI v))], [.int (zI lo), .int (zI v)], es)) i_181_90 rfl ?_
        by_cases c10 : v < lo
        · refine x_cmpT i_181_91 (by unfold i32 iLO iHI; omega) (by unfold i32 iLO iHI; omega) rfl (by simp only [zC, cR]; omega) ?_
          refine x0 (r := (100, [some (.ref 143), some (.int (zI lo)), some (.int (zI hi)), some (.int (zI v))], [.int (zI (-1))], es)) i_181_99 (by rfl) ?_
          refine x0 (r := (104, [some (.ref 143), some (.int (zI lo)), some (.int (zI hi)), some (.int (zI v))], [.int (zI (-1))], es)) i_181_100 rfl ?_
          refine x_ret (v := some (.int (zI (-1)))) i_181_104 rfl (fun _ => rfl) rfl rfl rfl ?_
          exact K3 v1 e_v1 v2 e_v2 c3 v4 e_v4 v5 e_v5 c6 v7 e_v7 v8 e_v8 c9 c10
        · refine x_cmpF i_181_91 (by unfold i32 iLO iHI; omega) (by unfold i32 iLO iHI; omega) rfl (by simp only [zC, cR]; omega) ?_
          refine x0 (r := (95, [some (.ref 143), some (.int (zI lo)), some (.int (zI hi)), some (.int (zI v))], [.int (zI v)], es)) i_181_94 rfl ?_
          refine x0 (r := (96, [some (.ref 143), some (.int (zI lo)), some (.int (zI hi)), some (.int (zI v))], [.int (zI hi), .int (zI v)], es)) i_181_95 rfl ?_
          by_cases c11 : v ≤ hi
          · refine x_cmpT i_181_96 (by unfold i32 iLO iHI; omega) (by unfold i32 iLO iHI; omega) rfl (by simp only [zC, cR]; omega) ?_
            refine x0 (r := (104, [some (.ref 143), some (.int (zI lo)), some (.int (zI hi)), some (.int (zI v))], [.int (zI v)], es)) i_181_103 rfl ?_
            refine x_ret (v := some (.int (zI v))) i_181_104 rfl (fun _ => rfl) rfl rfl rfl ?_
            exact K4 v1 e_v1 v2 e_v2 c3 v4 e_v4 v5 e_v5 c6 v7 e_v7 v8 e_v8 c9 c10 c11
          · refine x_cmpF i_181_96 (by unfold i32 iLO iHI; omega) (by unfold i32 iLO iHI; omega) rfl (by simp only [zC, cR]; omega) ?_
            refine x0 (r := (100, [some (.ref 143), some (.int (zI lo)), some (.int (zI hi)), some (.int (zI v))], [.int (zI (-1))], es)) i_181_99 (by rfl) ?_
            refine x0 (r := (104, [some (.ref 143), some (.int (zI lo)), some (.int (zI hi)), some (.int (zI v))], [.int (zI (-1))], es)) i_181_100 rfl ?_
            refine x_ret (v := some (.int (zI (-1)))) i_181_104 rfl (fun _ => rfl) rfl rfl rfl ?_
            exact K5 v1 e_v1 v2 e_v2 c3 v4 e_v4 v5 e_v5 c6 v7 e_v7 v8 e_v8 c9 c10 c11
  · refine x_cmpF i_177_8 (by unfold i32 iLO iHI; omega) (by unfold i32 iLO iHI; omega) rfl (by simp only [zC, cR]; omega) ?_
    refine x0 (r := (12, [some (.ref 143), some (.int (zI 48)), some (.int (zI 57))], [.ref 143], es)) i_177_11 rfl ?_
    refine x_getr (p := 79) (k := 146) i_177_12 hs_es rfl rfl ?_
    show aW _ _ _ _ _ _ (15, [some (.ref 143), some (.int (zI 48)), some (.int (zI 57))], [.ref 146], es)
    refine x0 (r := (16, [some (.ref 143), some (.int (zI 48)), some (.int (zI 57))], [.ref 143, .ref 146], es)) i_177_15 rfl ?_
    refine x_geti (p := 79) i_177_16 hs_es rfl rfl ?_
    obtain ⟨v12, e_v12⟩ : ∃ z : Int, z = (gI es 79 6).toInt := ⟨_, rfl⟩
    rw [← e_v12]
    have r_v12 : iLO ≤ v12 ∧ v12 ≤ iHI := by rw [e_v12]; exact i32_rng _
    unfold iLO iHI at r_v12
    have b_v12 : (0 : Int) ≤ v12 ∧ v12 ≤ (400 : Int) := by rw [e_v12]; exact gI_bd hT_es (p := 79) (b := 6) rfl rfl
    refine x_bald (p := 82) i_177_19 hs_es rfl (by decide) (by unfold i32 iLO iHI; omega) (by omega) (by omega) ?_
    obtain ⟨v13, e_v13⟩ : ∃ z : Int, z = (gA es 82 v12.toNat).toInt := ⟨_, rfl⟩
    rw [← e_v13]
    have r_v13 : iLO ≤ v13 ∧ v13 ≤ iHI := by rw [e_v13]; exact i32_rng _
    unfold iLO iHI at r_v13
    have b_v13 : (-128 : Int) ≤ v13 ∧ v13 ≤ (127 : Int) := by rw [e_v13]; exact gA_bd hT_es (p := 82) (k := v12.toNat) rfl (by omega) (by decide)
    refine x0 (r := (21, [some (.ref 143), some (.int (zI 48)), some (.int (zI 57))], [.int (zI 48), .int (zI v13)], es)) i_177_20 rfl ?_
    by_cases c14 : v13 < 48
    · refine x_cmpT i_177_21 (by unfold i32 iLO iHI; omega) (by unfold i32 iLO iHI; omega) rfl (by simp only [zC, cR]; omega) ?_
      refine x0 (r := (42, [some (.ref 143), some (.int (zI 48)), some (.int (zI 57))], [.int (zI 0)], es)) i_177_41 (by rfl) ?_
      refine x_ret (v := some (.int (zI 0))) i_177_42 rfl (fun _ => rfl) rfl rfl (pFin_b (by omega)) ?_
      show aW _ _ _ _ _ _ (14, [some (.ref 143), some (.int (zI lo)), some (.int (zI hi)), some (.int (zI v))], [.int (zI 0)], es)
      refine x_ifT i_181_14 (by unfold i32 iLO iHI; omega) rfl (by simp only [zC, cR]; omega) ?_
      refine x0 (r := (66, [some (.ref 143), some (.int (zI lo)), some (.int (zI hi)), some (.int (zI v))], [.ref 143], es)) i_181_65 rfl ?_
      refine x_geti (p := 79) i_181_66 hs_es rfl rfl ?_
      obtain ⟨v15, e_v15⟩ : ∃ z : Int, z = (gI es 79 6).toInt := ⟨_, rfl⟩
      rw [← e_v15]
      have r_v15 : iLO ≤ v15 ∧ v15 ≤ iHI := by rw [e_v15]; exact i32_rng _
      unfold iLO iHI at r_v15
      have b_v15 : (0 : Int) ≤ v15 ∧ v15 ≤ (400 : Int) := by rw [e_v15]; exact gI_bd hT_es (p := 79) (b := 6) rfl rfl
      refine x0 (r := (70, [some (.ref 143), some (.int (zI lo)), some (.int (zI hi)), some (.int (zI v))], [.ref 143, .int (zI v15)], es)) i_181_69 rfl ?_
      refine x_geti (p := 79) i_181_70 hs_es rfl rfl ?_
      obtain ⟨v16, e_v16⟩ : ∃ z : Int, z = (gI es 79 8).toInt := ⟨_, rfl⟩
      rw [← e_v16]
      have r_v16 : iLO ≤ v16 ∧ v16 ≤ iHI := by rw [e_v16]; exact i32_rng _
      unfold iLO iHI at r_v16
      have b_v16 : (0 : Int) ≤ v16 ∧ v16 ≤ (400 : Int) := by rw [e_v16]; exact gI_bd hT_es (p := 79) (b := 8) rfl rfl
      by_cases c17 : v15 = v16
      · refine x_cmpT i_181_73 (by unfold i32 iLO iHI; omega) (by unfold i32 iLO iHI; omega) rfl (by simp only [zC, cR]; omega) ?_
        refine x0 (r := (100, [some (.ref 143), some (.int (zI lo)), some (.int (zI hi)), some (.int (zI v))], [.int (zI (-1))], es)) i_181_99 (by rfl) ?_
        refine x0 (r := (104, [some (.ref 143), some (.int (zI lo)), some (.int (zI hi)), some (.int (zI v))], [.int (zI (-1))], es)) i_181_100 rfl ?_
        refine x_ret (v := some (.int (zI (-1)))) i_181_104 rfl (fun _ => rfl) rfl rfl rfl ?_
        exact K6 v1 e_v1 v2 e_v2 c3 v12 e_v12 v13 e_v13 c14 v15 e_v15 v16 e_v16 c17
      · refine x_cmpF i_181_73 (by unfold i32 iLO iHI; omega) (by unfold i32 iLO iHI; omega) rfl (by simp only [zC, cR]; omega) ?_
        refine x0 (r := (77, [some (.ref 143), some (.int (zI lo)), some (.int (zI hi)), some (.int (zI v))], [.ref 143], es)) i_181_76 rfl ?_
        refine x_geti (p := 79) i_181_77 hs_es rfl rfl ?_
        obtain ⟨v18, e_v18⟩ : ∃ z : Int, z = (gI es 79 6).toInt := ⟨_, rfl⟩
        rw [← e_v18]
        have r_v18 : iLO ≤ v18 ∧ v18 ≤ iHI := by rw [e_v18]; exact i32_rng _
        unfold iLO iHI at r_v18
        have b_v18 : (0 : Int) ≤ v18 ∧ v18 ≤ (400 : Int) := by rw [e_v18]; exact gI_bd hT_es (p := 79) (b := 6) rfl rfl
        refine x0 (r := (81, [some (.ref 143), some (.int (zI lo)), some (.int (zI hi)), some (.int (zI v))], [.ref 143, .int (zI v18)], es)) i_181_80 rfl ?_
        refine x_geti (p := 79) i_181_81 hs_es rfl rfl ?_
        obtain ⟨v19, e_v19⟩ : ∃ z : Int, z = (gI es 79 8).toInt := ⟨_, rfl⟩
        rw [← e_v19]
        have r_v19 : iLO ≤ v19 ∧ v19 ≤ iHI := by rw [e_v19]; exact i32_rng _
        unfold iLO iHI at r_v19
        have b_v19 : (0 : Int) ≤ v19 ∧ v19 ≤ (400 : Int) := by rw [e_v19]; exact gI_bd hT_es (p := 79) (b := 8) rfl rfl
        refine x_isub i_181_84 ?_
        refine x0 (r := (86, [some (.ref 143), some (.int (zI lo)), some (.int (zI hi)), some (.int (zI v))], [.int (zI 3), .int (zI (v18 - v19))], es)) i_181_85 (by rfl) ?_
        by_cases c20 : 3 < (v18 - v19)
        · refine x_cmpT i_181_86 (by unfold i32 iLO iHI; omega) (by unfold i32 iLO iHI; omega) rfl (by simp only [zC, cR]; omega) ?_
          refine x0 (r := (100, [some (.ref 143), some (.int (zI lo)), some (.int (zI hi)), some (.int (zI v))], [.int (zI (-1))], es)) i_181_99 (by rfl) ?_
          refine x0 (r := (104, [some (.ref 143), some (.int (zI lo)), some (.int (zI hi)), some (.int (zI v))], [.int (zI (-1))], es)) i_181_100 rfl ?_
          refine x_ret (v := some (.int (zI (-1)))) i_181_104 rfl (fun _ => rfl) rfl rfl rfl ?_
          exact K7 v1 e_v1 v2 e_v2 c3 v12 e_v12 v13 e_v13 c14 v15 e_v15 v16 e_v16 c17 v18 e_v18 v19 e_v19 c20
        · refine x_cmpF i_181_86 (by unfold i32 iLO iHI; omega) (by unfold i32 iLO iHI; omega) rfl (by simp only [zC, cR]; omega) ?_
          refine x0 (r := (90, [some (.ref 143), some (.int (zI lo)), some (.int (zI hi)), some (.int (zI v))], [.int (zI v)], es)) i_181_89 rfl ?_
          refine x0 (r := (91, [some (.ref 143), some (.int (zI lo)), some (.int (zI hi)), some (.int (zI v))], [.int (zI lo), .int (zI v)], es)) i_181_90 rfl ?_
          by_cases c21 : v < lo
          · refine x_cmpT i_181_91 (by unfold i32 iLO iHI; omega) (by unfold i32 iLO iHI; omega) rfl (by simp only [zC, cR]; omega) ?_
            refine x0 (r := (100, [some (.ref 143), some (.int (zI lo)), some (.int (zI hi)), some (.int (zI v))], [.int (zI (-1))], es)) i_181_99 (by rfl) ?_
            refine x0 (r := (104, [some (.ref 143), some (.int (zI lo)), some (.int (zI hi)), some (.int (zI v))], [.int (zI (-1))], es)) i_181_100 rfl ?_
            refine x_ret (v := some (.int (zI (-1)))) i_181_104 rfl (fun _ => rfl) rfl rfl rfl ?_
            exact K8 v1 e_v1 v2 e_v2 c3 v12 e_v12 v13 e_v13 c14 v15 e_v15 v16 e_v16 c17 v18 e_v18 v19 e_v19 c20 c21
          · refine x_cmpF i_181_91 (by unfold i32 iLO iHI; omega) (by unfold i32 iLO iHI; omega) rfl (by simp only [zC, cR]; omega) ?_
            refine x0 (r := (95, [some (.ref 143), some (.int (zI lo)), some (.int (zI hi)), some (.int (zI v))], [.int (zI v)], es)) i_181_94 rfl ?_
            refine x0 (r := (96, [some (.ref 143), some (.int (zI lo)), some (.int (zI hi)), some (.int (zI v))], [.int (zI hi), .int (zI v)], es)) i_181_95 rfl ?_
            by_cases c22 : v ≤ hi
            · refine x_cmpT i_181_96 (by unfold i32 iLO iHI; omega) (by unfold i32 iLO iHI; omega) rfl (by simp only [zC, cR]; omega) ?_
              refine x0 (r := (104, [some (.ref 143), some (.int (zI lo)), some (.int (zI hi)), some (.int (zI v))], [.int (zI v)], es)) i_181_103 rfl ?_
              refine x_ret (v := some (.int (zI v))) i_181_104 rfl (fun _ => rfl) rfl rfl rfl ?_
              exact K9 v1 e_v1 v2 e_v2 c3 v12 e_v12 v13 e_v13 c14 v15 e_v15 v16 e_v16 c17 v18 e_v18 v19 e_v19 c20 c21 c22
            · refine x_cmpF i_181_96 (by unfold i32 iLO iHI; omega) (by unfold i32 iLO iHI; omega) rfl (by simp only [zC, cR]; omega) ?_
              refine x0 (r := (100, [some (.ref 143), some (.int (zI lo)), some (.int (zI hi)), some (.int (zI v))], [.int (zI (-1))], es)) i_181_99 (by rfl) ?_
              refine x0 (r := (104, [some (.ref 143), some (.int (zI lo)), some (.int (zI hi)), some (.int (zI v))], [.int (zI (-1))], es)) i_181_100 rfl ?_
              refine x_ret (v := some (.int (zI (-1)))) i_181_104 rfl (fun _ => rfl) rfl rfl rfl ?_
              exact K10 v1 e_v1 v2 e_v2 c3 v12 e_v12 v13 e_v13 c14 v15 e_v15 v16 e_v16 c17 v18 e_v18 v19 e_v19 c20 c21 c22
    · refine x_cmpF i_177_21 (by unfold i32 iLO iHI; omega) (by unfold i32 iLO iHI; omega) rfl (by simp only [zC, cR]; omega) ?_
      refine x0 (r := (25, [some (.ref 143), some (.int (zI 48)), some (.int (zI 57))], [.ref 143], es)) i_177_24 rfl ?_
      refine x_getr (p := 79) (k := 146) i_177_25 hs_es rfl rfl ?_
      show aW _ _ _ _ _ _ (28, [some (.ref 143), some (.int (zI 48)), some (.int (zI 57))], [.ref 146], es)
      refine x0 (r := (29, [some (.ref 143), some (.int (zI 48)), some (.int (zI 57))], [.ref 143, .ref 146], es)) i_177_28 rfl ?_
      refine x_geti (p := 79) i_177_29 hs_es rfl rfl ?_
      obtain ⟨v23, e_v23⟩ : ∃ z : Int, z = (gI es 79 6).toInt := ⟨_, rfl⟩
      rw [← e_v23]
      have r_v23 : iLO ≤ v23 ∧ v23 ≤ iHI := by rw [e_v23]; exact i32_rng _
      unfold iLO iHI at r_v23
      have b_v23 : (0 : Int) ≤ v23 ∧ v23 ≤ (400 : Int) := by rw [e_v23]; exact gI_bd hT_es (p := 79) (b := 6) rfl rfl
      refine x_bald (p := 82) i_177_32 hs_es rfl (by decide) (by unfold i32 iLO iHI; omega) (by omega) (by omega) ?_
      obtain ⟨v24, e_v24⟩ : ∃ z : Int, z = (gA es 82 v23.toNat).toInt := ⟨_, rfl⟩
      rw [← e_v24]
      have r_v24 : iLO ≤ v24 ∧ v24 ≤ iHI := by rw [e_v24]; exact i32_rng _
      unfold iLO iHI at r_v24
      have b_v24 : (-128 : Int) ≤ v24 ∧ v24 ≤ (127 : Int) := by rw [e_v24]; exact gA_bd hT_es (p := 82) (k := v23.toNat) rfl (by omega) (by decide)
      refine x0 (r := (34, [some (.ref 143), some (.int (zI 48)), some (.int (zI 57))], [.int (zI 57), .int (zI v24)], es)) i_177_33 rfl ?_
      by_cases c25 : 57 < v24
      · refine x_cmpT i_177_34 (by unfold i32 iLO iHI; omega) (by unfold i32 iLO iHI; omega) rfl (by simp only [zC, cR]; omega) ?_
        refine x0 (r := (42, [some (.ref 143), some (.int (zI 48)), some (.int (zI 57))], [.int (zI 0)], es)) i_177_41 (by rfl) ?_
        refine x_ret (v := some (.int (zI 0))) i_177_42 rfl (fun _ => rfl) rfl rfl (pFin_b (by omega)) ?_
        show aW _ _ _ _ _ _ (14, [some (.ref 143), some (.int (zI lo)), some (.int (zI hi)), some (.int (zI v))], [.int (zI 0)], es)
        refine x_ifT i_181_14 (by unfold i32 iLO iHI; omega) rfl (by simp only [zC, cR]; omega) ?_
        refine x0 (r := (66, [some (.ref 143), some (.int (zI lo)), some (.int (zI hi)), some (.int (zI v))], [.ref 143], es)) i_181_65 rfl ?_
        refine x_geti (p := 79) i_181_66 hs_es rfl rfl ?_
        obtain ⟨v26, e_v26⟩ : ∃ z : Int, z = (gI es 79 6).toInt := ⟨_, rfl⟩
        rw [← e_v26]
        have r_v26 : iLO ≤ v26 ∧ v26 ≤ iHI := by rw [e_v26]; exact i32_rng _
        unfold iLO iHI at r_v26
        have b_v26 : (0 : Int) ≤ v26 ∧ v26 ≤ (400 : Int) := by rw [e_v26]; exact gI_bd hT_es (p := 79) (b := 6) rfl rfl
        refine x0 (r := (70, [some (.ref 143), some (.int (zI lo)), some (.int (zI hi)), some (.int (zI v))], [.ref 143, .int (zI v26)], es)) i_181_69 rfl ?_
        refine x_geti (p := 79) i_181_70 hs_es rfl rfl ?_
        obtain ⟨v27, e_v27⟩ : ∃ z : Int, z = (gI es 79 8).toInt := ⟨_, rfl⟩
        rw [← e_v27]
        have r_v27 : iLO ≤ v27 ∧ v27 ≤ iHI := by rw [e_v27]; exact i32_rng _
        unfold iLO iHI at r_v27
        have b_v27 : (0 : Int) ≤ v27 ∧ v27 ≤ (400 : Int) := by rw [e_v27]; exact gI_bd hT_es (p := 79) (b := 8) rfl rfl
        by_cases c28 : v26 = v27
        · refine x_cmpT i_181_73 (by unfold i32 iLO iHI; omega) (by unfold i32 iLO iHI; omega) rfl (by simp only [zC, cR]; omega) ?_
          refine x0 (r := (100, [some (.ref 143), some (.int (zI lo)), some (.int (zI hi)), some (.int (zI v))], [.int (zI (-1))], es)) i_181_99 (by rfl) ?_
          refine x0 (r := (104, [some (.ref 143), some (.int (zI lo)), some (.int (zI hi)), some (.int (zI v))], [.int (zI (-1))], es)) i_181_100 rfl ?_
          refine x_ret (v := some (.int (zI (-1)))) i_181_104 rfl (fun _ => rfl) rfl rfl rfl ?_
          exact K11 v1 e_v1 v2 e_v2 c3 v12 e_v12 v13 e_v13 c14 v23 e_v23 v24 e_v24 c25 v26 e_v26 v27 e_v27 c28
        · refine x_cmpF i_181_73 (by unfold i32 iLO iHI; omega) (by unfold i32 iLO iHI; omega) rfl (by simp only [zC, cR]; omega) ?_
          refine x0 (r := (77, [some (.ref 143), some (.int (zI lo)), some (.int (zI hi)), some (.int (zI v))], [.ref 143], es)) i_181_76 rfl ?_
          refine x_geti (p := 79) i_181_77 hs_es rfl rfl ?_
          obtain ⟨v29, e_v29⟩ : ∃ z : Int, z = (gI es 79 6).toInt := ⟨_, rfl⟩
          rw [← e_v29]
          have r_v29 : iLO ≤ v29 ∧ v29 ≤ iHI := by rw [e_v29]; exact i32_rng _
          unfold iLO iHI at r_v29
          have b_v29 : (0 : Int) ≤ v29 ∧ v29 ≤ (400 : Int) := by rw [e_v29]; exact gI_bd hT_es (p := 79) (b := 6) rfl rfl
          refine x0 (r := (81, [some (.ref 143), some (.int (zI lo)), some (.int (zI hi)), some (.int (zI v))], [.ref 143, .int (zI v29)], es)) i_181_80 rfl ?_
          refine x_geti (p := 79) i_181_81 hs_es rfl rfl ?_
          obtain ⟨v30, e_v30⟩ : ∃ z : Int, z = (gI es 79 8).toInt := ⟨_, rfl⟩
          rw [← e_v30]
          have r_v30 : iLO ≤ v30 ∧ v30 ≤ iHI := by rw [e_v30]; exact i32_rng _
          unfold iLO iHI at r_v30
          have b_v30 : (0 : Int) ≤ v30 ∧ v30 ≤ (400 : Int) := by rw [e_v30]; exact gI_bd hT_es (p := 79) (b := 8) rfl rfl
          refine x_isub i_181_84 ?_
          refine x0 (r := (86, [some (.ref 143), some (.int (zI lo)), some (.int (zI hi)), some (.int (zI v))], [.int (zI 3), .int (zI (v29 - v30))], es)) i_181_85 (by rfl) ?_
          by_cases c31 : 3 < (v29 - v30)
          · refine x_cmpT i_181_86 (by unfold i32 iLO iHI; omega) (by unfold i32 iLO iHI; omega) rfl (by simp only [zC, cR]; omega) ?_
            refine x0 (r := (100, [some (.ref 143), some (.int (zI lo)), some (.int (zI hi)), some (.int (zI v))], [.int (zI (-1))], es)) i_181_99 (by rfl) ?_
            refine x0 (r := (104, [some (.ref 143), some (.int (zI lo)), some (.int (zI hi)), some (.int (zI v))], [.int (zI (-1))], es)) i_181_100 rfl ?_
            refine x_ret (v := some (.int (zI (-1)))) i_181_104 rfl (fun _ => rfl) rfl rfl rfl ?_
            exact K12 v1 e_v1 v2 e_v2 c3 v12 e_v12 v13 e_v13 c14 v23 e_v23 v24 e_v24 c25 v26 e_v26 v27 e_v27 c28 v29 e_v29 v30 e_v30 c31
          · refine x_cmpF i_181_86 (by unfold i32 iLO iHI; omega) (by unfold i32 iLO iHI; omega) rfl (by simp only [zC, cR]; omega) ?_
            refine x0 (r := (90, [some (.ref 143), some (.int (zI lo)), some (.int (zI hi)), some (.int (zI v))], [.int (zI v)], es)) i_181_89 rfl ?_
            refine x0 (r := (91, [some (.ref 143), some (.int (zI lo)), some (.int (zI hi)), some (.int (zI v))], [.int (zI lo), .int (zI v)], es)) i_181_90 rfl ?_
            by_cases c32 : v < lo
            · refine x_cmpT i_181_91 (by unfold i32 iLO iHI; omega) (by unfold i32 iLO iHI; omega) rfl (by simp only [zC, cR]; omega) ?_
              refine x0 (r := (100, [some (.ref 143), some (.int (zI lo)), some (.int (zI hi)), some (.int (zI v))], [.int (zI (-1))], es)) i_181_99 (by rfl) ?_
              refine x0 (r := (104, [some (.ref 143), some (.int (zI lo)), some (.int (zI hi)), some (.int (zI v))], [.int (zI (-1))], es)) i_181_100 rfl ?_
              refine x_ret (v := some (.int (zI (-1)))) i_181_104 rfl (fun _ => rfl) rfl rfl rfl ?_
              exact K13 v1 e_v1 v2 e_v2 c3 v12 e_v12 v13 e_v13 c14 v23 e_v23 v24 e_v24 c25 v26 e_v26 v27 e_v27 c28 v29 e_v29 v30 e_v30 c31 c32
            · refine x_cmpF i_181_91 (by unfold i32 iLO iHI; omega) (by unfold i32 iLO iHI; omega) rfl (by simp only [zC, cR]; omega) ?_
              refine x0 (r := (95, [some (.ref 143), some (.int (zI lo)), some (.int (zI hi)), some (.int (zI v))], [.int (zI v)], es)) i_181_94 rfl ?_
              refine x0 (r := (96, [some (.ref 143), some (.int (zI lo)), some (.int (zI hi)), some (.int (zI v))], [.int (zI hi), .int (zI v)], es)) i_181_95 rfl ?_
              by_cases c33 : v ≤ hi
              · refine x_cmpT i_181_96 (by unfold i32 iLO iHI; omega) (by unfold i32 iLO iHI; omega) rfl (by simp only [zC, cR]; omega) ?_
                refine x0 (r := (104, [some (.ref 143), some (.int (zI lo)), some (.int (zI hi)), some (.int (zI v))], [.int (zI v)], es)) i_181_103 rfl ?_
                refine x_ret (v := some (.int (zI v))) i_181_104 rfl (fun _ => rfl) rfl rfl rfl ?_
                exact K14 v1 e_v1 v2 e_v2 c3 v12 e_v12 v13 e_v13 c14 v23 e_v23 v24 e_v24 c25 v26 e_v26 v27 e_v27 c28 v29 e_v29 v30 e_v30 c31 c32 c33
              · refine x_cmpF i_181_96 (by unfold i32 iLO iHI; omega) (by unfold i32 iLO iHI; omega) rfl (by simp only [zC, cR]; omega) ?_
                refine x0 (r := (100, [some (.ref 143), some (.int (zI lo)), some (.int (zI hi)), some (.int (zI v))], [.int (zI (-1))], es)) i_181_99 (by rfl) ?_
                refine x0 (r := (104, [some (.ref 143), some (.int (zI lo)), some (.int (zI hi)), some (.int (zI v))], [.int (zI (-1))], es)) i_181_100 rfl ?_
                refine x_ret (v := some (.int (zI (-1)))) i_181_104 rfl (fun _ => rfl) rfl rfl rfl ?_
                exact K15 v1 e_v1 v2 e_v2 c3 v12 e_v12 v13 e_v13 c14 v23 e_v23 v24 e_v24 c25 v26 e_v26 v27 e_v27 c28 v29 e_v29 v30 e_v30 c31 c32 c33
      · refine x_cmpF i_177_34 (by unfold i32 iLO iHI; omega) (by unfold i32 iLO iHI; omega) rfl (by simp only [zC, cR]; omega) ?_
        refine x0 (r := (38, [some (.ref 143), some (.int (zI 48)), some (.int (zI 57))], [.int (zI 1)], es)) i_177_37 (by rfl) ?_
        refine x0 (r := (42, [some (.ref 143), some (.int (zI 48)), some (.int (zI 57))], [.int (zI 1)], es)) i_177_38 rfl ?_
        refine x_ret (v := some (.int (zI 1))) i_177_42 rfl (fun _ => rfl) rfl rfl (pFin_b (by omega)) ?_
        show aW _ _ _ _ _ _ (14, [some (.ref 143), some (.int (zI lo)), some (.int (zI hi)), some (.int (zI v))], [.int (zI 1)], es)
        refine x_ifF i_181_14 (by unfold i32 iLO iHI; omega) rfl (by simp only [zC, cR]; omega) ?_
        refine x0 (r := (18, [some (.ref 143), some (.int (zI lo)), some (.int (zI hi)), some (.int (zI v))], [.ref 143], es)) i_181_17 rfl ?_
        refine x_geti (p := 79) i_181_18 hs_es rfl rfl ?_
        obtain ⟨v34, e_v34⟩ : ∃ z : Int, z = (gI es 79 6).toInt := ⟨_, rfl⟩
        rw [← e_v34]
        have r_v34 : iLO ≤ v34 ∧ v34 ≤ iHI := by rw [e_v34]; exact i32_rng _
        unfold iLO iHI at r_v34
        have b_v34 : (0 : Int) ≤ v34 ∧ v34 ≤ (400 : Int) := by rw [e_v34]; exact gI_bd hT_es (p := 79) (b := 6) rfl rfl
        refine x0 (r := (22, [some (.ref 143), some (.int (zI lo)), some (.int (zI hi)), some (.int (zI v))], [.ref 143, .int (zI v34)], es)) i_181_21 rfl ?_
        refine x_geti (p := 79) i_181_22 hs_es rfl rfl ?_
        obtain ⟨v35, e_v35⟩ : ∃ z : Int, z = (gI es 79 8).toInt := ⟨_, rfl⟩
        rw [← e_v35]
        have r_v35 : iLO ≤ v35 ∧ v35 ≤ iHI := by rw [e_v35]; exact i32_rng _
        unfold iLO iHI at r_v35
        have b_v35 : (0 : Int) ≤ v35 ∧ v35 ≤ (400 : Int) := by rw [e_v35]; exact gI_bd hT_es (p := 79) (b := 8) rfl rfl
        refine x_isub i_181_25 ?_
        refine x0 (r := (27, [some (.ref 143), some (.int (zI lo)), some (.int (zI hi)), some (.int (zI v))], [.int (zI 3), .int (zI (v34 - v35))], es)) i_181_26 (by rfl) ?_
        by_cases c36 : 3 ≤ (v34 - v35)
        · refine x_cmpT i_181_27 (by unfold i32 iLO iHI; omega) (by unfold i32 iLO iHI; omega) rfl (by simp only [zC, cR]; omega) ?_
          refine x0 (r := (51, [some (.ref 143), some (.int (zI lo)), some (.int (zI hi)), some (.int (zI v))], [.int (zI v)], es)) i_181_50 rfl ?_
          refine x0 (r := (52, [some (.ref 143), some (.int (zI lo)), some (.int (zI hi)), some (.int (zI v))], [], es)) i_181_51 rfl ?_
          refine x0 (r := (53, [some (.ref 143), some (.int (zI lo)), some (.int (zI hi)), some (.int (zI v))], [.ref 143], es)) i_181_52 rfl ?_
          refine x0 (r := (54, [some (.ref 143), some (.int (zI lo)), some (.int (zI hi)), some (.int (zI v))], [.ref 143, .ref 143], es)) i_181_53 rfl ?_
          refine x_geti (p := 79) i_181_54 hs_es rfl rfl ?_
          obtain ⟨v37, e_v37⟩ : ∃ z : Int, z = (gI es 79 6).toInt := ⟨_, rfl⟩
          rw [← e_v37]
          have r_v37 : iLO ≤ v37 ∧ v37 ≤ iHI := by rw [e_v37]; exact i32_rng _
          unfold iLO iHI at r_v37
          have b_v37 : (0 : Int) ≤ v37 ∧ v37 ≤ (400 : Int) := by rw [e_v37]; exact gI_bd hT_es (p := 79) (b := 6) rfl rfl
          refine x0 (r := (58, [some (.ref 143), some (.int (zI lo)), some (.int (zI hi)), some (.int (zI v))], [.int (zI 1), .int (zI v37), .ref 143], es)) i_181_57 (by rfl) ?_
          refine x_iadd i_181_58 ?_
          refine x_puti (p := 79) (ty := .int) i_181_59 hs_es rfl rfl rfl (Or.inl rfl) ?_
          obtain ⟨es38, e_es38⟩ : ∃ z : PH, z = sI es 79 6 (.int (zI (v37 + 1))) := ⟨_, rfl⟩
          have hs_es38 : sh es38 := by rw [e_es38]; exact sh_sI hs_es (p := 79) (b := 6) rfl rfl
          have hT_es38 : hOK tT es38 := by rw [e_es38]; exact hOK_sI hT_es (p := 79) (b := 6) rfl rfl (by rw [zI_toInt (by unfold i32 iLO iHI; omega)]; exact ⟨by show (0 : Int) ≤ (v37 + 1); omega, by show (v37 + 1) ≤ (400 : Int); omega⟩)
          rw [← e_es38]
          refine x0 (r := (6, [some (.ref 143), some (.int (zI lo)), some (.int (zI hi)), some (.int (zI v))], [], es38)) i_181_62 rfl ?_
          exact K16 v1 e_v1 v2 e_v2 c3 v12 e_v12 v13 e_v13 c14 v23 e_v23 v24 e_v24 c25 v34 e_v34 v35 e_v35 c36 v37 e_v37 es38 e_es38
        · refine x_cmpF i_181_27 (by unfold i32 iLO iHI; omega) (by unfold i32 iLO iHI; omega) rfl (by simp only [zC, cR]; omega) ?_
          refine x0 (r := (32, [some (.ref 143), some (.int (zI lo)), some (.int (zI hi)), some (.int (zI v))], [.int (zI 10)], es)) i_181_30 (by rfl) ?_
          refine x0 (r := (33, [some (.ref 143), some (.int (zI lo)), some (.int (zI hi)), some (.int (zI v))], [.int (zI v), .int (zI 10)], es)) i_181_32 rfl ?_
          refine x_imul i_181_33 ?_
          refine x0 (r := (35, [some (.ref 143), some (.int (zI lo)), some (.int (zI hi)), some (.int (zI v))], [.ref 143, .int (zI (10 * v))], es)) i_181_34 rfl ?_
          refine x_getr (p := 79) (k := 146) i_181_35 hs_es rfl rfl ?_
          show aW _ _ _ _ _ _ (38, [some (.ref 143), some (.int (zI lo)), some (.int (zI hi)), some (.int (zI v))], [.ref 146, .int (zI (10 * v))], es)
          refine x0 (r := (39, [some (.ref 143), some (.int (zI lo)), some (.int (zI hi)), some (.int (zI v))], [.ref 143, .ref 146, .int (zI (10 * v))], es)) i_181_38 rfl ?_
          refine x_geti (p := 79) i_181_39 hs_es rfl rfl ?_
          obtain ⟨v39, e_v39⟩ : ∃ z : Int, z = (gI es 79 6).toInt := ⟨_, rfl⟩
          rw [← e_v39]
          have r_v39 : iLO ≤ v39 ∧ v39 ≤ iHI := by rw [e_v39]; exact i32_rng _
          unfold iLO iHI at r_v39
          have b_v39 : (0 : Int) ≤ v39 ∧ v39 ≤ (400 : Int) := by rw [e_v39]; exact gI_bd hT_es (p := 79) (b := 6) rfl rfl
          refine x_bald (p := 82) i_181_42 hs_es rfl (by decide) (by unfold i32 iLO iHI; omega) (by omega) (by omega) ?_
          obtain ⟨v40, e_v40⟩ : ∃ z : Int, z = (gA es 82 v39.toNat).toInt := ⟨_, rfl⟩
          rw [← e_v40]
          have r_v40 : iLO ≤ v40 ∧ v40 ≤ iHI := by rw [e_v40]; exact i32_rng _
          unfold iLO iHI at r_v40
          have b_v40 : (-128 : Int) ≤ v40 ∧ v40 ≤ (127 : Int) := by rw [e_v40]; exact gA_bd hT_es (p := 82) (k := v39.toNat) rfl (by omega) (by decide)
          refine x_iadd i_181_43 ?_
          refine x0 (r := (46, [some (.ref 143), some (.int (zI lo)), some (.int (zI hi)), some (.int (zI v))], [.int (zI 48), .int (zI ((10 * v) + v40))], es)) i_181_44 (by rfl) ?_
          refine x_isub i_181_46 ?_
          rw [← zI_id (zI (((10 * v) + v40) - 48))]
          obtain ⟨v41, e_v41⟩ : ∃ z : Int, z = (zI (((10 * v) + v40) - 48)).toInt := ⟨_, rfl⟩
          rw [← e_v41]
          have r_v41 : iLO ≤ v41 ∧ v41 ≤ iHI := by rw [e_v41]; exact i32_rng _
          unfold iLO iHI at r_v41
          refine x0 (r := (51, [some (.ref 143), some (.int (zI lo)), some (.int (zI hi)), some (.int (zI v))], [.int (zI v41)], es)) i_181_47 rfl ?_
          refine x0 (r := (52, [some (.ref 143), some (.int (zI lo)), some (.int (zI hi)), some (.int (zI v41))], [], es)) i_181_51 rfl ?_
          refine x0 (r := (53, [some (.ref 143), some (.int (zI lo)), some (.int (zI hi)), some (.int (zI v41))], [.ref 143], es)) i_181_52 rfl ?_
          refine x0 (r := (54, [some (.ref 143), some (.int (zI lo)), some (.int (zI hi)), some (.int (zI v41))], [.ref 143, .ref 143], es)) i_181_53 rfl ?_
          refine x_geti (p := 79) i_181_54 hs_es rfl rfl ?_
          obtain ⟨v42, e_v42⟩ : ∃ z : Int, z = (gI es 79 6).toInt := ⟨_, rfl⟩
          rw [← e_v42]
          have r_v42 : iLO ≤ v42 ∧ v42 ≤ iHI := by rw [e_v42]; exact i32_rng _
          unfold iLO iHI at r_v42
          have b_v42 : (0 : Int) ≤ v42 ∧ v42 ≤ (400 : Int) := by rw [e_v42]; exact gI_bd hT_es (p := 79) (b := 6) rfl rfl
          refine x0 (r := (58, [some (.ref 143), some (.int (zI lo)), some (.int (zI hi)), some (.int (zI v41))], [.int (zI 1), .int (zI v42), .ref 143], es)) i_181_57 (by rfl) ?_
          refine x_iadd i_181_58 ?_
          refine x_puti (p := 79) (ty := .int) i_181_59 hs_es rfl rfl rfl (Or.inl rfl) ?_
          obtain ⟨es43, e_es43⟩ : ∃ z : PH, z = sI es 79 6 (.int (zI (v42 + 1))) := ⟨_, rfl⟩
          have hs_es43 : sh es43 := by rw [e_es43]; exact sh_sI hs_es (p := 79) (b := 6) rfl rfl
          have hT_es43 : hOK tT es43 := by rw [e_es43]; exact hOK_sI hT_es (p := 79) (b := 6) rfl rfl (by rw [zI_toInt (by unfold i32 iLO iHI; omega)]; exact ⟨by show (0 : Int) ≤ (v42 + 1); omega, by show (v42 + 1) ≤ (400 : Int); omega⟩)
          rw [← e_es43]
          refine x0 (r := (6, [some (.ref 143), some (.int (zI lo)), some (.int (zI hi)), some (.int (zI v41))], [], es43)) i_181_62 rfl ?_
          exact K17 v1 e_v1 v2 e_v2 c3 v12 e_v12 v13 e_v13 c14 v23 e_v23 v24 e_v24 c25 v34 e_v34 v35 e_v35 c36 v39 e_v39 v40 e_v40 v41 e_v41 v42 e_v42 es43 e_es43

theorem s_sg0 {O : pOut} {d kc ks : Nat} {Q : pRes → Prop} {es : PH} {c : Int} (hs_es : sh es) (hc : 0 ≤ c ∧ c ≤ 127) (hT_es : hOK tT es)
    (K1 : ∀ es1 : PH, blP  es es1 → ∀ v2 : Int, v2 = (gI es1 79 6).toInt → ∀ v3 : Int, v3 = (gI es1 79 7).toInt → v3 ≤ v2 → Q (.inl (some (.int (zI 0))), es1, kc, ks))
    (K2 : ∀ es1 : PH, blP  es es1 → ∀ v2 : Int, v2 = (gI es1 79 6).toInt → ∀ v3 : Int, v3 = (gI es1 79 7).toInt → ¬ (v3 ≤ v2) → ∀ v5 : Int, v5 = (gI es1 79 6).toInt → ∀ v6 : Int, v6 = (gA es1 82 v5.toNat).toInt → v6 < c → Q (.inl (some (.int (zI 0))), es1, kc, ks))
    (K3 : ∀ es1 : PH, blP  es es1 → ∀ v2 : Int, v2 = (gI es1 79 6).toInt → ∀ v3 : Int, v3 = (gI es1 79 7).toInt → ¬ (v3 ≤ v2) → ∀ v5 : Int, v5 = (gI es1 79 6).toInt → ∀ v6 : Int, v6 = (gA es1 82 v5.toNat).toInt → ¬ (v6 < c) → ∀ v8 : Int, v8 = (gI es1 79 6).toInt → ∀ v9 : Int, v9 = (gA es1 82 v8.toNat).toInt → c < v9 → Q (.inl (some (.int (zI 0))), es1, kc, ks))
    (K4 : ∀ es1 : PH, blP  es es1 → ∀ v2 : Int, v2 = (gI es1 79 6).toInt → ∀ v3 : Int, v3 = (gI es1 79 7).toInt → ¬ (v3 ≤ v2) → ∀ v5 : Int, v5 = (gI es1 79 6).toInt → ∀ v6 : Int, v6 = (gA es1 82 v5.toNat).toInt → ¬ (v6 < c) → ∀ v8 : Int, v8 = (gI es1 79 6).toInt → ∀ v9 : Int, v9 = (gA es1 82 v8.toNat).toInt → ¬ (c < v9) → ∀ v11 : Int, v11 = (gI es1 79 6).toInt → ∀ es12 : PH, es12 = sI es1 79 6 (.int (zI (v11 + 1))) → Q (.inl (some (.int (zI 1))), es12, kc, ks)) :
    aW O (d + 2) 184 kc ks Q (0, [some (.ref 143), some (.int (zI c))], [], es) := by
  refine x0 (r := (1, [some (.ref 143), some (.int (zI c))], [.ref 143], es)) i_184_0 rfl ?_
  refine x_call (vs := [.ref 143]) (rs := []) i_184_1 rfl (fun _ => rfl) rfl rfl rfl rfl rfl (pCall_v (p := 79) hs_es rfl rfl rfl rfl rfl (by decide) rfl rfl rfl rfl rfl) ?_
  show aW _ _ _ _ _ _ (0, [some (.ref 143)], [], es)
  refine bl_spec hs_es hT_es (fun es1 p_es1 => ?_)
  have hs_es1 : sh es1 := p_es1.1
  have hT_es1 : hOK tT es1 := p_es1.2.1
  show aW _ _ _ _ _ _ (4, [some (.ref 143), some (.int (zI c))], [], es1)
  refine x0 (r := (5, [some (.ref 143), some (.int (zI c))], [.ref 143], es1)) i_184_4 rfl ?_
  refine x0 (r := (6, [some (.ref 143), some (.int (zI c))], [.int (zI c), .ref 143], es1)) i_184_5 rfl ?_
  refine x0 (r := (7, [some (.ref 143), some (.int (zI c))], [.int (zI c), .int (zI c), .ref 143], es1)) i_184_6 rfl ?_
  refine x_call (vs := [.ref 143, .int (zI c), .int (zI c)]) (rs := []) i_184_7 rfl (fun _ => rfl) rfl rfl rfl rfl rfl (pCall_v (p := 79) hs_es1 rfl rfl rfl rfl rfl (by decide) rfl rfl rfl rfl rfl) ?_
  show aW _ _ _ _ _ _ (0, [some (.ref 143), some (.int (zI c)), some (.int (zI c))], [], es1)
  refine x0 (r := (1, [some (.ref 143), some (.int (zI c)), some (.int (zI c))], [.ref 143], es1)) i_177_0 rfl ?_
  refine x_geti (p := 79) i_177_1 hs_es1 rfl rfl ?_
  obtain ⟨v2, e_v2⟩ : ∃ z : Int, z = (gI es1 79 6).toInt := ⟨_, rfl⟩
  rw [← e_v2]
  have r_v2 : iLO ≤ v2 ∧ v2 ≤ iHI := by rw [e_v2]; exact i32_rng _
  unfold iLO iHI at r_v2
  have b_v2 : (0 : Int) ≤ v2 ∧ v2 ≤ (400 : Int) := by rw [e_v2]; exact gI_bd hT_es1 (p := 79) (b := 6) rfl rfl
  refine x0 (r := (5, [some (.ref 143), some (.int (zI c)), some (.int (zI c))], [.ref 143, .int (zI v2)], es1)) i_177_4 rfl ?_
  refine x_geti (p := 79) i_177_5 hs_es1 rfl rfl ?_
  obtain ⟨v3, e_v3⟩ : ∃ z : Int, z = (gI es1 79 7).toInt := ⟨_, rfl⟩
  rw [← e_v3]
  have r_v3 : iLO ≤ v3 ∧ v3 ≤ iHI := by rw [e_v3]; exact i32_rng _
  unfold iLO iHI at r_v3
  have b_v3 : (0 : Int) ≤ v3 ∧ v3 ≤ (400 : Int) := by rw [e_v3]; exact gI_bd hT_es1 (p := 79) (b := 7) rfl rfl
  by_cases c4 : v3 ≤ v2
  · refine x_cmpT i_177_8 (by unfold i32 iLO iHI; omega) (by unfold i32 iLO iHI; omega) rfl (by simp only [zC, cR]; omega) ?_
    refine x0 (r := (42, [some (.ref 143), some (.int (zI c)), some (.int (zI c))], [.int (zI 0)], es1)) i_177_41 (by rfl) ?_
    refine x_ret (v := some (.int (zI 0))) i_177_42 rfl (fun _ => rfl) rfl rfl (pFin_b (by omega)) ?_
    show aW _ _ _ _ _ _ (10, [some (.ref 143), some (.int (zI c))], [.int (zI 0)], es1)
    refine x_ifF i_184_10 (by unfold i32 iLO iHI; omega) rfl (by simp only [zC, cR]; omega) ?_
    refine x0 (r := (14, [some (.ref 143), some (.int (zI c))], [.int (zI 0)], es1)) i_184_13 (by rfl) ?_
    refine x_ret (v := some (.int (zI 0))) i_184_14 rfl (fun _ => rfl) rfl rfl (pFin_b (by omega)) ?_
    exact K1 es1 p_es1 v2 e_v2 v3 e_v3 c4
  · refine x_cmpF i_177_8 (by unfold i32 iLO iHI; omega) (by unfold i32 iLO iHI; omega) rfl (by simp only [zC, cR]; omega) ?_
    refine x0 (r := (12, [some (.ref 143), some (.int (zI c)), some (.int (zI c))], [.ref 143], es1)) i_177_11 rfl ?_
    refine x_getr (p := 79) (k := 146) i_177_12 hs_es1 rfl rfl ?_
    show aW _ _ _ _ _ _ (15, [some (.ref 143), some (.int (zI c)), some (.int (zI c))], [.ref 146], es1)
    refine x0 (r := (16, [some (.ref 143), some (.int (zI c)), some (.int (zI c))], [.ref 143, .ref 146], es1)) i_177_15 rfl ?_
    refine x_geti (p := 79) i_177_16 hs_es1 rfl rfl ?_
    obtain ⟨v5, e_v5⟩ : ∃ z : Int, z = (gI es1 79 6).toInt := ⟨_, rfl⟩
    rw [← e_v5]
    have r_v5 : iLO ≤ v5 ∧ v5 ≤ iHI := by rw [e_v5]; exact i32_rng _
    unfold iLO iHI at r_v5
    have b_v5 : (0 : Int) ≤ v5 ∧ v5 ≤ (400 : Int) := by rw [e_v5]; exact gI_bd hT_es1 (p := 79) (b := 6) rfl rfl
    refine x_bald (p := 82) i_177_19 hs_es1 rfl (by decide) (by unfold i32 iLO iHI; omega) (by omega) (by omega) ?_
    obtain ⟨v6, e_v6⟩ : ∃ z : Int, z = (gA es1 82 v5.toNat).toInt := ⟨_, rfl⟩
    rw [← e_v6]
    have r_v6 : iLO ≤ v6 ∧ v6 ≤ iHI := by rw [e_v6]; exact i32_rng _
    unfold iLO iHI at r_v6
    have b_v6 : (-128 : Int) ≤ v6 ∧ v6 ≤ (127 : Int) := by rw [e_v6]; exact gA_bd hT_es1 (p := 82) (k := v5.toNat) rfl (by omega) (by decide)
    refine x0 (r := (21, [some (.ref 143), some (.int (zI c)), some (.int (zI c))], [.int (zI c), .int (zI v6)], es1)) i_177_20 rfl ?_
    by_cases c7 : v6 < c
    · refine x_cmpT i_177_21 (by unfold i32 iLO iHI; omega) (by unfold i32 iLO iHI; omega) rfl (by simp only [zC, cR]; omega) ?_
      refine x0 (r := (42, [some (.ref 143), some (.int (zI c)), some (.int (zI c))], [.int (zI 0)], es1)) i_177_41 (by rfl) ?_
      refine x_ret (v := some (.int (zI 0))) i_177_42 rfl (fun _ => rfl) rfl rfl (pFin_b (by omega)) ?_
      show aW _ _ _ _ _ _ (10, [some (.ref 143), some (.int (zI c))], [.int (zI 0)], es1)
      refine x_ifF i_184_10 (by unfold i32 iLO iHI; omega) rfl (by simp only [zC, cR]; omega) ?_
      refine x0 (r := (14, [some (.ref 143), some (.int (zI c))], [.int (zI 0)], es1)) i_184_13 (by rfl) ?_
      refine x_ret (v := some (.int (zI 0))) i_184_14 rfl (fun _ => rfl) rfl rfl (pFin_b (by omega)) ?_
      exact K2 es1 p_es1 v2 e_v2 v3 e_v3 c4 v5 e_v5 v6 e_v6 c7
    · refine x_cmpF i_177_21 (by unfold i32 iLO iHI; omega) (by unfold i32 iLO iHI; omega) rfl (by simp only [zC, cR]; omega) ?_
      refine x0 (r := (25, [some (.ref 143), some (.int (zI c)), some (.int (zI c))], [.ref 143], es1)) i_177_24 rfl ?_
      refine x_getr (p := 79) (k := 146) i_177_25 hs_es1 rfl rfl ?_
      show aW _ _ _ _ _ _ (28, [some (.ref 143), some (.int (zI c)), some (.int (zI c))], [.ref 146], es1)
      refine x0 (r := (29, [some (.ref 143), some (.int (zI c)), some (.int (zI c))], [.ref 143, .ref 146], es1)) i_177_28 rfl ?_
      refine x_geti (p := 79) i_177_29 hs_es1 rfl rfl ?_
      obtain ⟨v8, e_v8⟩ : ∃ z : Int, z = (gI es1 79 6).toInt := ⟨_, rfl⟩
      rw [← e_v8]
      have r_v8 : iLO ≤ v8 ∧ v8 ≤ iHI := by rw [e_v8]; exact i32_rng _
      unfold iLO iHI at r_v8
      have b_v8 : (0 : Int) ≤ v8 ∧ v8 ≤ (400 : Int) := by rw [e_v8]; exact gI_bd hT_es1 (p := 79) (b := 6) rfl rfl
      refine x_bald (p := 82) i_177_32 hs_es1 rfl (by decide) (by unfold i32 iLO iHI; omega) (by omega) (by omega) ?_
      obtain ⟨v9, e_v9⟩ : ∃ z : Int, z = (gA es1 82 v8.toNat).toInt := ⟨_, rfl⟩
      rw [← e_v9]
      have r_v9 : iLO ≤ v9 ∧ v9 ≤ iHI := by rw [e_v9]; exact i32_rng _
      unfold iLO iHI at r_v9
      have b_v9 : (-128 : Int) ≤ v9 ∧ v9 ≤ (127 : Int) := by rw [e_v9]; exact gA_bd hT_es1 (p := 82) (k := v8.toNat) rfl (by omega) (by decide)
      refine x0 (r := (34, [some (.ref 143), some (.int (zI c)), some (.int (zI c))], [.int (zI c), .int (zI v9)], es1)) i_177_33 rfl ?_
      by_cases c10 : c < v9
      · refine x_cmpT i_177_34 (by unfold i32 iLO iHI; omega) (by unfold i32 iLO iHI; omega) rfl (by simp only [zC, cR]; omega) ?_
        refine x0 (r := (42, [some (.ref 143), some (.int (zI c)), some (.int (zI c))], [.int (zI 0)], es1)) i_177_41 (by rfl) ?_
        refine x_ret (v := some (.int (zI 0))) i_177_42 rfl (fun _ => rfl) rfl rfl (pFin_b (by omega)) ?_
        show aW _ _ _ _ _ _ (10, [some (.ref 143), some (.int (zI c))], [.int (zI 0)], es1)
        refine x_ifF i_184_10 (by unfold i32 iLO iHI; omega) rfl (by simp only [zC, cR]; omega) ?_
        refine x0 (r := (14, [some (.ref 143), some (.int (zI c))], [.int (zI 0)], es1)) i_184_13 (by rfl) ?_
        refine x_ret (v := some (.int (zI 0))) i_184_14 rfl (fun _ => rfl) rfl rfl (pFin_b (by omega)) ?_
        exact K3 es1 p_es1 v2 e_v2 v3 e_v3 c4 v5 e_v5 v6 e_v6 c7 v8 e_v8 v9 e_v9 c10
      · refine x_cmpF i_177_34 (by unfold i32 iLO iHI; omega) (by unfold i32 iLO iHI; omega) rfl (by simp only [zC, cR]; omega) ?_
        refine x0 (r := (38, [some (.ref 143), some (.int (zI c)), some (.int (zI c))], [.int (zI 1)], es1)) i_177_37 (by rfl) ?_
        refine x0 (r := (42, [some (.ref 143), some (.int (zI c)), some (.int (zI c))], [.int (zI 1)], es1)) i_177_38 rfl ?_
        refine x_ret (v := some (.int (zI 1))) i_177_42 rfl (fun _ => rfl) rfl rfl (pFin_b (by omega)) ?_
        show aW _ _ _ _ _ _ (10, [some (.ref 143), some (.int (zI c))], [.int (zI 1)], es1)
        refine x_ifT i_184_10 (by unfold i32 iLO iHI; omega) rfl (by simp only [zC, cR]; omega) ?_
        refine x0 (r := (16, [some (.ref 143), some (.int (zI c))], [.ref 143], es1)) i_184_15 rfl ?_
        refine x0 (r := (17, [some (.ref 143), some (.int (zI c))], [.ref 143, .ref 143], es1)) i_184_16 rfl ?_
        refine x_geti (p := 79) i_184_17 hs_es1 rfl rfl ?_
        obtain ⟨v11, e_v11⟩ : ∃ z : Int, z = (gI es1 79 6).toInt := ⟨_, rfl⟩
        rw [← e_v11]
        have r_v11 : iLO ≤ v11 ∧ v11 ≤ iHI := by rw [e_v11]; exact i32_rng _
        unfold iLO iHI at r_v11
        have b_v11 : (0 : Int) ≤ v11 ∧ v11 ≤ (400 : Int) := by rw [e_v11]; exact gI_bd hT_es1 (p := 79) (b := 6) rfl rfl
        refine x0 (r := (21, [some (.ref 143), some (.int (zI c))], [.int (zI 1), .int (zI v11), .ref 143], es1)) i_184_20 (by rfl) ?_
        refine x_iadd i_184_21 ?_
        refine x_puti (p := 79) (ty := .int) i_184_22 hs_es1 rfl rfl rfl (Or.inl rfl) ?_
        obtain ⟨es12, e_es12⟩ : ∃ z : PH, z = sI es1 79 6 (.int (zI (v11 + 1))) := ⟨_, rfl⟩
        have hs_es12 : sh es12 := by rw [e_es12]; exact sh_sI hs_es1 (p := 79) (b := 6) rfl rfl
        have hT_es12 : hOK tT es12 := by rw [e_es12]; exact hOK_sI hT_es1 (p := 79) (b := 6) rfl rfl (by rw [zI_toInt (by unfold i32 iLO iHI; omega)]; exact ⟨by show (0 : Int) ≤ (v11 + 1); omega, by show (v11 + 1) ≤ (400 : Int); omega⟩)
        rw [← e_es12]
        refine x0 (r := (26, [some (.ref 143), some (.int (zI c))], [.int (zI 1)], es12)) i_184_25 (by rfl) ?_
        refine x_ret (v := some (.int (zI 1))) i_184_26 rfl (fun _ => rfl) rfl rfl (pFin_b (by omega)) ?_
        exact K4 es1 p_es1 v2 e_v2 v3 e_v3 c4 v5 e_v5 v6 e_v6 c7 v8 e_v8 v9 e_v9 c10 v11 e_v11 es12 e_es12
section
variable {O : pOut} {d kc ks : Nat} {Q : pRes → Prop} {es : PH}
theorem lt_loop (K : ∀ es', ltP es es' → Q (.inl none, es', kc, ks)) : ∀ (N : Nat) (es1 : PH), (400 - pT es1).toNat < N → hOK tT es1 → mvB es es1 → pT es ≤ bT es1 → bT es1 ≤ pT es1 → aW O (d + 1) 178 kc ks Q (4, [some (.ref 143)], [], es1) := by
  intro N
  induction N with
  | zero => intro es1 h; omega
  | succ N ih =>
    intro es1 hN hT hm hb1 hb2
    have hpb := pT_bd hT
    have heb := eT_bd hT
    have fin : Q (.inl none, es1, kc, ks) := K es1 ⟨sh_of hT, hT, hm, hb1, hb2⟩
    refine s_lt4 (d := d) (sh_of hT) hT (fun v1 e1 v2 e2 h1 => fin) (fun v1 e1 v2 e2 h1 v6 e6 v7 e7 h7 => fin) (fun v1 e1 v2 e2 h1 v6 e6 v7 e7 h7 v11 e11 v12 e12 h12 => fin) (fun v1 e1 v2 e2 h1 v6 e6 v7 e7 h7 v11 e11 v12 e12 h12 v16 e16 es5 e5 => ?_)
    have hlt : pT es1 < 400 := by unfold pT; omega
    obtain ⟨a1, a2, a3, a4, -⟩ := pt_up (es' := es5) hT (by unfold pT; omega) (by rw [e5, e16])
    exact ih es5 (by omega) a1 (mvB_trans hm a2) (by omega) (by omega)
theorem lt_spec (hs : sh es) (hT : hOK tT es) (K : ∀ es', ltP es es' → Q (.inl none, es', kc, ks)) : aW O (d + 2) 178 kc ks Q (0, [some (.ref 143)], [], es) := by
  refine s_lt0 (d := d) hs hT (fun es1 p1 => ?_)
  obtain ⟨q1, q2, q3, q4⟩ := p1
  exact lt_loop (d := d + 1) K _ es1 (Nat.lt_succ_self _) q2 q3 (by rw [q4]; exact q3.2) (by omega)
theorem nm_loop {lo hi : Int} (hlo : 0 ≤ lo ∧ lo ≤ 999) (hhi : -1 ≤ hi ∧ hi ≤ 999) (K : ∀ es' v, nmP lo hi es es' v → Q (.inl (some (.int (zI v))), es', kc, ks)) : ∀ (N : Nat) (es1 : PH) (v : Int), (400 - pT es1).toNat < N → hOK tT es1 → mvB es es1 → pT es ≤ bT es1 → bT es1 ≤ pT es1 → i32 v → aW O (d + 1) 181 kc ks Q (6, [some (.ref 143), some (.int (zI lo)), some (.int (zI hi)), some (.int (zI v))], [], es1) := by
  intro N
  induction N with
  | zero => intro es1 v h; omega
  | succ N ih =>
    intro es1 v hN hT hm hb1 hb2 hv
    have hpb := pT_bd hT
    have heb := eT_bd hT
    have bad : Q (.inl (some (.int (zI (-1)))), es1, kc, ks) := K es1 (-1) ⟨sh_of hT, hT, ⟨by omega, by omega⟩, hm, fun h => by omega⟩
    have good : ¬ v < lo → v ≤ hi → (gI es1 79 6).toInt ≠ (gI es1 79 8).toInt → Q (.inl (some (.int (zI v))), es1, kc, ks) := fun h1 h2 h3 => K es1 v ⟨sh_of hT, hT, ⟨by omega, by omega⟩, hm, fun _ => by
      have : pT es1 ≠ bT es1 := h3
      omega⟩
    apply s_nm6 (d := d) (sh_of hT) ⟨by omega, by omega⟩ hhi hv hT
    all_goals intros
    all_goals first
      | exact bad
      | (refine good ?_ ?_ ?_ <;> first | assumption | (subst_vars; assumption))
      | skip
    all_goals
      rename_i es5 e5
      have hlt : pT es1 < 400 := by unfold pT; omega
      obtain ⟨a1, a2, a3, a4, -⟩ := pt_up (es' := es5) hT (by unfold pT; omega) (by rw [e5]; subst_vars; rfl)
      exact ih es5 _ (by omega) a1 (mvB_trans hm a2) (by omega) (by omega) (by first | exact hv | (subst_vars; exact i32_rng _))
theorem nm_spec {lo hi : Int} (hs : sh es) (hT : hOK tT es) (hlo : 0 ≤ lo ∧ lo ≤ 999) (hhi : -1 ≤ hi ∧ hi ≤ 999) (K : ∀ es' v, nmP lo hi es es' v → Q (.inl (some (.int (zI v))), es', kc, ks)) : aW O (d + 2) 181 kc ks Q (0, [some (.ref 143), some (.int (zI lo)), some (.int (zI hi)), none], [], es) := by
  refine s_nm0 (d := d) hs hT (fun es1 p1 => ?_)
  obtain ⟨q1, q2, q3, q4⟩ := p1
  exact nm_loop (d := d + 1) hlo hhi K _ es1 0 (Nat.lt_succ_self _) q2 q3 (by rw [q4]; exact q3.2) (by omega) (by unfold i32 iLO iHI; omega)
theorem sg_spec {c : Int} (hs : sh es) (hT : hOK tT es) (hc : 0 ≤ c ∧ c ≤ 127) (K : ∀ es' v, sgP c es es' v → Q (.inl (some (.int (zI v))), es', kc, ks)) : aW O (d + 2) 184 kc ks Q (0, [some (.ref 143), some (.int (zI c))], [], es) := by
  have bad : ∀ es1, blP es es1 → Q (.inl (some (.int (zI 0))), es1, kc, ks) := fun es1 p1 => K es1 0 ⟨p1.1, p1.2.1, ⟨by omega, by omega⟩, p1.2.2.1, fun h => absurd rfl h⟩
  refine s_sg0 (d := d) hs hc hT (fun es1 p1 v2 e2 v3 e3 h3 => bad es1 p1) (fun es1 p1 v2 e2 v3 e3 h3 v5 e5 v6 e6 h6 => bad es1 p1) (fun es1 p1 v2 e2 v3 e3 h3 v5 e5 v6 e6 h6 v8 e8 v9 e9 h9 => bad es1 p1) (fun es1 p1 v2 e2 v3 e3 h3 v5 e5 v6 e6 h6 v8 e8 v9 e9 h9 v11 e11 es12 e12 => ?_)
  obtain ⟨q1, q2, q3, q4⟩ := p1
  obtain ⟨a1, a2, a3, a4, -⟩ := pt_up (es' := es12) q2 (by unfold pT; omega) (by rw [e12, e11])
  exact K es12 1 ⟨sh_of a1, a1, ⟨by omega, by omega⟩, mvB_trans q3 a2, fun _ => by have := q3.2; omega⟩
theorem isw_spec {k : Nat} (hs : sh es) (hT : hOK tT es) (hW : wordsOK O) (hk : k ∈ wrds) (K : ∀ es' v, iswP es es' v → Q (.inl (some (.int (zI v))), es', kc, ks)) : aW O (d + 2) 180 kc ks Q (0, [some (.ref 143), some (.ref k), none, none], [], es) := by
  obtain ⟨row_, hr2, h2⟩ := hW k hk
  have hrow : pM[180]? = some row_ := hr2
  have h3 := h2 (d + 2) (by show 1 ≤ d + 2; omega) [] [.ref 143, .ref k] es (show gE [] [] from ⟨rfl, fun x v hx => by simp at hx⟩) (fun f hf => by cases hf) ⟨⟨143, rfl, rfl⟩, ⟨k, rfl, rfl⟩, trivial⟩ hT trivial (fun t ht => by cases ht)
  have hl : row_.2.2.1 = 4 := by
    cases Option.some.inj (hr2.symm.trans (show pM[180]? = some _ from rfl))
    rfl
  rw [hl] at h3
  refine aW_shift h3 (fun o hoo => ?_)
  obtain ⟨p1, -, p2, out, hout, τ, q1, q2, q3, q4, q5, q6⟩ := hoo
  obtain ⟨r, es', c1, c2⟩ := o
  simp only at p1 p2 q4 q5 q6
  have hs' := sh_of p1
  rcases List.mem_cons.mp hout with rfl | hout
  · obtain ⟨w, h5, x, rfl, hx⟩ := q6
    simp only at h5 q4 q5
    subst h5
    have e1 : c1 = 0 := by omega
    have e2 : c2 = 0 := by omega
    subst e1; subst e2
    have hx0 : x.toInt = 0 := fC_val (f := (Int.ofNat 0, [])) rfl hx
    have := K es' x.toInt ⟨hs', p1, ⟨by omega, by omega⟩, p2, fun h => absurd hx0 h⟩
    rw [zI_id] at this
    exact this
  · rcases List.mem_cons.mp hout with rfl | hout
    · obtain ⟨w, h5, x, rfl, hx⟩ := q6
      simp only at h5 q4 q5
      subst h5
      have e1 : c1 = 0 := by omega
      have e2 : c2 = 0 := by omega
      subst e1; subst e2
      have hx1 : x.toInt = 1 := fC_val (f := (Int.ofNat 1, [])) rfl hx
      have f10 := fact_fld (q3 (79, 10, (Int.ofNat 0, []), (Int.ofNat 0, [(Int.ofNat 1, 0)])) List.mem_cons_self)
      have f8 := fact_fld (q3 (79, 8, (Int.ofNat 0, []), (Int.ofNat 0, [(Int.ofNat 1, 1)])) (List.mem_cons_of_mem _ List.mem_cons_self))
      obtain ⟨t, ht, h0⟩ := q2 (.negSucc 0, [(.negSucc 0, 0), (.ofNat 1, 1)]) List.mem_cons_self
      have g10 := evV f10
      have g8 := evV f8
      obtain ⟨s, hs1, hs2⟩ := evF_iff.mp ht
      obtain ⟨a, s2, ha, hs3, hs4⟩ := evT_cons.mp hs1
      obtain ⟨b, s3, hb, hs5, hs6⟩ := evT_cons.mp hs3
      rw [evT_nil] at hs5
      rw [g10] at ha
      rw [g8] at hb
      cases ha
      cases hb
      have n1 : Int.ofNat 1 = 1 := rfl
      have n2 : Int.negSucc 0 = -1 := rfl
      simp only [n1, n2] at hs2 hs4 hs6
      have := K es' x.toInt ⟨hs', p1, ⟨by omega, by omega⟩, p2, fun _ => by unfold bT pT; omega⟩
      rw [zI_id] at this
      exact this
    · cases hout
end
