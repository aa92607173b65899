/-- what a run of steps does to the height -/
def stp (op H : Int) : Option Int := if 0 ≤ op ∧ op ≤ 6 then some (H + 1) else if op = 10 then (if 1 ≤ H then some H else none) else if 7 ≤ op ∧ 2 ≤ H then some (H - 1) else none
def rpn (f : Nat → Int) : Nat → Nat → Int → Option Int
  | 0, _, H => some H
  | n + 1, s, H => match stp (f s) H with
    | none => none
    | some H' => rpn f n (s + 1) H'
theorem rpn_app {f : Nat → Int} : ∀ (n m s : Nat) (H : Int), rpn f (n + m) s H = match rpn f n s H with
    | none => none
    | some H' => rpn f m (s + n) H'
  | 0, m, s, H => by rw [Nat.zero_add]; rfl
  | n + 1, m, s, H => by
    rw [show n + 1 + m = (n + m) + 1 by omega, rpn, rpn]
    cases h : stp (f s) H with
    | none => rfl
    | some H' =>
      simp only
      rw [rpn_app n m (s + 1) H', show s + 1 + n = s + (n + 1) by omega]
theorem rpn_congr {f g : Nat → Int} : ∀ (n s : Nat) (H : Int), (∀ i, s ≤ i → i < s + n → f i = g i) → rpn f n s H = rpn g n s H
  | 0, _, _, _ => rfl
  | n + 1, s, H, h => by
    rw [rpn, rpn, h s (by omega) (by omega)]
    cases stp (g s) H with
    | none => rfl
    | some H' => exact rpn_congr n (s + 1) H' (fun i h1 h2 => h i (by omega) (by omega))
def opD (es : PH) : Nat → Int := fun i => (gA es 80 (1325 + 2 * i)).toInt
def frPr (s : Nat) : List aMod := [(79, 8, 0, 1), (79, 10, 0, 1), (79, 11, 0, 1), (79, 14, 0, 1), (80, 0, 1325 + 2 * s, 2125)]
/-- a part that leaves one value -/
def okP (es es' : PH) : Prop := sh es' ∧ hOK tT es' ∧ fr (frPr (sT es).toNat) es es' ∧ pT es ≤ pT es' ∧ dT es' = dT es ∧ sT es ≤ sT es' ∧ sT es' - sT es ≤ pT es' - pT es ∧ ∀ H, 0 ≤ H → rpn (opD es') (sT es' - sT es).toNat (sT es).toNat H = some (H + 1)
def noP (es es' : PH) : Prop := sh es' ∧ hOK tT es' ∧ fr (frPr (sT es).toNat) es es' ∧ pT es ≤ pT es'
def prP (es es' : PH) (v : Int) : Prop := (v = 1 ∧ okP es es') ∨ (v = 0 ∧ noP es es')
def emP (op _n : Int) (es es' : PH) : Prop := sh es' ∧ hOK tT es' ∧ fr [(79, 14, 0, 1), (80, 0, 1325 + 2 * (sT es).toNat, 1325 + 2 * (sT es).toNat + 2)] es es' ∧ sT es' = sT es + 1 ∧ opD es' (sT es).toNat = op
theorem mvB_pr {a b : PH} {s : Nat} (h : mvB a b) : fr (frPr s) a b := fr_wk (by simp only [mAl, frB, frPr, mHq, true_and, and_true, false_and, and_false, or_false, false_or, not_false_eq_true, Nat.reduceEqDiff] <;> (repeat' apply And.intro) <;> intros <;> omega) h.1
theorem frPr_le {a b : PH} {s t : Nat} (hst : s ≤ t) (h : fr (frPr t) a b) : fr (frPr s) a b := fr_wk (by simp only [mAl, frPr, mHq, true_and, and_true, false_and, and_false, or_false, false_or, not_false_eq_true, Nat.reduceEqDiff] <;> (repeat' apply And.intro) <;> intros <;> omega) h
theorem em_pr {a b : PH} {op n : Int} (hT : hOK tT a) (h3 : sT a ≤ 399) (h : emP op n a b) : fr (frPr (sT a).toNat) a b := by
  have := sT_bd hT
  exact fr_wk (by simp only [mAl, frPr, mHq, true_and, and_true, false_and, and_false, or_false, false_or, not_false_eq_true, Nat.reduceEqDiff] <;> (repeat' apply And.intro) <;> intros <;> omega) h.2.2.1
theorem em_pT {a b : PH} {op n : Int} (hT : hOK tT a) (h : emP op n a b) : pT b = pT a ∧ dT b = dT a := by
  unfold pT dT
  rw [fr_fld h.2.2.1 (sh_of hT) (p := 79) (b := 6) rfl (by simp only [mHq, true_and, and_true, false_and, and_false, or_false, false_or, not_false_eq_true, Nat.reduceEqDiff] <;> omega), fr_fld h.2.2.1 (sh_of hT) (p := 79) (b := 9) rfl (by simp only [mHq, true_and, and_true, false_and, and_false, or_false, false_or, not_false_eq_true, Nat.reduceEqDiff] <;> omega)]
  exact ⟨rfl, rfl⟩
theorem opD_fr {a b : PH} {s : Nat} (hT : hOK tT a) (h : fr (frPr s) a b) : ∀ i, i < s → opD b i = opD a i := fun i hi => by
  unfold opD
  rw [fr_at h (sh_of hT) (p := 80) (t := 0) (n := 2125) (sp := tS80) rfl (by decide) (by simp only [frPr, mHq, true_and, and_true, false_and, and_false, or_false, false_or, not_false_eq_true, Nat.reduceEqDiff] <;> omega)]
theorem opD_80 {a b : PH} (h : gA b 80 = gA a 80) : opD b = opD a := by unfold opD; rw [h]
/-- one operation of two parts: behind both the operation -/
theorem ok_bin {a b c e f : PH} {op n : Int} (hTa : hOK tT a) (h1 : okP a b) (h2 : mvB b c) (hTc : hOK tT c) (hp : pT b + 1 ≤ pT c) (h3 : okP c e) (h4 : emP op n e f) (h399 : sT e ≤ 399) (hop : 7 ≤ op ∧ op ≠ 10) : okP a f := by
  obtain ⟨b1, b2, b3, b4, b5, b6, b7, b8⟩ := h1
  obtain ⟨e1, e2, e3, e4, e5, e6, e7, e8⟩ := h3
  have hs := sT_bd hTa
  have hsc := mvB_sT b2 h2
  have hdc := mvB_dT b2 h2
  obtain ⟨hpf, hdf⟩ := em_pT e2 h4
  have hsf := h4.2.2.2.1
  have fbe : fr (frPr (sT b).toNat) b e := fr_trans (mvB_pr h2) (by rw [← hsc]; exact e3)
  have fef := em_pr e2 h399 h4
  refine ⟨h4.1, h4.2.1, fr_trans b3 (fr_trans (frPr_le (by omega) fbe) (frPr_le (by omega) fef)), by omega, by omega, by omega, by omega, fun H hH => ?_⟩
  have n1 : (sT f - sT a).toNat = (sT b - sT a).toNat + ((sT e - sT c).toNat + 1) := by omega
  have n2 : (sT a).toNat + (sT b - sT a).toNat = (sT c).toNat := by omega
  have n3 : (sT c).toNat + (sT e - sT c).toNat = (sT e).toNat := by omega
  have oef : ∀ i, i < (sT e).toNat → opD f i = opD e i := opD_fr e2 fef
  have obe : ∀ i, i < (sT b).toNat → opD e i = opD b i := opD_fr b2 fbe
  have r1 : rpn (opD f) (sT b - sT a).toNat (sT a).toNat H = some (H + 1) := by
    rw [← b8 H hH]
    refine rpn_congr (sT b - sT a).toNat (sT a).toNat H (fun i h5 h6 => ?_)
    rw [oef i (by omega), obe i (by omega)]
  have r2 : rpn (opD f) (sT e - sT c).toNat (sT c).toNat (H + 1) = some (H + 1 + 1) := by
    rw [← e8 (H + 1) (by omega)]
    refine rpn_congr (sT e - sT c).toNat (sT c).toNat (H + 1) (fun i h5 h6 => ?_)
    exact oef i (by omega)
  rw [n1, rpn_app, r1]
  simp only
  rw [n2, rpn_app, r2]
  simp only
  rw [n3, rpn, h4.2.2.2.2]
  have : stp op (H + 1 + 1) = some (H + 1) := by
    unfold stp
    rw [if_neg (by omega), if_neg hop.2, if_pos (by omega)]
    congr 1
    omega
  rw [this]
  rfl
theorem no_seq {a b c e : PH} (hTa : hOK tT a) (h1 : okP a b) (h2 : mvB b c) (h3 : noP c e) : noP a e := by
  obtain ⟨b1, b2, b3, b4, b5, b6, b7, b8⟩ := h1
  have hs := sT_bd hTa
  have hsc := mvB_sT b2 h2
  refine ⟨h3.1, h3.2.1, fr_trans b3 (frPr_le (t := (sT b).toNat) (by omega) (fr_trans (mvB_pr h2) (by rw [← hsc]; exact h3.2.2.1))), ?_⟩
  have := h2.2
  have := h3.2.2.2
  omega
theorem ok_mv {a b c : PH} (hTa : hOK tT a) (h1 : okP a b) (hTc : hOK tT c) (h2 : mvB b c) : okP a c := by
  obtain ⟨b1, b2, b3, b4, b5, b6, b7, b8⟩ := h1
  have hsc := mvB_sT b2 h2
  have hdc := mvB_dT b2 h2
  have hp := h2.2
  refine ⟨sh_of hTc, hTc, fr_trans b3 (mvB_pr h2), by omega, by omega, by omega, by omega, fun H hH => ?_⟩
  rw [hsc, ← b8 H hH, opD_80 (mvB_80 b2 h2)]
theorem ok_lead {a b c : PH} (hTa : hOK tT a) (h1 : mvB a b) (hTb : hOK tT b) (h2 : okP b c) : okP a c := by
  obtain ⟨b1, b2, b3, b4, b5, b6, b7, b8⟩ := h2
  have hsc := mvB_sT hTa h1
  have hdc := mvB_dT hTa h1
  have hp := h1.2
  refine ⟨b1, b2, fr_trans (mvB_pr h1) (by rw [← hsc]; exact b3), by omega, by omega, by omega, by omega, fun H hH => ?_⟩
  rw [← hsc]
  exact b8 H hH
theorem no_lead {a b c : PH} (hTa : hOK tT a) (h1 : mvB a b) (h2 : noP b c) : noP a c := by
  have hsc := mvB_sT hTa h1
  refine ⟨h2.1, h2.2.1, fr_trans (mvB_pr h1) (by rw [← hsc]; exact h2.2.2.1), ?_⟩
  have := h1.2
  have := h2.2.2.2
  omega
theorem no_mv {a b : PH} (hTb : hOK tT b) (h : mvB a b) : noP a b := ⟨sh_of hTb, hTb, mvB_pr h, h.2⟩
/-- one step that leaves a value -/
theorem ok_one {a b c : PH} {op n : Int} (hTa : hOK tT a) (h1 : mvB a b) (hTb : hOK tT b) (hp : pT a + 1 ≤ pT b) (h399 : sT b ≤ 399) (h2 : emP op n b c) (hop : 0 ≤ op ∧ op ≤ 6) : okP a c := by
  have hs := sT_bd hTa
  have hsb := mvB_sT hTa h1
  have hdb := mvB_dT hTa h1
  obtain ⟨hpc, hdc⟩ := em_pT hTb h2
  have hsc := h2.2.2.2.1
  refine ⟨h2.1, h2.2.1, fr_trans (mvB_pr h1) (by rw [← hsb]; exact em_pr hTb h399 h2), by omega, by omega, by omega, by omega, fun H hH => ?_⟩
  rw [show (sT c - sT a).toNat = 1 by omega, rpn, ← hsb, h2.2.2.2.2]
  have : stp op H = some (H + 1) := by unfold stp; rw [if_pos hop]
  rw [this]
  rfl
theorem s_ps0 {O : pOut} {d kc ks : Nat} {Q : pRes → Prop} {es : PH} {wk : Nat} (hs_es : sh es) (hW : wordsOK O) (hk : wk ∈ wrds) (hT_es : hOK tT es)
    (K1 : ∀ es1 : PH, ltP  es es1 → ∀ es2 : PH, ∀ v3 : Int, iswP  es1 es2 v3 → v3 = 0 → ∀ v5 : Int, v5 = (gI es2 79 8).toInt → ∀ es6 : PH, es6 = sI es2 79 6 (.int (zI v5)) → Q (.inl (some (.int (zI 0))), es6, kc, ks))
    (K2 : ∀ es1 : PH, ltP  es es1 → ∀ es2 : PH, ∀ v3 : Int, iswP  es1 es2 v3 → ¬ (v3 = 0) → Q (.inl (some (.int (zI 1))), es2, kc, ks)) :
    aW O (d + 3) 186 kc ks Q (0, [some (.ref 143), some (.ref wk)], [], es) := by
  refine x0 (r := (1, [some (.ref 143), some (.ref wk)], [.ref 143], es)) i_186_0 rfl ?_
  refine x_call (vs := [.ref 143]) (rs := []) i_186_1 rfl (fun _ => rfl) rfl rfl rfl rfl rfl (pCall_v (p := 79) hs_es rfl rfl rfl rfl rfl (by decide) rfl rfl rfl rfl rfl) ?_
  show aW _ _ _ _ _ _ (0, [some (.ref 143)], [], es)
  refine lt_spec hs_es hT_es (fun es1 p_es1 => ?_)
  have hs_es1 : sh es1 := p_es1.1
  have hT_es1 : hOK tT es1 := p_es1.2.1
  show aW _ _ _ _ _ _ (4, [some (.ref 143), some (.ref wk)], [], es1)
  refine x0 (r := (5, [some (.ref 143), some (.ref wk)], [.ref 143], es1)) i_186_4 rfl ?_
  refine x0 (r := (6, [some (.ref 143), some (.ref wk)], [.ref wk, .ref 143], es1)) i_186_5 rfl ?_
  refine x_call (vs := [.ref 143, .ref wk]) (rs := []) i_186_6 rfl (fun _ => rfl) rfl rfl rfl rfl rfl (pCall_v (p := 79) hs_es1 rfl rfl rfl rfl rfl (by decide) rfl rfl rfl rfl rfl) ?_
  show aW _ _ _ _ _ _ (0, [some (.ref 143), some (.ref wk), none, none], [], es1)
  refine isw_spec hs_es1 hT_es1 hW hk (fun es2 v3 p_es2 => ?_)
  have hs_es2 : sh es2 := p_es2.1
  have hT_es2 : hOK tT es2 := p_es2.2.1
  have r_v3 := p_es2.2.2.1
  show aW _ _ _ _ _ _ (9, [some (.ref 143), some (.ref wk)], [.int (zI v3)], es2)
  by_cases c4 : v3 = 0
  · refine x_ifT i_186_9 (by unfold i32 iLO iHI; omega) rfl (by simp only [zC, cR]; omega) ?_
    refine x0 (r := (15, [some (.ref 143), some (.ref wk)], [.ref 143], es2)) i_186_14 rfl ?_
    refine x0 (r := (16, [some (.ref 143), some (.ref wk)], [.ref 143, .ref 143], es2)) i_186_15 rfl ?_
    refine x_geti (p := 79) i_186_16 hs_es2 rfl rfl ?_
    obtain ⟨v5, e_v5⟩ : ∃ z : Int, z = (gI es2 79 8).toInt := ⟨_, rfl⟩
    rw [← e_v5]
    have r_v5 : iLO ≤ v5 ∧ v5 ≤ iHI := by rw [e_v5]; exact i32_rng _
    unfold iLO iHI at r_v5
    have b_v5 : (0 : Int) ≤ v5 ∧ v5 ≤ (400 : Int) := by rw [e_v5]; exact gI_bd hT_es2 (p := 79) (b := 8) rfl rfl
    refine x_puti (p := 79) (ty := .int) i_186_19 hs_es2 rfl rfl rfl (Or.inl rfl) ?_
    obtain ⟨es6, e_es6⟩ : ∃ z : PH, z = sI es2 79 6 (.int (zI v5)) := ⟨_, rfl⟩
    have hs_es6 : sh es6 := by rw [e_es6]; exact sh_sI hs_es2 (p := 79) (b := 6) rfl rfl
    have hT_es6 : hOK tT es6 := by rw [e_es6]; exact hOK_sI hT_es2 (p := 79) (b := 6) rfl rfl (by rw [zI_toInt (by unfold i32 iLO iHI; omega)]; exact ⟨by show (0 : Int) ≤ v5; omega, by show v5 ≤ (400 : Int); omega⟩)
    rw [← e_es6]
    refine x0 (r := (23, [some (.ref 143), some (.ref wk)], [.int (zI 0)], es6)) i_186_22 (by rfl) ?_
    refine x_ret (v := some (.int (zI 0))) i_186_23 rfl (fun _ => rfl) rfl rfl (pFin_b (by omega)) ?_
    exact K1 es1 p_es1 es2 v3 p_es2 c4 v5 e_v5 es6 e_es6
  · refine x_ifF i_186_9 (by unfold i32 iLO iHI; omega) rfl (by simp only [zC, cR]; omega) ?_
    refine x0 (r := (13, [some (.ref 143), some (.ref wk)], [.int (zI 1)], es2)) i_186_12 (by rfl) ?_
    refine x_ret (v := some (.int (zI 1))) i_186_13 rfl (fun _ => rfl) rfl rfl (pFin_b (by omega)) ?_
    exact K2 es1 p_es1 es2 v3 p_es2 c4

theorem s_fa0 {O : pOut} {d kc ks : Nat} {Q : pRes → Prop} {es : PH} (hs_es : sh es) (hW : wordsOK O) (hT_es : hOK tT es)
    (K1 : ∀ es1 : PH, ∀ v2 : Int, iswP  es es1 v2 → v2 = 0 → ∀ es4 : PH, ∀ v5 : Int, iswP  es1 es4 v5 → v5 = 0 → ∀ es7 : PH, ∀ v8 : Int, iswP  es4 es7 v8 → v8 = 0 → ∀ es10 : PH, ∀ v11 : Int, iswP  es7 es10 v11 → v11 = 0 → Q (.inl (some (.int (zI (-1)))), es10, kc, ks))
    (K2 : ∀ es1 : PH, ∀ v2 : Int, iswP  es es1 v2 → v2 = 0 → ∀ es4 : PH, ∀ v5 : Int, iswP  es1 es4 v5 → v5 = 0 → ∀ es7 : PH, ∀ v8 : Int, iswP  es4 es7 v8 → v8 = 0 → ∀ es10 : PH, ∀ v11 : Int, iswP  es7 es10 v11 → ¬ (v11 = 0) → Q (.inl (some (.int (zI 3))), es10, kc, ks))
    (K3 : ∀ es1 : PH, ∀ v2 : Int, iswP  es es1 v2 → v2 = 0 → ∀ es4 : PH, ∀ v5 : Int, iswP  es1 es4 v5 → v5 = 0 → ∀ es7 : PH, ∀ v8 : Int, iswP  es4 es7 v8 → ¬ (v8 = 0) → Q (.inl (some (.int (zI 2))), es7, kc, ks))
    (K4 : ∀ es1 : PH, ∀ v2 : Int, iswP  es es1 v2 → v2 = 0 → ∀ es4 : PH, ∀ v5 : Int, iswP  es1 es4 v5 → ¬ (v5 = 0) → Q (.inl (some (.int (zI 1))), es4, kc, ks))
    (K5 : ∀ es1 : PH, ∀ v2 : Int, iswP  es es1 v2 → ¬ (v2 = 0) → Q (.inl (some (.int (zI 0))), es1, kc, ks)) :
    aW O (d + 3) 185 kc ks Q (0, [some (.ref 143)], [], es) := by
  refine x0 (r := (1, [some (.ref 143)], [.ref 143], es)) i_185_0 rfl ?_
  refine x1 (r := (3, [some (.ref 143)], [.ref 40, .ref 143], es)) i_185_1 rfl (fun _ => rfl) rfl ?_
  refine x_call (vs := [.ref 143, .ref 40]) (rs := []) i_185_3 rfl (fun _ => rfl) rfl rfl rfl rfl rfl (pCall_v (p := 79) hs_es rfl rfl rfl rfl rfl (by decide) rfl rfl rfl rfl rfl) ?_
  show aW _ _ _ _ _ _ (0, [some (.ref 143), some (.ref 40), none, none], [], es)
  refine isw_spec hs_es hT_es hW (by decide) (fun es1 v2 p_es1 => ?_)
  have hs_es1 : sh es1 := p_es1.1
  have hT_es1 : hOK tT es1 := p_es1.2.1
  have r_v2 := p_es1.2.2.1
  show aW _ _ _ _ _ _ (6, [some (.ref 143)], [.int (zI v2)], es1)
  by_cases c3 : v2 = 0
  · refine x_ifT i_185_6 (by unfold i32 iLO iHI; omega) rfl (by simp only [zC, cR]; omega) ?_
    refine x0 (r := (14, [some (.ref 143)], [.ref 143], es1)) i_185_13 rfl ?_
    refine x1 (r := (16, [some (.ref 143)], [.ref 41, .ref 143], es1)) i_185_14 rfl (fun _ => rfl) rfl ?_
    refine x_call (vs := [.ref 143, .ref 41]) (rs := []) i_185_16 rfl (fun _ => rfl) rfl rfl rfl rfl rfl (pCall_v (p := 79) hs_es1 rfl rfl rfl rfl rfl (by decide) rfl rfl rfl rfl rfl) ?_
    show aW _ _ _ _ _ _ (0, [some (.ref 143), some (.ref 41), none, none], [], es1)
    refine isw_spec hs_es1 hT_es1 hW (by decide) (fun es4 v5 p_es4 => ?_)
    have hs_es4 : sh es4 := p_es4.1
    have hT_es4 : hOK tT es4 := p_es4.2.1
    have r_v5 := p_es4.2.2.1
    show aW _ _ _ _ _ _ (19, [some (.ref 143)], [.int (zI v5)], es4)
    by_cases c6 : v5 = 0
    · refine x_ifT i_185_19 (by unfold i32 iLO iHI; omega) rfl (by simp only [zC, cR]; omega) ?_
      refine x0 (r := (27, [some (.ref 143)], [.ref 143], es4)) i_185_26 rfl ?_
      refine x1 (r := (29, [some (.ref 143)], [.ref 42, .ref 143], es4)) i_185_27 rfl (fun _ => rfl) rfl ?_
      refine x_call (vs := [.ref 143, .ref 42]) (rs := []) i_185_29 rfl (fun _ => rfl) rfl rfl rfl rfl rfl (pCall_v (p := 79) hs_es4 rfl rfl rfl rfl rfl (by decide) rfl rfl rfl rfl rfl) ?_
      show aW _ _ _ _ _ _ (0, [some (.ref 143), some (.ref 42), none, none], [], es4)
      refine isw_spec hs_es4 hT_es4 hW (by decide) (fun es7 v8 p_es7 => ?_)
      have hs_es7 : sh es7 := p_es7.1
      have hT_es7 : hOK tT es7 := p_es7.2.1
      have r_v8 := p_es7.2.2.1
      show aW _ _ _ _ _ _ (32, [some (.ref 143)], [.int (zI v8)], es7)
      by_cases c9 : v8 = 0
      · refine x_ifT i_185_32 (by unfold i32 iLO iHI; omega) rfl (by simp only [zC, cR]; omega) ?_
        refine x0 (r := (40, [some (.ref 143)], [.ref 143], es7)) i_185_39 rfl ?_
        refine x1 (r := (42, [some (.ref 143)], [.ref 43, .ref 143], es7)) i_185_40 rfl (fun _ => rfl) rfl ?_
        refine x_call (vs := [.ref 143, .ref 43]) (rs := []) i_185_42 rfl (fun _ => rfl) rfl rfl rfl rfl rfl (pCall_v (p := 79) hs_es7 rfl rfl rfl rfl rfl (by decide) rfl rfl rfl rfl rfl) ?_
        show aW _ _ _ _ _ _ (0, [some (.ref 143), some (.ref 43), none, none], [], es7)
        refine isw_spec hs_es7 hT_es7 hW (by decide) (fun es10 v11 p_es10 => ?_)
        have hs_es10 : sh es10 := p_es10.1
        have hT_es10 : hOK tT es10 := p_es10.2.1
        have r_v11 := p_es10.2.2.1
        show aW _ _ _ _ _ _ (45, [some (.ref 143)], [.int (zI v11)], es10)
        by_cases c12 : v11 = 0
        · refine x_ifT i_185_45 (by unfold i32 iLO iHI; omega) rfl (by simp only [zC, cR]; omega) ?_
          refine x0 (r := (53, [some (.ref 143)], [.int (zI (-1))], es10)) i_185_52 (by rfl) ?_
          refine x_ret (v := some (.int (zI (-1)))) i_185_53 rfl (fun _ => rfl) rfl rfl rfl ?_
          exact K1 es1 v2 p_es1 c3 es4 v5 p_es4 c6 es7 v8 p_es7 c9 es10 v11 p_es10 c12
        · refine x_ifF i_185_45 (by unfold i32 iLO iHI; omega) rfl (by simp only [zC, cR]; omega) ?_
          refine x0 (r := (49, [some (.ref 143)], [.int (zI 3)], es10)) i_185_48 (by rfl) ?_
          refine x0 (r := (53, [some (.ref 143)], [.int (zI 3)], es10)) i_185_49 rfl ?_
          refine x_ret (v := some (.int (zI 3))) i_185_53 rfl (fun _ => rfl) rfl rfl rfl ?_
          exact K2 es1 v2 p_es1 c3 es4 v5 p_es4 c6 es7 v8 p_es7 c9 es10 v11 p_es10 c12
      · refine x_ifF i_185_32 (by unfold i32 iLO iHI; omega) rfl (by simp only [zC, cR]; omega) ?_
        refine x0 (r := (36, [some (.ref 143)], [.int (zI 2)], es7)) i_185_35 (by rfl) ?_
        refine x0 (r := (53, [some (.ref 143)], [.int (zI 2)], es7)) i_185_36 rfl ?_
        refine x_ret (v := some (.int (zI 2))) i_185_53 rfl (fun _ => rfl) rfl rfl rfl ?_
        exact K3 es1 v2 p_es1 c3 es4 v5 p_es4 c6 es7 v8 p_es7 c9
    · refine x_ifF i_185_19 (by unfold i32 iLO iHI; omega) rfl (by simp only [zC, cR]; omega) ?_
      refine x0 (r := (23, [some (.ref 143)], [.int (zI 1)], es4)) i_185_22 (by rfl) ?_
      refine x0 (r := (53, [some (.ref 143)], [.int (zI 1)], es4)) i_185_23 rfl ?_
      refine x_ret (v := some (.int (zI 1))) i_185_53 rfl (fun _ => rfl) rfl rfl rfl ?_
      exact K4 es1 v2 p_es1 c3 es4 v5 p_es4 c6
  · refine x_ifF i_185_6 (by unfold i32 iLO iHI; omega) rfl (by simp only [zC, cR]; omega) ?_
    refine x0 (r := (10, [some (.ref 143)], [.int (zI 0)], es1)) i_185_9 (by rfl) ?_
    refine x0 (r := (53, [some (.ref 143)], [.int (zI 0)], es1)) i_185_10 rfl ?_
    refine x_ret (v := some (.int (zI 0))) i_185_53 rfl (fun _ => rfl) rfl rfl rfl ?_
    exact K5 es1 v2 p_es1 c3

theorem s_em0 {O : pOut} {d kc ks : Nat} {Q : pRes → Prop} {es : PH} {op n : Int} (hs_es : sh es) (h1 : -1 ≤ op ∧ op ≤ 12) (h2 : -1 ≤ n ∧ n ≤ 999) (h3 : (gI es 79 12).toInt ≤ 399) (hT_es : hOK tT es)
    (K1 : ∀ v1 : Int, v1 = (gI es 79 12).toInt → ∀ es2 : PH, es2 = sA es 80 (1325 + (2 * v1)).toNat (zI op) → ∀ es3 : PH, es3 = sA es2 80 ((1325 + (2 * v1)) + 1).toNat (zI n) → ∀ v4 : Int, v4 = (gI es3 79 12).toInt → ∀ es5 : PH, es5 = sI es3 79 12 (.int (zI (v4 + 1))) → Q (.inl (none), es5, kc, ks)) :
    aW O d 190 kc ks Q (0, [some (.ref 143), some (.int (zI op)), some (.int (zI n)), none], [], es) := by
  refine x0 (r := (3, [some (.ref 143), some (.int (zI op)), some (.int (zI n)), none], [.int (zI 1325)], es)) i_190_0 (by rfl) ?_
  refine x0 (r := (4, [some (.ref 143), some (.int (zI op)), some (.int (zI n)), none], [.int (zI 2), .int (zI 1325)], es)) i_190_3 (by rfl) ?_
  refine x0 (r := (5, [some (.ref 143), some (.int (zI op)), some (.int (zI n)), none], [.ref 143, .int (zI 2), .int (zI 1325)], es)) i_190_4 rfl ?_
  refine x_geti (p := 79) i_190_5 hs_es rfl rfl ?_
  obtain ⟨v1, e_v1⟩ : ∃ z : Int, z = (gI es 79 12).toInt := ⟨_, rfl⟩
  rw [← e_v1]
  have r_v1 : iLO ≤ v1 ∧ v1 ≤ iHI := by rw [e_v1]; exact i32_rng _
  unfold iLO iHI at r_v1
  have b_v1 : (0 : Int) ≤ v1 ∧ v1 ≤ (400 : Int) := by rw [e_v1]; exact gI_bd hT_es (p := 79) (b := 12) rfl rfl
  refine x_imul i_190_8 ?_
  refine x_iadd i_190_9 ?_
  refine x0 (r := (11, [some (.ref 143), some (.int (zI op)), some (.int (zI n)), some (.int (zI (1325 + (2 * v1))))], [], es)) i_190_10 rfl ?_
  refine x0 (r := (12, [some (.ref 143), some (.int (zI op)), some (.int (zI n)), some (.int (zI (1325 + (2 * v1))))], [.ref 143], es)) i_190_11 rfl ?_
  refine x_getr (p := 79) (k := 144) i_190_12 hs_es rfl rfl ?_
  show aW _ _ _ _ _ _ (15, [some (.ref 143), some (.int (zI op)), some (.int (zI n)), some (.int (zI (1325 + (2 * v1))))], [.ref 144], es)
  refine x0 (r := (16, [some (.ref 143), some (.int (zI op)), some (.int (zI n)), some (.int (zI (1325 + (2 * v1))))], [.int (zI (1325 + (2 * v1))), .ref 144], es)) i_190_15 rfl ?_
  refine x0 (r := (17, [some (.ref 143), some (.int (zI op)), some (.int (zI n)), some (.int (zI (1325 + (2 * v1))))], [.int (zI op), .int (zI (1325 + (2 * v1))), .ref 144], es)) i_190_16 rfl ?_
  refine x_iast (p := 80) i_190_17 hs_es rfl (by unfold i32 iLO iHI; omega) (by omega) (by omega) ?_
  obtain ⟨es2, e_es2⟩ : ∃ z : PH, z = sA es 80 (1325 + (2 * v1)).toNat (zI op) := ⟨_, rfl⟩
  have hs_es2 : sh es2 := by rw [e_es2]; exact sh_sA hs_es
  rw [← e_es2]
  refine x0 (r := (19, [some (.ref 143), some (.int (zI op)), some (.int (zI n)), some (.int (zI (1325 + (2 * v1))))], [.ref 143], es2)) i_190_18 rfl ?_
  refine x_getr (p := 79) (k := 144) i_190_19 hs_es2 rfl rfl ?_
  show aW _ _ _ _ _ _ (22, [some (.ref 143), some (.int (zI op)), some (.int (zI n)), some (.int (zI (1325 + (2 * v1))))], [.ref 144], es2)
  refine x0 (r := (23, [some (.ref 143), some (.int (zI op)), some (.int (zI n)), some (.int (zI (1325 + (2 * v1))))], [.int (zI (1325 + (2 * v1))), .ref 144], es2)) i_190_22 rfl ?_
  refine x0 (r := (24, [some (.ref 143), some (.int (zI op)), some (.int (zI n)), some (.int (zI (1325 + (2 * v1))))], [.int (zI 1), .int (zI (1325 + (2 * v1))), .ref 144], es2)) i_190_23 (by rfl) ?_
  refine x_iadd i_190_24 ?_
  refine x0 (r := (26, [some (.ref 143), some (.int (zI op)), some (.int (zI n)), some (.int (zI (1325 + (2 * v1))))], [.int (zI n), .int (zI ((1325 + (2 * v1)) + 1)), .ref 144], es2)) i_190_25 rfl ?_
  refine x_iast (p := 80) i_190_26 hs_es2 rfl (by unfold i32 iLO iHI; omega) (by omega) (by omega) ?_
  obtain ⟨es3, e_es3⟩ : ∃ z : PH, z = sA es2 80 ((1325 + (2 * v1)) + 1).toNat (zI n) := ⟨_, rfl⟩
  have hs_es3 : sh es3 := by rw [e_es3]; exact sh_sA hs_es2
  rw [← e_es3]
  refine x0 (r := (28, [some (.ref 143), some (.int (zI op)), some (.int (zI n)), some (.int (zI (1325 + (2 * v1))))], [.ref 143], es3)) i_190_27 rfl ?_
  refine x0 (r := (29, [some (.ref 143), some (.int (zI op)), some (.int (zI n)), some (.int (zI (1325 + (2 * v1))))], [.ref 143, .ref 143], es3)) i_190_28 rfl ?_
  refine x_geti (p := 79) i_190_29 hs_es3 rfl rfl ?_
  obtain ⟨v4, e_v4⟩ : ∃ z : Int, z = (gI es3 79 12).toInt := ⟨_, rfl⟩
  rw [← e_v4]
  have r_v4 : iLO ≤ v4 ∧ v4 ≤ iHI := by rw [e_v4]; exact i32_rng _
  unfold iLO iHI at r_v4
  refine x0 (r := (33, [some (.ref 143), some (.int (zI op)), some (.int (zI n)), some (.int (zI (1325 + (2 * v1))))], [.int (zI 1), .int (zI v4), .ref 143], es3)) i_190_32 (by rfl) ?_
  refine x_iadd i_190_33 ?_
  refine x_puti (p := 79) (ty := .int) i_190_34 hs_es3 rfl rfl rfl (Or.inl rfl) ?_
  obtain ⟨es5, e_es5⟩ : ∃ z : PH, z = sI es3 79 12 (.int (zI (v4 + 1))) := ⟨_, rfl⟩
  have hs_es5 : sh es5 := by rw [e_es5]; exact sh_sI hs_es3 (p := 79) (b := 12) rfl rfl
  rw [← e_es5]
  refine x_ret (v := none) i_190_37 rfl (fun _ => rfl) rfl rfl rfl ?_
  exact K1 v1 e_v1 es2 e_es2 es3 e_es3 v4 e_v4 es5 e_es5

theorem s_ka0 {O : pOut} {d kc ks : Nat} {Q : pRes → Prop} {es : PH} {k v : Int} (hs_es : sh es) (h1 : 1285 ≤ k ∧ k ≤ 1324) (h2 : -2147483648 ≤ v ∧ v ≤ 2147483647) (hT_es : hOK tT es)
    (K1 : ∀ es1 : PH, es1 = sA es 80 k.toNat (zI v) → v < 0 → Q (.inl (some (.int (zI 0))), es1, kc, ks))
    (K2 : ∀ es1 : PH, es1 = sA es 80 k.toNat (zI v) → ¬ (v < 0) → Q (.inl (some (.int (zI 1))), es1, kc, ks)) :
    aW O d 183 kc ks Q (0, [some (.ref 143), some (.int (zI k)), some (.int (zI v))], [], es) := by
  refine x0 (r := (1, [some (.ref 143), some (.int (zI k)), some (.int (zI v))], [.ref 143], es)) i_183_0 rfl ?_
  refine x_getr (p := 79) (k := 144) i_183_1 hs_es rfl rfl ?_
  show aW _ _ _ _ _ _ (4, [some (.ref 143), some (.int (zI k)), some (.int (zI v))], [.ref 144], es)
  refine x0 (r := (5, [some (.ref 143), some (.int (zI k)), some (.int (zI v))], [.int (zI k), .ref 144], es)) i_183_4 rfl ?_
  refine x0 (r := (6, [some (.ref 143), some (.int (zI k)), some (.int (zI v))], [.int (zI v), .int (zI k), .ref 144], es)) i_183_5 rfl ?_
  refine x_iast (p := 80) i_183_6 hs_es rfl (by unfold i32 iLO iHI; omega) (by omega) (by omega) ?_
  obtain ⟨es1, e_es1⟩ : ∃ z : PH, z = sA es 80 k.toNat (zI v) := ⟨_, rfl⟩
  have hs_es1 : sh es1 := by rw [e_es1]; exact sh_sA hs_es
  rw [← e_es1]
  refine x0 (r := (8, [some (.ref 143), some (.int (zI k)), some (.int (zI v))], [.int (zI v)], es1)) i_183_7 rfl ?_
  by_cases c2 : v < 0
  · refine x_ifT i_183_8 (by unfold i32 iLO iHI; omega) rfl (by simp only [zC, cR]; omega) ?_
    refine x0 (r := (16, [some (.ref 143), some (.int (zI k)), some (.int (zI v))], [.int (zI 0)], es1)) i_183_15 (by rfl) ?_
    refine x_ret (v := some (.int (zI 0))) i_183_16 rfl (fun _ => rfl) rfl rfl (pFin_b (by omega)) ?_
    exact K1 es1 e_es1 c2
  · refine x_ifF i_183_8 (by unfold i32 iLO iHI; omega) rfl (by simp only [zC, cR]; omega) ?_
    refine x0 (r := (12, [some (.ref 143), some (.int (zI k)), some (.int (zI v))], [.int (zI 1)], es1)) i_183_11 (by rfl) ?_
    refine x0 (r := (16, [some (.ref 143), some (.int (zI k)), some (.int (zI v))], [.int (zI 1)], es1)) i_183_12 rfl ?_
    refine x_ret (v := some (.int (zI 1))) i_183_16 rfl (fun _ => rfl) rfl rfl (pFin_b (by omega)) ?_
    exact K2 es1 e_es1 c2

section
variable {O : pOut} {d kc ks : Nat} {Q : pRes → Prop} {es : PH}
theorem ps_spec {k : Nat} (hs : sh es) (hT : hOK tT es) (hW : wordsOK O) (hk : k ∈ wrds) (K : ∀ es' v, psP es es' v → Q (.inl (some (.int (zI v))), es', kc, ks)) : aW O (d + 3) 186 kc ks Q (0, [some (.ref 143), some (.ref k)], [], es) := by
  refine s_ps0 (d := d) hs hW hk hT (fun es1 p1 es2 v3 p2 h3 v5 e5 es6 e6 => ?_) (fun es1 p1 es2 v3 p2 h3 => ?_)
  all_goals
    obtain ⟨q1, q2, q3, q4, q5⟩ := p1
    obtain ⟨r1, r2, r3, r4, r5⟩ := p2
    have p6 : pT es2 = pT es1 := by unfold pT; rw [fr_fld r4 q1 (p := 79) (b := 6) rfl (by simp only [mHq, true_and, and_true, false_and, and_false, or_false, false_or, not_false_eq_true, Nat.reduceEqDiff] <;> omega)]
    have b6 : bT es2 = bT es1 := by unfold bT; rw [fr_fld r4 q1 (p := 79) (b := 8) rfl (by simp only [mHq, true_and, and_true, false_and, and_false, or_false, false_or, not_false_eq_true, Nat.reduceEqDiff] <;> omega)]
    have m2 : mvB es es2 := mvB_trans q3 ⟨fr_sub (by decide) r4, by omega⟩
  · have hb := bT_bd r2
    have hz : (zI v5).toInt = v5 := zI_toInt (by rw [e5]; exact i32_rng _)
    have hT6 : hOK tT es6 := by rw [e6]; exact hOK_sI r2 (p := 79) (b := 6) rfl rfl (by rw [hz, e5]; exact hb)
    have hp6 : pT es6 = bT es2 := by unfold pT bT; rw [e6, gI_sI r1 (p := 79) rfl (by decide), hz, e5]
    exact K es6 0 ⟨sh_of hT6, hT6, ⟨by omega, by omega⟩, ⟨fr_trans m2.1 (by rw [e6]; exact fr_sI rfl), by omega⟩, fun h => absurd rfl h⟩
  · exact K es2 1 ⟨r1, r2, ⟨by omega, by omega⟩, m2, fun _ => by have := r5 h3; omega⟩
theorem fa_spec (hs : sh es) (hT : hOK tT es) (hW : wordsOK O) (K : ∀ es' v, faP es es' v → Q (.inl (some (.int (zI v))), es', kc, ks)) : aW O (d + 3) 185 kc ks Q (0, [some (.ref 143)], [], es) := by
  have mv : ∀ a b v, iswP a b v → hOK tT a → mvB a b := fun a b v h hTa => ⟨fr_sub (by decide) h.2.2.2.1, by
    unfold pT; rw [fr_fld h.2.2.2.1 (sh_of hTa) (p := 79) (b := 6) rfl (by simp only [mHq, true_and, and_true, false_and, and_false, or_false, false_or, not_false_eq_true, Nat.reduceEqDiff] <;> omega)]; exact Int.le_refl _⟩
  refine s_fa0 (d := d) hs hW hT (fun es1 v2 p2 h2 es4 v5 p5 h5 es7 v8 p8 h8 es10 v11 p11 h11 => ?_) (fun es1 v2 p2 h2 es4 v5 p5 h5 es7 v8 p8 h8 es10 v11 p11 h11 => ?_) (fun es1 v2 p2 h2 es4 v5 p5 h5 es7 v8 p8 h8 => ?_) (fun es1 v2 p2 h2 es4 v5 p5 h5 => ?_) (fun es1 v2 p2 h2 => ?_)
  · exact K es10 (-1) ⟨p11.1, p11.2.1, ⟨by omega, by omega⟩, mvB_trans (mv _ _ _ p2 hT) (mvB_trans (mv _ _ _ p5 p2.2.1) (mvB_trans (mv _ _ _ p8 p5.2.1) (mv _ _ _ p11 p8.2.1)))⟩
  · exact K es10 3 ⟨p11.1, p11.2.1, ⟨by omega, by omega⟩, mvB_trans (mv _ _ _ p2 hT) (mvB_trans (mv _ _ _ p5 p2.2.1) (mvB_trans (mv _ _ _ p8 p5.2.1) (mv _ _ _ p11 p8.2.1)))⟩
  · exact K es7 2 ⟨p8.1, p8.2.1, ⟨by omega, by omega⟩, mvB_trans (mv _ _ _ p2 hT) (mvB_trans (mv _ _ _ p5 p2.2.1) (mv _ _ _ p8 p5.2.1))⟩
  · exact K es4 1 ⟨p5.1, p5.2.1, ⟨by omega, by omega⟩, mvB_trans (mv _ _ _ p2 hT) (mv _ _ _ p5 p2.2.1)⟩
  · exact K es1 0 ⟨p2.1, p2.2.1, ⟨by omega, by omega⟩, mv _ _ _ p2 hT⟩
theorem tS80_op : ∀ i, i < 400 → tS80 (1325 + 2 * i) = (-1, 12) ∧ tS80 (1325 + 2 * i + 1) = (-1, 999) := by decide +kernel
theorem em_spec {op n : Int} (hs : sh es) (hT : hOK tT es) (h1 : -1 ≤ op ∧ op ≤ 12) (h2 : -1 ≤ n ∧ n ≤ 999) (h3 : sT es ≤ 399) (K : ∀ es', emP op n es es' → Q (.inl none, es', kc, ks)) : aW O d 190 kc ks Q (0, [some (.ref 143), some (.int (zI op)), some (.int (zI n)), none], [], es) := by
  have hsb := sT_bd hT
  refine s_em0 (d := d) hs h1 h2 h3 hT (fun v1 e1 es2 e2 es3 e3 v4 e4 es5 e5 => ?_)
  have hv1 : v1 = sT es := e1
  have i1 : (1325 + (2 * v1)).toNat = 1325 + 2 * (sT es).toNat := by omega
  have i2 : ((1325 + (2 * v1)) + 1).toNat = 1325 + 2 * (sT es).toNat + 1 := by omega
  rw [i1] at e2
  rw [i2] at e3
  obtain ⟨t1, t2⟩ := tS80_op (sT es).toNat (by omega)
  have zo : (zI op).toInt = op := zI_toInt (by unfold i32 iLO iHI; omega)
  have zn : (zI n).toInt = n := zI_toInt (by unfold i32 iLO iHI; omega)
  have hT2 : hOK tT es2 := by rw [e2]; exact hOK_sA hT (p := 80) (t := 0) (n := 2125) (sp := tS80) rfl (fun _ => by rw [t1, zo]; exact h1)
  have hT3 : hOK tT es3 := by rw [e3]; exact hOK_sA hT2 (p := 80) (t := 0) (n := 2125) (sp := tS80) rfl (fun _ => by rw [t2, zn]; exact h2)
  have g12 : (gI es3 79 12).toInt = sT es := by rw [e3, gI_sA, e2, gI_sA]; rfl
  have z4 : (zI (v4 + 1)).toInt = sT es + 1 := by rw [zI_toInt (by unfold i32 iLO iHI; omega)]; omega
  have hT5 : hOK tT es5 := by rw [e5]; exact hOK_sI hT3 (p := 79) (b := 12) rfl rfl (by rw [z4]; exact ⟨by show (0 : Int) ≤ _; omega, by show _ ≤ (400 : Int); omega⟩)
  refine K es5 ⟨sh_of hT5, hT5, ?_, ?_, ?_⟩
  · rw [e5, e3, e2]
    exact fr_trans (fr_sA (mIn_yes (by simp only [mHq, true_and, and_true, false_and, and_false, or_false, false_or, not_false_eq_true, Nat.reduceEqDiff] <;> omega))) (fr_trans (fr_sA (mIn_yes (by simp only [mHq, true_and, and_true, false_and, and_false, or_false, false_or, not_false_eq_true, Nat.reduceEqDiff] <;> omega))) (fr_sI (mIn_yes (by simp only [mHq, true_and, and_true, false_and, and_false, or_false, false_or, not_false_eq_true, Nat.reduceEqDiff] <;> omega))))
  · unfold sT
    rw [e5, gI_sI (sh_of hT3) (p := 79) rfl (by decide), z4]
    rfl
  · unfold opD
    rw [e5, gA_sI, e3, gA_sA (sh_of hT2) (p := 80) (t := 0) (n := 2125) (sp := tS80) rfl (by decide), e2, gA_sA hs (p := 80) (t := 0) (n := 2125) (sp := tS80) rfl (by decide)]
    unfold upd
    rw [if_neg (by omega), if_pos rfl, zo]
/-- a call of emits -/
theorem c_em {j pc k : Nat} {L : PL} {ret : Option FieldType} {op n : Int} (hi : iRow j pc = some (.invokevirtual 166, k, 190, 1, ret)) (hT : hOK tT es) (h1 : -1 ≤ op ∧ op ≤ 12) (h2 : -1 ≤ n ∧ n ≤ 999) (h3 : sT es ≤ 399) (K : ∀ es', emP op n es es' → aW O (d + 1) j kc ks Q (pc + 3, L, [], es')) : aW O (d + 1) j kc ks Q (pc, L, [.int (zI n), .int (zI op), .ref 143], es) := by
  refine x_call (vs := [.ref 143, .int (zI op), .int (zI n)]) (rs := []) hi rfl (fun _ => rfl) rfl rfl rfl rfl rfl (pCall_v (p := 79) (sh_of hT) rfl rfl rfl rfl rfl (by decide) rfl rfl rfl rfl rfl) ?_
  show aW _ _ _ _ _ _ (0, [some (.ref 143), some (.int (zI op)), some (.int (zI n)), none], [], es)
  exact em_spec (d := d) (sh_of hT) hT h1 h2 h3 (fun es' h => K es' h)
/-- keepsAt -/
theorem ka_spec {k v : Int} (hs : sh es) (hT : hOK tT es) (h1 : 1285 ≤ k ∧ k ≤ 1324) (h2 : i32 v) (K : ∀ x : Int, (x = 1 ∧ 0 ≤ v) ∨ (x = 0 ∧ v < 0) → Q (.inl (some (.int (zI x))), sA es 80 k.toNat (zI v), kc, ks)) : aW O d 183 kc ks Q (0, [some (.ref 143), some (.int (zI k)), some (.int (zI v))], [], es) := by
  refine s_ka0 hs h1 h2 hT (fun es1 e1 c1 => ?_) (fun es1 e1 c1 => ?_)
  · rw [e1]; exact K 0 (Or.inr ⟨rfl, c1⟩)
  · rw [e1]; exact K 1 (Or.inl ⟨rfl, by omega⟩)
end
