/-! pictures, lengths, rows taken -/
def picN (W : Nat → Int32) : Nat := (W 2).toInt.toNat
def barC (W : Nat → Int32) (bd : Nat → Int) (m k : Nat) : Prop := (W (413 + 3 * k)).toInt = (m : Int) ∧ bd (W (413 + 3 * k + 1)).toInt.toNat ≠ (W (413 + 3 * k + 2)).toInt
def barD (W : Nat → Int32) (fz : Int) (bd : Nat → Int) (m : Nat) : Prop := fz = 0 ∧ ∃ k, k < picN W ∧ barC W bd m k
noncomputable def barI (W : Nat → Int32) (fz : Int) (bd : Nat → Int) (m : Nat) : Int := @ite Int (barD W fz bd m) (Classical.propDecidable _) 1 0
def barP (m : Int) (es : PH) (v : Int) : Prop := v = barI (gA es 80) (gI es 79 30).toInt (brow es m.toNat) m.toNat ∧ 0 ≤ v ∧ v ≤ 1
def lenB (W : Nat → Int32) (fz : Int) (m : Nat) : Prop := fz ≠ 0 ∨ (W 3).toInt < 0 ∨ (W 3).toInt = (m : Int)
def lenD (W : Nat → Int32) (fz : Int) (m : Nat) : Prop := lenB W fz m ∧ (fz = 0 → ∀ k, k < picN W → (W (413 + 3 * k)).toInt ≤ (m : Int))
noncomputable def lenI (W : Nat → Int32) (fz : Int) (m : Nat) : Int := @ite Int (lenD W fz m) (Classical.propDecidable _) 1 0
def lenP (m : Int) (es : PH) (v : Int) : Prop := v = lenI (gA es 80) (gI es 79 30).toInt m.toNat ∧ 0 ≤ v ∧ v ≤ 1
def takeP (p : Nat) (m : Int) (es es' : PH) (v : Int) : Prop := sh es' ∧ hOK tT es' ∧ (0 ≤ v ∧ v ≤ 30) ∧ v = m ∧ fr [(p, 0, 0, 30)] es es' ∧ ∀ k, k < m.toNat → gA es' p k = gA es 91 k
def take98P : Int → PH → PH → Int → Prop := takeP 98
def take99P : Int → PH → PH → Int → Prop := takeP 99
def take100P : Int → PH → PH → Int → Prop := takeP 100
theorem picN_bd {es : PH} (hT : hOK tT es) : (gA es 80 2).toInt = (picN (gA es 80) : Int) ∧ picN (gA es 80) ≤ 10 := by
  have h := gA_bd hT (p := 80) (t := 0) (n := 2125) (sp := tS80) (k := 2) rfl (by omega) (by decide)
  have h' : 0 ≤ (gA es 80 2).toInt ∧ (gA es 80 2).toInt ≤ 10 := h
  unfold picN
  omega
theorem tS80_pic : ∀ k, k < 10 → tS80 (413 + 3 * k + 1) = (0, 35) := by decide +kernel
section
variable {O : pOut} {d kc ks : Nat} {Q : pRes → Prop} {es : PH}
theorem bar_loop {m : Nat} (hm : m ≤ 30) (hT : hOK tT es) (K : ∀ v, barP m es v → Q (.inl (some (.int (zI v))), es, kc, ks)) :
    ∀ (j k : Nat) (f : Int) (x4 : Option Value), k + j = picN (gA es 80) → (f = 1 ∧ barD (gA es 80) (gI es 79 30).toInt (brow es m) m) ∨ (f = 0 ∧ ((gI es 79 30).toInt = 0 → ∀ k', k' < k → ¬ barC (gA es 80) (brow es m) m k')) →
      aW O (d + 1) 249 kc ks Q (4, [some (.ref 143), some (.int (zI (m : Int))), some (.int (zI f)), some (.int (zI (k : Int))), x4], [], es) := by
  have hp := picN_bd hT
  have K' : ∀ f : Int, (f = 1 ∧ barD (gA es 80) (gI es 79 30).toInt (brow es m) m) ∨ (f = 0 ∧ ¬ barD (gA es 80) (gI es 79 30).toInt (brow es m) m) → Q (.inl (some (.int (zI f))), es, kc, ks) := by
    intro f hf
    refine K f ?_
    unfold barP barI
    rw [Int.toNat_natCast]
    rcases hf with ⟨rfl, h⟩ | ⟨rfl, h⟩
    · rw [if_pos h]; omega
    · rw [if_neg h]; omega
  have hq : ∀ k : Nat, ((k : Int) ≤ 9 → 0 ≤ (gA es 80 ((413 + (3 * (k : Int))) + 1).toNat).toInt ∧ (gA es 80 ((413 + (3 * (k : Int))) + 1).toNat).toInt ≤ 35) := by
    intro k hk
    have h := gA_bd hT (p := 80) (t := 0) (n := 2125) (sp := tS80) (k := 413 + 3 * k + 1) rfl (by omega) (by decide)
    rw [tS80_pic k (by omega)] at h
    rw [show ((413 + (3 * (k : Int))) + 1).toNat = 413 + 3 * k + 1 by omega]
    exact h
  intro j
  induction j with
  | zero =>
    intro k f x4 hk hf
    refine s_bar4 (d := d) (sh_of hT) ⟨by omega, by omega⟩ (by rcases hf with h | h <;> omega) ⟨by omega, by omega⟩ (by show (gA es 80 2).toInt ≤ 10; omega) (hq k) hT (fun v1 e1 h1 => K' f ?_) ?_ ?_ ?_ ?_ ?_
    · rcases hf with h | ⟨h0, h⟩
      · exact Or.inl h
      · refine Or.inr ⟨h0, fun hb => ?_⟩
        obtain ⟨z, k', c1, c2⟩ := hb
        exact h z k' (by omega) c2
    all_goals
      intro v1 e1 h1
      have e1' : v1 = (gA es 80 2).toInt := e1
      omega
  | succ j ih =>
    intro k f x4 hk hf
    have e9 : ((k + 1 : Nat) : Int) = (k : Int) + 1 := by omega
    have nx : ∀ (f' : Int) (x : Option Value), (f' = 1 ∧ barD (gA es 80) (gI es 79 30).toInt (brow es m) m) ∨ (f' = 0 ∧ ((gI es 79 30).toInt = 0 → ∀ k', k' < k + 1 → ¬ barC (gA es 80) (brow es m) m k')) →
        aW O (d + 1) 249 kc ks Q (4, [some (.ref 143), some (.int (zI (m : Int))), some (.int (zI f')), some (.int (zI ((k : Int) + 1))), x], [], es) := by
      intro f' x h
      have := ih (k + 1) f' x (by omega) h
      rw [e9] at this
      exact this
    have j0 : (413 + (3 * (k : Int))).toNat = 413 + 3 * k := by omega
    have j1 : ((413 + (3 * (k : Int))) + 1).toNat = 413 + 3 * k + 1 := by omega
    have j2 : ((413 + (3 * (k : Int))) + 2).toNat = 413 + 3 * k + 2 := by omega
    have hq1 := hq k (by omega)
    rw [j1] at hq1
    have old : ¬ (f ≠ 0) → ¬ barC (gA es 80) (brow es m) m k → (gI es 79 30).toInt = 0 → ∀ k', k' < k + 1 → ¬ barC (gA es 80) (brow es m) m k' := by
      intro hf0 hb hz k' hk'
      rcases hf with ⟨h1, -⟩ | ⟨-, h⟩
      · omega
      · rcases Nat.lt_or_ge k' k with h6 | h6
        · exact h hz k' h6
        · rw [show k' = k by omega]; exact hb
    refine s_bar4 (d := d) (sh_of hT) ⟨by omega, by omega⟩ (by rcases hf with h | h <;> omega) ⟨by omega, by omega⟩ (by show (gA es 80 2).toInt ≤ 10; omega) (hq k) hT (fun v1 e1 h1 => ?_) (fun v1 e1 h1 v3 e3 h3 => ?_) (fun v1 e1 h1 v3 e3 h3 h4 => ?_) (fun v1 e1 h1 v3 e3 h3 h4 v6 e6 h6 => ?_) (fun v1 e1 h1 v3 e3 h3 h4 v6 e6 h6 v8 e8 v9 e9 v10 e10 h10 => ?_) (fun v1 e1 h1 v3 e3 h3 h4 v6 e6 h6 v8 e8 v9 e9 v10 e10 h10 => ?_)
    · have e1' : v1 = (gA es 80 2).toInt := e1
      omega
    · refine K' f ?_
      rcases hf with ⟨-, h⟩ | ⟨h0, h⟩
      · exact absurd h.1 (by rw [← e3]; exact h3)
      · exact Or.inr ⟨h0, fun hb => h3 (by rw [e3]; exact hb.1)⟩
    · rcases hf with ⟨h0, h⟩ | ⟨h0, h⟩
      · exact nx 1 _ (Or.inl ⟨rfl, h⟩)
      · exact absurd h0 h4
    · rw [j0] at e6
      exact nx 0 _ (Or.inr ⟨rfl, old h4 (fun hb => h6 (by rw [e6]; exact hb.1))⟩)
    · rw [j0] at e6
      rw [j1] at e8
      rw [j2] at e10
      rw [show ((36 * (m : Int)) + v8).toNat = 36 * m + v8.toNat by omega] at e9
      have hbr : brow es m v8.toNat = v9 := by unfold brow; rw [if_pos (by omega), e9]
      exact nx 0 _ (Or.inr ⟨rfl, old h4 (fun hb => hb.2 (by rw [← e8, ← e10, hbr]; exact h10))⟩)
    · rw [j0] at e6
      rw [j1] at e8
      rw [j2] at e10
      rw [show ((36 * (m : Int)) + v8).toNat = 36 * m + v8.toNat by omega] at e9
      have hbr : brow es m v8.toNat = v9 := by unfold brow; rw [if_pos (by omega), e9]
      exact nx 1 _ (Or.inl ⟨rfl, by rw [← e3]; omega, k, by omega, by rw [← e6]; omega, by rw [← e8, ← e10, hbr]; exact h10⟩)
theorem bar_spec {m : Int} (hs : sh es) (hT : hOK tT es) (hm : 0 ≤ m ∧ m ≤ 30) (K : ∀ v, barP m es v → Q (.inl (some (.int (zI v))), es, kc, ks)) :
    aW O (d + 1) 249 kc ks Q (0, [some (.ref 143), some (.int (zI m)), none, none, none], [], es) := by
  obtain ⟨m, rfl⟩ := Int.eq_ofNat_of_zero_le hm.1
  exact s_bar0 (d := d + 1) hs hT (bar_loop (by omega) hT K _ 0 0 none (Nat.zero_add _) (Or.inr ⟨rfl, fun _ k' hk' => absurd hk' (by omega)⟩))
theorem len_loop {m : Nat} (hm : m ≤ 30) (hT : hOK tT es) (K : ∀ v, lenP m es v → Q (.inl (some (.int (zI v))), es, kc, ks)) :
    ∀ (j k : Nat) (f : Int), k + j = picN (gA es 80) → (f = 1 ∧ lenB (gA es 80) (gI es 79 30).toInt m ∧ ((gI es 79 30).toInt = 0 → ∀ k', k' < k → (gA es 80 (413 + 3 * k')).toInt ≤ (m : Int))) ∨ (f = 0 ∧ ¬ lenD (gA es 80) (gI es 79 30).toInt m) →
      aW O d 250 kc ks Q (34, [some (.ref 143), some (.int (zI (m : Int))), some (.int (zI f)), some (.int (zI (k : Int)))], [], es) := by
  have hp := picN_bd hT
  have K' : ∀ f : Int, (f = 1 ∧ lenD (gA es 80) (gI es 79 30).toInt m) ∨ (f = 0 ∧ ¬ lenD (gA es 80) (gI es 79 30).toInt m) → Q (.inl (some (.int (zI f))), es, kc, ks) := by
    intro f hf
    refine K f ?_
    unfold lenP lenI
    rw [Int.toNat_natCast]
    rcases hf with ⟨rfl, h⟩ | ⟨rfl, h⟩
    · rw [if_pos h]; omega
    · rw [if_neg h]; omega
  intro j
  induction j with
  | zero =>
    intro k f hk hf
    refine s_len34 (sh_of hT) ⟨by omega, by omega⟩ (by rcases hf with h | h <;> omega) ⟨by omega, by omega⟩ (by show (gA es 80 2).toInt ≤ 10; omega) hT (fun v1 e1 h1 => K' f ?_) ?_ ?_ ?_ ?_
    · rcases hf with ⟨h0, hb, h⟩ | h
      · exact Or.inl ⟨h0, hb, fun hz k' hk' => h hz k' (by omega)⟩
      · exact Or.inr h
    all_goals
      intro v1 e1 h1
      have e1' : v1 = (gA es 80 2).toInt := e1
      omega
  | succ j ih =>
    intro k f hk hf
    have e9 : ((k + 1 : Nat) : Int) = (k : Int) + 1 := by omega
    have nx : ∀ (f' : Int), (f' = 1 ∧ lenB (gA es 80) (gI es 79 30).toInt m ∧ ((gI es 79 30).toInt = 0 → ∀ k', k' < k + 1 → (gA es 80 (413 + 3 * k')).toInt ≤ (m : Int))) ∨ (f' = 0 ∧ ¬ lenD (gA es 80) (gI es 79 30).toInt m) →
        aW O d 250 kc ks Q (34, [some (.ref 143), some (.int (zI (m : Int))), some (.int (zI f')), some (.int (zI ((k : Int) + 1)))], [], es) := by
      intro f' h
      have := ih (k + 1) f' (by omega) h
      rw [e9] at this
      exact this
    have j0 : (413 + (3 * (k : Int))).toNat = 413 + 3 * k := by omega
    refine s_len34 (sh_of hT) ⟨by omega, by omega⟩ (by rcases hf with h | h <;> omega) ⟨by omega, by omega⟩ (by show (gA es 80 2).toInt ≤ 10; omega) hT (fun v1 e1 h1 => ?_) (fun v1 e1 h1 v3 e3 h3 => ?_) (fun v1 e1 h1 v3 e3 h3 h4 => ?_) (fun v1 e1 h1 v3 e3 h3 h4 v6 e6 h6 => ?_) (fun v1 e1 h1 v3 e3 h3 h4 v6 e6 h6 => ?_)
    · have e1' : v1 = (gA es 80 2).toInt := e1
      omega
    · refine K' f ?_
      rcases hf with ⟨h0, hb, h⟩ | h
      · exact Or.inl ⟨h0, hb, fun hz => absurd (e3.trans hz) h3⟩
      · exact Or.inr h
    · rcases hf with ⟨h0, -⟩ | ⟨-, h⟩
      · omega
      · exact nx 0 (Or.inr ⟨rfl, h⟩)
    · rw [j0] at e6
      exact nx 0 (Or.inr ⟨rfl, fun hl => by
        have := hl.2 (by rw [← e3]; omega) k (by omega)
        omega⟩)
    · rw [j0] at e6
      rcases hf with ⟨h0, hb, h⟩ | ⟨h0, h⟩
      · exact nx 1 (Or.inl ⟨rfl, hb, fun hz k' hk' => by
          rcases Nat.lt_or_ge k' k with h7 | h7
          · exact h hz k' h7
          · rw [show k' = k by omega]; omega⟩)
      · exact absurd h0 h4
theorem len_spec {m : Int} (hs : sh es) (hT : hOK tT es) (hm : 0 ≤ m ∧ m ≤ 30) (K : ∀ v, lenP m es v → Q (.inl (some (.int (zI v))), es, kc, ks)) :
    aW O d 250 kc ks Q (0, [some (.ref 143), some (.int (zI m)), none, none], [], es) := by
  obtain ⟨m, rfl⟩ := Int.eq_ofNat_of_zero_le hm.1
  have go : ∀ f : Int, (f = 1 ∧ lenB (gA es 80) (gI es 79 30).toInt m) ∨ (f = 0 ∧ ¬ lenB (gA es 80) (gI es 79 30).toInt m) → aW O d 250 kc ks Q (34, [some (.ref 143), some (.int (zI (m : Int))), some (.int (zI f)), some (.int (zI 0))], [], es) := by
    intro f hf
    refine len_loop (by omega) hT K _ 0 f (Nat.zero_add _) ?_
    rcases hf with ⟨h0, h⟩ | ⟨h0, h⟩
    · exact Or.inl ⟨h0, h, fun _ k' hk' => absurd hk' (by omega)⟩
    · exact Or.inr ⟨h0, fun hl => h hl.1⟩
  refine s_len0 hs hm hT (fun v1 e1 h1 => go 1 (Or.inl ⟨rfl, Or.inl (by rw [← e1]; exact h1)⟩)) (fun v1 e1 h1 v3 e3 h3 => go 1 (Or.inl ⟨rfl, Or.inr (Or.inl (by have e : v3 = (gA es 80 3).toInt := e3; omega))⟩)) (fun v1 e1 h1 v3 e3 h3 v5 e5 h5 => go 0 (Or.inr ⟨rfl, fun hb => ?_⟩)) (fun v1 e1 h1 v3 e3 h3 v5 e5 h5 => go 1 (Or.inl ⟨rfl, Or.inr (Or.inr (by have e : v5 = (gA es 80 3).toInt := e5; omega))⟩))
  have e3' : v3 = (gA es 80 3).toInt := e3
  have e5' : v5 = (gA es 80 3).toInt := e5
  unfold lenB at hb
  omega
theorem take98_spec {m : Int} (hs : sh es) (hT : hOK tT es) (hm : 0 ≤ m ∧ m ≤ 30) (K : ∀ es' v, take98P m es es' v → Q (.inl (some (.int (zI v))), es', kc, ks)) :
    aW O d 251 kc ks Q (0, [some (.ref 143), some (.ref 162), some (.int (zI m)), none], [], es) := by
  have lp : ∀ (j k : Nat) (es1 : PH), (k : Int) + j = m → hOK tT es1 → fr [(98, 0, 0, 30)] es es1 → (∀ i, i < k → gA es1 98 i = gA es 91 i) →
      aW O d 251 kc ks Q (2, [some (.ref 143), some (.ref 162), some (.int (zI m)), some (.int (zI (k : Int)))], [], es1) := by
    intro j
    induction j with
    | zero =>
      intro k es1 hk hT1 hf1 h1
      exact s_tk98_2 (sh_of hT1) hm ⟨by omega, by omega⟩ hT1 (fun _ => K es1 m ⟨sh_of hT1, hT1, hm, rfl, hf1, fun i hi => h1 i (by omega)⟩) (fun h => by omega)
    | succ j ih =>
      intro k es1 hk hT1 hf1 h1
      have e9 : ((k + 1 : Nat) : Int) = (k : Int) + 1 := by omega
      refine s_tk98_2 (sh_of hT1) hm ⟨by omega, by omega⟩ hT1 (fun h => by omega) (fun _ v2 e2 es3 e3 => ?_)
      rw [Int.toNat_natCast] at e2 e3
      have hb := gA_bd hT1 (p := 91) (t := 0) (n := 31) (k := k) rfl (by omega) (by decide)
      have hz : zI v2 = gA es1 91 k := by rw [e2, zI_id]
      rw [hz] at e3
      have h91 : gA es1 91 = gA es 91 := fr_row hf1 hs (p := 91) (t := 0) (n := 31) rfl (by decide) (fun k => by simp only [mHq, true_and, and_true, false_and, and_false, or_false, false_or, not_false_eq_true, Nat.reduceEqDiff] <;> omega)
      have := ih (k + 1) es3 (by omega) (by rw [e3]; exact hOK_sA hT1 (p := 98) (t := 0) (n := 30) rfl (fun _ => hb)) (by rw [e3]; exact fr_trans hf1 (fr_sA (mIn_yes (by simp only [mHq, true_and, and_true, false_and, and_false, or_false, false_or, not_false_eq_true, Nat.reduceEqDiff] <;> omega)))) (fun i hi => by
        rw [e3, gA_sA (sh_of hT1) (p := 98) (t := 0) (n := 30) rfl (by decide)]
        unfold upd
        split
        · rename_i hik; rw [hik, h91]
        · exact h1 i (by omega))
      rw [e9] at this
      exact this
  refine s_tk98_0 hs hT ?_
  exact lp m.toNat 0 es (by omega) hT (fr_refl _ _) (fun i hi => absurd hi (by omega))

theorem take99_spec {m : Int} (hs : sh es) (hT : hOK tT es) (hm : 0 ≤ m ∧ m ≤ 30) (K : ∀ es' v, take99P m es es' v → Q (.inl (some (.int (zI v))), es', kc, ks)) :
    aW O d 251 kc ks Q (0, [some (.ref 143), some (.ref 163), some (.int (zI m)), none], [], es) := by
  have lp : ∀ (j k : Nat) (es1 : PH), (k : Int) + j = m → hOK tT es1 → fr [(99, 0, 0, 30)] es es1 → (∀ i, i < k → gA es1 99 i = gA es 91 i) →
      aW O d 251 kc ks Q (2, [some (.ref 143), some (.ref 163), some (.int (zI m)), some (.int (zI (k : Int)))], [], es1) := by
    intro j
    induction j with
    | zero =>
      intro k es1 hk hT1 hf1 h1
      exact s_tk99_2 (sh_of hT1) hm ⟨by omega, by omega⟩ hT1 (fun _ => K es1 m ⟨sh_of hT1, hT1, hm, rfl, hf1, fun i hi => h1 i (by omega)⟩) (fun h => by omega)
    | succ j ih =>
      intro k es1 hk hT1 hf1 h1
      have e9 : ((k + 1 : Nat) : Int) = (k : Int) + 1 := by omega
      refine s_tk99_2 (sh_of hT1) hm ⟨by omega, by omega⟩ hT1 (fun h => by omega) (fun _ v2 e2 es3 e3 => ?_)
      rw [Int.toNat_natCast] at e2 e3
      have hb := gA_bd hT1 (p := 91) (t := 0) (n := 31) (k := k) rfl (by omega) (by decide)
      have hz : zI v2 = gA es1 91 k := by rw [e2, zI_id]
      rw [hz] at e3
      have h91 : gA es1 91 = gA es 91 := fr_row hf1 hs (p := 91) (t := 0) (n := 31) rfl (by decide) (fun k => by simp only [mHq, true_and, and_true, false_and, and_false, or_false, false_or, not_false_eq_true, Nat.reduceEqDiff] <;> omega)
      have := ih (k + 1) es3 (by omega) (by rw [e3]; exact hOK_sA hT1 (p := 99) (t := 0) (n := 30) rfl (fun _ => hb)) (by rw [e3]; exact fr_trans hf1 (fr_sA (mIn_yes (by simp only [mHq, true_and, and_true, false_and, and_false, or_false, false_or, not_false_eq_true, Nat.reduceEqDiff] <;> omega)))) (fun i hi => by
        rw [e3, gA_sA (sh_of hT1) (p := 99) (t := 0) (n := 30) rfl (by decide)]
        unfold upd
        split
        · rename_i hik; rw [hik, h91]
        · exact h1 i (by omega))
      rw [e9] at this
      exact this
  refine s_tk99_0 hs hT ?_
  exact lp m.toNat 0 es (by omega) hT (fr_refl _ _) (fun i hi => absurd hi (by omega))

theorem take100_spec {m : Int} (hs : sh es) (hT : hOK tT es) (hm : 0 ≤ m ∧ m ≤ 30) (K : ∀ es' v, take100P m es es' v → Q (.inl (some (.int (zI v))), es', kc, ks)) :
    aW O d 251 kc ks Q (0, [some (.ref 143), some (.ref 164), some (.int (zI m)), none], [], es) := by
  have lp : ∀ (j k : Nat) (es1 : PH), (k : Int) + j = m → hOK tT es1 → fr [(100, 0, 0, 30)] es es1 → (∀ i, i < k → gA es1 100 i = gA es 91 i) →
      aW O d 251 kc ks Q (2, [some (.ref 143), some (.ref 164), some (.int (zI m)), some (.int (zI (k : Int)))], [], es1) := by
    intro j
    induction j with
    | zero =>
      intro k es1 hk hT1 hf1 h1
      exact s_tk100_2 (sh_of hT1) hm ⟨by omega, by omega⟩ hT1 (fun _ => K es1 m ⟨sh_of hT1, hT1, hm, rfl, hf1, fun i hi => h1 i (by omega)⟩) (fun h => by omega)
    | succ j ih =>
      intro k es1 hk hT1 hf1 h1
      have e9 : ((k + 1 : Nat) : Int) = (k : Int) + 1 := by omega
      refine s_tk100_2 (sh_of hT1) hm ⟨by omega, by omega⟩ hT1 (fun h => by omega) (fun _ v2 e2 es3 e3 => ?_)
      rw [Int.toNat_natCast] at e2 e3
      have hb := gA_bd hT1 (p := 91) (t := 0) (n := 31) (k := k) rfl (by omega) (by decide)
      have hz : zI v2 = gA es1 91 k := by rw [e2, zI_id]
      rw [hz] at e3
      have h91 : gA es1 91 = gA es 91 := fr_row hf1 hs (p := 91) (t := 0) (n := 31) rfl (by decide) (fun k => by simp only [mHq, true_and, and_true, false_and, and_false, or_false, false_or, not_false_eq_true, Nat.reduceEqDiff] <;> omega)
      have := ih (k + 1) es3 (by omega) (by rw [e3]; exact hOK_sA hT1 (p := 100) (t := 0) (n := 30) rfl (fun _ => hb)) (by rw [e3]; exact fr_trans hf1 (fr_sA (mIn_yes (by simp only [mHq, true_and, and_true, false_and, and_false, or_false, false_or, not_false_eq_true, Nat.reduceEqDiff] <;> omega)))) (fun i hi => by
        rw [e3, gA_sA (sh_of hT1) (p := 100) (t := 0) (n := 30) rfl (by decide)]
        unfold upd
        split
        · rename_i hik; rw [hik, h91]
        · exact h1 i (by omega))
      rw [e9] at this
      exact this
  refine s_tk100_0 hs hT ?_
  exact lp m.toNat 0 es (by omega) hT (fr_refl _ _) (fun i hi => absurd hi (by omega))

end
