/-! WHAT IS KEPT beside the table: LINES of MEASURE are well formed (world's and image's); without a KIND there is no man at START -/
/-- how high the row of values stands ahead of each step -/
def wfSeg (f : Nat → Int32) (a b : Nat) : Prop := ∃ h : Nat → Int, h a = 0 ∧ ∀ i, a ≤ i → i < b → i < 400 →
  (0 ≤ (f (484 + 2 * i)).toInt ∧ (f (484 + 2 * i)).toInt ≤ 6 ∧ h (i + 1) = h i + 1) ∨ ((f (484 + 2 * i)).toInt = 10 ∧ 1 ≤ h i ∧ h (i + 1) = h i) ∨ (7 ≤ (f (484 + 2 * i)).toInt ∧ (f (484 + 2 * i)).toInt ≠ 10 ∧ 2 ≤ h i ∧ h (i + 1) = h i - 1)
def wfT (f : Nat → Int32) : Prop := ∀ n : Nat, n < 10 → (n : Int) < (f 443).toInt → wfSeg f (f (444 + 4 * n + 2)).toInt.toNat (f (444 + 4 * n + 3)).toInt.toNat
def kcs (f : Nat → Int32) : Prop := (f 0).toInt = 0 → ∀ s, s < 36 → (f (13 + s)).toInt = -1
/-- the image is empty till it is taken -/
def kci (es : PH) : Prop := (gI es 79 3).toInt = 0 ∨ kcs (gA es 81)
def gInv (es : PH) : Prop := tT.length ≤ es.length ∧ wfT (gA es 80) ∧ wfT (gA es 81) ∧ kcs (gA es 80) ∧ kci es
theorem wfSeg_congr {f g : Nat → Int32} (h : ∀ i, i < 400 → g (484 + 2 * i) = f (484 + 2 * i)) {a b : Nat} (hf : wfSeg f a b) : wfSeg g a b := by
  obtain ⟨t, h0, h1⟩ := hf
  refine ⟨t, h0, fun i hi hb h4 => ?_⟩
  rw [h i h4]
  exact h1 i hi hb h4
theorem wfT_congr {f g : Nat → Int32} (h : ∀ i, 443 ≤ i → i < 1284 → g i = f i) (hf : wfT f) : wfT g := by
  intro n hn hl
  rw [h 443 (by omega) (by omega)] at hl
  rw [h (444 + 4 * n + 2) (by omega) (by omega), h (444 + 4 * n + 3) (by omega) (by omega)]
  exact wfSeg_congr (fun i hi => h _ (by omega) (by omega)) (hf n hn hl)
theorem kcs_congr {f g : Nat → Int32} (h0 : g 0 = f 0) (h : ∀ i, 13 ≤ i → i < 49 → g i = f i) (hf : kcs f) : kcs g := by
  intro hz s hs
  rw [h0] at hz
  rw [h _ (by omega) (by omega)]
  exact hf hz s hs
theorem fr_cell {M : List aMod} {es es' : PH} (h : fr M es es') {p i : Nat} (hp : p < es.length) (hm : mIn M p 0 i = false) : gA es' p i = gA es p i := by
  obtain ⟨e', h1, h2⟩ := h.2 p _ (List.getElem?_eq_getElem hp)
  have h0 : es[p]? = some es[p] := List.getElem?_eq_getElem hp
  unfold gA
  rw [h1, h0]
  generalize es[p] = e at h2
  rcases e with ⟨t, n, f | f⟩ | ⟨c, vs⟩ <;> rcases e' with ⟨t', n', f' | f'⟩ | ⟨c', vs'⟩ <;> (try exact h2.elim)
  · exact h2.2.2 i hm
  · rfl
  · rfl
theorem fr_field {M : List aMod} {es es' : PH} (h : fr M es es') {p b : Nat} (hp : p < es.length) (hm : mIn M p (b + 2) 0 = false) : gI es' p b = gI es p b := by
  obtain ⟨e', h1, h2⟩ := h.2 p _ (List.getElem?_eq_getElem hp)
  have h0 : es[p]? = some es[p] := List.getElem?_eq_getElem hp
  unfold gI gFd
  rw [h1, h0]
  generalize es[p] = e at h2
  rcases e with ⟨t, n, f | f⟩ | ⟨c, vs⟩ <;> rcases e' with ⟨t', n', f' | f'⟩ | ⟨c', vs'⟩ <;> (try exact h2.elim)
  · rfl
  · rfl
  · have h3 := h2.2.2 b hm
    simp only [List.getD_eq_getElem?_getD, h3]
theorem mIn_free {P M : List aMod} (h : M.all (mFree P) = true) {p k lo hi i : Nat} (hp : (p, k, lo, hi) ∈ P) (h1 : lo ≤ i) (h2 : i < hi) : mIn M p k i = false := by
  rw [← Bool.not_eq_true]
  intro hm
  unfold mIn at hm
  rw [List.any_eq_true] at hm
  obtain ⟨m, hm1, hm2⟩ := hm
  have h3 := List.all_eq_true.mp h m hm1
  unfold mFree at h3
  have h4 := List.all_eq_true.mp h3 _ hp
  simp only [Bool.and_eq_true, beq_iff_eq, Nat.ble_eq, Nat.blt_eq] at hm2
  simp only [Bool.or_eq_true, Bool.not_eq_true', Bool.and_eq_false_iff, beq_eq_false_iff_ne, ne_eq, Nat.ble_eq] at h4
  omega
theorem tT_len : tT.length = 108 := by decide +kernel
theorem kci_congr {es es' : PH} (hg : gI es' 79 3 = gI es 79 3) (h : kcs (gA es 81) → kcs (gA es' 81)) (hk : kci es) : kci es' := by
  rcases hk with h1 | h1
  · exact Or.inl (by rw [hg]; exact h1)
  · exact Or.inr (h h1)
theorem gInv_cells {es es' : PH} (hl : es.length ≤ es'.length) (hg : gI es' 79 3 = gI es 79 3) (h : ∀ p i, p = 80 ∨ p = 81 → (i = 0 ∨ (13 ≤ i ∧ i < 49) ∨ (443 ≤ i ∧ i < 1284)) → gA es' p i = gA es p i) (hI : gInv es) : gInv es' := by
  obtain ⟨h1, h2, h3, h4, h5⟩ := hI
  refine ⟨Nat.le_trans h1 hl, wfT_congr (fun i a b => h 80 i (Or.inl rfl) (Or.inr (Or.inr ⟨a, b⟩))) h2, wfT_congr (fun i a b => h 81 i (Or.inr rfl) (Or.inr (Or.inr ⟨a, b⟩))) h3,
    kcs_congr (h 80 0 (Or.inl rfl) (Or.inl rfl)) (fun i a b => h 80 i (Or.inl rfl) (Or.inr (Or.inl ⟨a, b⟩))) h4, kci_congr hg (fun h5 => kcs_congr (h 81 0 (Or.inr rfl) (Or.inl rfl)) (fun i a b => h 81 i (Or.inr rfl) (Or.inr (Or.inl ⟨a, b⟩))) h5) h5⟩
theorem gInv_fr : ∀ M : List aMod, M.all (mFree gProt) = true → ∀ es es', fr M es es' → gInv es → gInv es' := by
  intro M hM es es' hf hI
  have hlen : 108 ≤ es.length := by have := hI.1; rw [tT_len] at this; exact this
  refine gInv_cells hf.1 (fr_field hf (by omega) (mIn_free hM (lo := 0) (hi := 1) (by decide) (by omega) (by omega))) (fun p i hp hi => ?_) hI
  refine fr_cell hf (by omega) ?_
  rcases hp with rfl | rfl <;> rcases hi with rfl | ⟨a, b⟩ | ⟨a, b⟩
  · exact mIn_free hM (lo := 0) (hi := 1) (by decide) (by omega) (by omega)
  · exact mIn_free hM (lo := 13) (hi := 49) (by decide) a b
  · exact mIn_free hM (lo := 443) (hi := 1284) (by decide) a b
  · exact mIn_free hM (lo := 0) (hi := 1) (by decide) (by omega) (by omega)
  · exact mIn_free hM (lo := 13) (hi := 49) (by decide) a b
  · exact mIn_free hM (lo := 443) (hi := 1284) (by decide) a b
theorem pO0_7 {xs : Nat → Int32} {n : Nat} (hn : n ≤ 3584) : ∀ m g, pO0 xs n 7 = some (m, g) → m < 2147483648 := by
  intro m g h
  unfold pO0 at h
  rw [if_pos rfl] at h
  cases h
  omega
theorem aWd_I {xs : Nat → Int32} {n : Nat} (hn : n ≤ 3584) : aWd (pO0 xs n) gInv := ⟨pO0_7 hn, gG_ok xs n, gInv_fr⟩
theorem aWd_T {xs : Nat → Int32} {n : Nat} (hn : n ≤ 3584) : aWd (pO0 xs n) (fun _ => True) := ⟨pO0_7 hn, gG_ok xs n, fun _ _ _ _ _ _ => trivial⟩
/-! off -/
theorem hm_off {O : pOut} {I : PH → Prop} : conOK O gG I kc_323 := by
  refine ⟨_, rfl, fun d hd ρ vs es hE hC hS hT hI hF => ?_⟩
  obtain ⟨v1, v2, v3, rfl, g1, g2, g3⟩ := gS3 hS
  obtain ⟨a1, rfl, i1, -, l1, u1⟩ := arg_i hE g1
  obtain ⟨a2, rfl, i2, -, l2, u2⟩ := arg_i hE g2
  obtain ⟨a3, rfl, i3, -, l3, u3⟩ := arg_i hE g3
  have b1 : 0 ≤ a1 ∧ a1 ≤ 35 := ⟨l1, u1⟩
  have b2 : -2 ≤ a2 ∧ a2 ≤ 2 := ⟨l2, u2⟩
  have b3 : -2 ≤ a3 ∧ a3 ≤ 2 := ⟨l3, u3⟩
  obtain ⟨d', rfl⟩ : ∃ d', d = d' + 1 := ⟨d - 1, by have : 1 ≤ d := hd; omega⟩
  have fin : ∀ a : Int, -1 ≤ a → a ≤ 35 → cPost O gG I kc_323 ρ es (.inl (some (.int (zI a))), es, 0, 0) := fun a h1 h2 =>
    post_int (c := kc_323) (lo := -1) (hi := 35) hE hT hI (fr_refl _ _) List.mem_cons_self (by unfold i32 iLO iHI; omega) h1 h2 (Nat.le_refl _) (Nat.le_refl _)
  exact s_off (d := d') (kc := 0) (ks := 0) (sh_of hT) b1 b2 b3 (fun _ => fin _ (by omega) (by omega)) (fun _ _ => fin _ (by omega) (by omega)) (fun _ _ _ => fin _ (by omega) (by omega)) (fun _ _ _ _ => fin _ (by omega) (by omega)) (fun _ _ _ _ => fin _ (by omega) (by omega))
