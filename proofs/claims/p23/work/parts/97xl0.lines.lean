/-! what both sides keep of the KINDs' LINES and of START -/
/-- a LINE: c f of the class, s m of the reference -/
def lnR (c f s m : Int) : Prop := c = -12 - s ∧ (0 ≤ s ∧ s ≤ 4) ∧ ((2 < s ∧ f = 1) ∨ (s ≤ 2 ∧ f = m ∧ 1 ≤ m ∧ m ≤ 5))
/-- the KINDs' LINES: a how many, b the LINES of the class; w the world -/
def lnT (a b w : Nat → Int32) : Prop := ∀ k, k < 5 → (a k).toInt = (w (49 + 14 * k + 1)).toInt ∧ (0 ≤ (a k).toInt ∧ (a k).toInt ≤ 6) ∧ ∀ n : Nat, (n : Int) < (a k).toInt → lnR (b (12 * k + 2 * n)).toInt (b (12 * k + 2 * n + 1)).toInt (w (49 + 14 * k + 2 + 2 * n)).toInt (w (49 + 14 * k + 3 + 2 * n)).toInt
theorem lnT_c {a b w a' b' w' : Nat → Int32} (h : lnT a b w) (ha : ∀ k, k < 5 → a' k = a k) (hb : ∀ k, k < 60 → b' k = b k) (hw : ∀ k, 49 ≤ k → k < 119 → w' k = w k) : lnT a' b' w' := by
  intro k hk
  obtain ⟨h1, h2, h3⟩ := h k hk
  rw [ha k hk]
  refine ⟨by rw [hw _ (by omega) (by omega)]; exact h1, h2, fun n hn => ?_⟩
  rw [hb _ (by omega), hb _ (by omega), hw _ (by omega) (by omega), hw _ (by omega) (by omega)]
  exact h3 n hn
/-- one KIND more -/
theorem lnT_n {a b w a' b' w' : Nat → Int32} {q : Nat} (h : lnT a b w) (ha : ∀ k, k < 5 → k ≠ q → a' k = a k) (hb : ∀ k, k < 60 → ¬ (12 * q ≤ k ∧ k < 12 * q + 12) → b' k = b k) (hw : ∀ k, 49 ≤ k → k < 119 → ¬ (49 + 14 * q ≤ k ∧ k < 49 + 14 * q + 14) → w' k = w k) {l : List (Int × Int)} (hl : l.length ≤ 6) (h1 : (a' q).toInt = (l.length : Int)) (h2 : (w' (49 + 14 * q + 1)).toInt = (l.length : Int)) (h3 : ∀ (n : Nat) (x : Int × Int), l[n]? = some x → lnR (b' (12 * q + 2 * n)).toInt (b' (12 * q + 2 * n + 1)).toInt (w' (49 + 14 * q + 2 + 2 * n)).toInt (w' (49 + 14 * q + 3 + 2 * n)).toInt) : lnT a' b' w' := by
  intro k hk
  by_cases hq : k = q
  · subst hq
    refine ⟨by rw [h1, h2], ⟨by omega, by omega⟩, fun n hn => ?_⟩
    have hn2 : n < l.length := by omega
    exact h3 n (l[n]) (List.getElem?_eq_getElem hn2)
  · obtain ⟨g1, g2, g3⟩ := h k hk
    rw [ha k hk hq]
    refine ⟨by rw [hw _ (by omega) (by omega) (by omega)]; exact g1, g2, fun n hn => ?_⟩
    rw [hb _ (by omega) (by omega), hb _ (by omega) (by omega), hw _ (by omega) (by omega) (by omega), hw _ (by omega) (by omega) (by omega)]
    exact g3 n hn
/-- START: the class's men are one more -/
def stT (a w : Nat → Int32) : Prop := ∀ s, s < 36 → (a s).toInt = (w (13 + s)).toInt + 1
theorem stT_c {a w a' w' : Nat → Int32} (h : stT a w) (ha : ∀ k, k < 36 → a' k = a k) (hw : ∀ k, 13 ≤ k → k < 49 → w' k = w k) : stT a' w' := by
  intro s hs
  rw [ha s hs, hw _ (by omega) (by omega)]
  exact h s hs
theorem stT_u {a w a' w' : Nat → Int32} {q : Int} {x y : Int} (h : stT a w) (h0 : 0 ≤ q) (h1 : q ≤ 35) (hx : x = y + 1) (hy : -1 ≤ y ∧ y ≤ 9) (ha : ∀ k, k < 36 → a' k = upd a q.toNat (zI x) k) (hw : ∀ k, 13 ≤ k → k < 49 → w' k = upd w (13 + q).toNat (zI y) k) : stT a' w' := by
  intro s hs
  rw [ha s hs, hw _ (by omega) (by omega)]
  unfold upd
  by_cases e : s = q.toNat
  · rw [if_pos e, if_pos (by omega), zI_toInt (by unfold i32 iLO iHI; omega), zI_toInt (by unfold i32 iLO iHI; omega)]
    exact hx
  · rw [if_neg e, if_neg (by omega)]
    exact h s hs
/-! what the LINES of a world are -/
def zKw (a b w : Nat → Int32) (k : Nat) : Nat × (Nat → Int × Nat) := ((a k).toInt.toNat, fun n => ((w (49 + 14 * k + 2 + 2 * n)).toInt, (b (12 * k + 2 * n + 1)).toInt.toNat))
theorem kdC_of {es : PH} {p q : Nat} {w : Nat → Int32} (h : lnT (gA es p) (gA es q) w) : kdC (zKw (gA es p) (gA es q) w) p q es := by
  intro k hk
  obtain ⟨h1, h2, h3⟩ := h k hk
  refine ⟨?_, ?_, fun n hn => ?_⟩
  · show (gA es p k).toInt = (((gA es p k).toInt.toNat : Nat) : Int)
    omega
  · show (gA es p k).toInt.toNat ≤ 6
    omega
  · have hn' : n < (gA es p k).toInt.toNat := hn
    obtain ⟨g1, g2, g3⟩ := h3 n (by omega)
    refine ⟨g1, ?_, g2.1, g2.2, ?_⟩
    · show (gA es q (12 * k + 2 * n + 1)).toInt = (((gA es q (12 * k + 2 * n + 1)).toInt.toNat : Nat) : Int)
      omega
    · show (gA es q (12 * k + 2 * n + 1)).toInt.toNat ≤ 5
      omega
theorem kdR_of {a b w w' : Nat → Int32} (h : lnT a b w) (hw : ∀ k, 49 ≤ k → k < 119 → w' k = w k) : kdR (zKw a b w) w' := by
  intro k hk
  obtain ⟨h1, h2, h3⟩ := h k hk
  refine ⟨?_, ?_, fun n hn => ?_⟩
  · rw [hw _ (by omega) (by omega), ← h1]
    show (a k).toInt = (((a k).toInt.toNat : Nat) : Int)
    omega
  · show (a k).toInt.toNat ≤ 6
    omega
  · have hn' : n < (a k).toInt.toNat := hn
    obtain ⟨g1, g2, g3⟩ := h3 n (by omega)
    rw [hw _ (by omega) (by omega), hw _ (by omega) (by omega)]
    refine ⟨rfl, g2, ?_⟩
    show (b (12 * k + 2 * n + 1)).toInt.toNat = if (w (49 + 14 * k + 2 + 2 * n)).toInt = 3 ∨ (w (49 + 14 * k + 2 + 2 * n)).toInt = 4 then 1 else (w (49 + 14 * k + 3 + 2 * n)).toInt.toNat
    rcases g3 with ⟨g4, g5⟩ | ⟨g4, g5, -⟩
    · rw [if_pos (by omega), g5]; rfl
    · rw [if_neg (by omega), g5]
theorem tS80_st : ∀ s, s < 36 → tS80 (13 + s) = (-1, 9) := by decide +kernel
