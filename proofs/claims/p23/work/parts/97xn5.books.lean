/-! printed by wip/rel/notes.py -/
/-! the BOOKs of both sides -/
theorem blk98 {b c s t : Nat} (h : 98 * b + s = 98 * c + t) (hs : s < 98) (ht : t < 98) : b = c ∧ s = t := by
  have h1 : b = c := by omega
  exact ⟨h1, by omega⟩
def bkT (a12 a13 a14 w : Nat → Int32) (nb : Int) : Prop := ∀ b : Nat, b < 3 → (b : Int) < nb → a12 b = w (119 + 98 * b) ∧ a13 b = w (119 + 98 * b + 1) ∧ ∀ j : Nat, j < 24 → (j : Int) < (a13 b).toInt → ∀ q, q < 4 → a14 (96 * b + 4 * j + q) = w (119 + 98 * b + 2 + 4 * j + q)
section
variable {a12 a13 a14 w a12' a13' a14' w' : Nat → Int32} {nb : Int}
theorem bkT_c (h : bkT a12 a13 a14 w nb) (h12 : ∀ k, k < 3 → a12' k = a12 k) (h13 : ∀ k, k < 3 → a13' k = a13 k) (h14 : ∀ k, k < 288 → a14' k = a14 k) (hw : ∀ k, 119 ≤ k → k < 413 → w' k = w k) : bkT a12' a13' a14' w' nb := by
  intro b hb hn
  obtain ⟨h1, h2, h3⟩ := h b hb hn
  refine ⟨by rw [h12 b hb, hw _ (by omega) (by omega)]; exact h1, by rw [h13 b hb, hw _ (by omega) (by omega)]; exact h2, fun j hj hjn q hq => ?_⟩
  rw [h13 b hb] at hjn
  rw [h14 _ (by omega), hw _ (by omega) (by omega)]
  exact h3 j hj hjn q hq
theorem bkT_note {bk V kd fr fi ra : Int} (h : bkT a12 a13 a14 w nb) (hbk : 0 ≤ bk ∧ bk ≤ 2) (hV : 0 ≤ V ∧ V ≤ 23) (hc : (a13 bk.toNat).toInt = V) (h12 : ∀ k, k < 3 → a12' k = a12 k) (h13 : ∀ k, k < 3 → a13' k = upd a13 bk.toNat (zI (V + 1)) k) (h14 : ∀ k, k < 288 → a14' k = upd (upd (upd (upd a14 (((bk * 24) + V) * 4).toNat (zI kd)) ((((bk * 24) + V) * 4) + 1).toNat (zI fr)) ((((bk * 24) + V) * 4) + 2).toNat (zI fi)) ((((bk * 24) + V) * 4) + 3).toNat (zI ra) k) (hw : ∀ k, 119 ≤ k → k < 413 → w' k = upd (upd (upd (upd (upd w (((119 + (98 * bk)) + 2) + (4 * V)).toNat (zI kd)) ((((119 + (98 * bk)) + 2) + (4 * V)) + 1).toNat (zI fr)) ((((119 + (98 * bk)) + 2) + (4 * V)) + 2).toNat (zI fi)) ((((119 + (98 * bk)) + 2) + (4 * V)) + 3).toNat (zI ra)) ((119 + (98 * bk)) + 1).toNat (zI (V + 1)) k) : bkT a12' a13' a14' w' nb := by
  obtain ⟨c, hcb⟩ : ∃ c : Nat, bk = (c : Int) := ⟨bk.toNat, by omega⟩
  obtain ⟨v, hv⟩ : ∃ v : Nat, V = (v : Int) := ⟨V.toNat, by omega⟩
  have e0 : bk.toNat = c := by omega
  rw [e0] at hc h13
  rw [show (((bk * 24) + V) * 4).toNat = 96 * c + 4 * v by omega, show ((((bk * 24) + V) * 4) + 1).toNat = 96 * c + 4 * v + 1 by omega, show ((((bk * 24) + V) * 4) + 2).toNat = 96 * c + 4 * v + 2 by omega, show ((((bk * 24) + V) * 4) + 3).toNat = 96 * c + 4 * v + 3 by omega] at h14
  rw [show (((119 + (98 * bk)) + 2) + (4 * V)).toNat = 119 + 98 * c + 2 + 4 * v by omega, show ((((119 + (98 * bk)) + 2) + (4 * V)) + 1).toNat = 119 + 98 * c + 2 + 4 * v + 1 by omega, show ((((119 + (98 * bk)) + 2) + (4 * V)) + 2).toNat = 119 + 98 * c + 2 + 4 * v + 2 by omega, show ((((119 + (98 * bk)) + 2) + (4 * V)) + 3).toNat = 119 + 98 * c + 2 + 4 * v + 3 by omega, show ((119 + (98 * bk)) + 1).toNat = 119 + 98 * c + 1 by omega] at hw
  unfold upd at h13 h14 hw
  intro b hb hn
  obtain ⟨h1, h2, h3⟩ := h b hb hn
  by_cases e : b = c
  · refine ⟨?_, ?_, fun j hj hjn q hq => ?_⟩
    · rw [h12 b hb, hw _ (by omega) (by omega), if_neg (by omega), if_neg (by omega), if_neg (by omega), if_neg (by omega), if_neg (by omega)]
      exact h1
    · rw [h13 b hb, hw _ (by omega) (by omega), if_pos e, if_pos (by omega)]
    · rw [h13 b hb, if_pos e, zI_toInt (by unfold i32 iLO iHI; omega)] at hjn
      by_cases ej : j = v
      · rw [h14 _ (by omega), hw _ (by omega) (by omega), if_neg (show ¬ (119 + 98 * b + 2 + 4 * j + q = 119 + 98 * c + 1) by omega)]
        match q, hq with
        | 0, _ => rw [if_neg (by omega), if_neg (by omega), if_neg (by omega), if_pos (by omega), if_neg (by omega), if_neg (by omega), if_neg (by omega), if_pos (by omega)]
        | 1, _ => rw [if_neg (by omega), if_neg (by omega), if_pos (by omega), if_neg (by omega), if_neg (by omega), if_pos (by omega)]
        | 2, _ => rw [if_neg (by omega), if_pos (by omega), if_neg (by omega), if_pos (by omega)]
        | 3, _ => rw [if_pos (by omega), if_pos (by omega)]
        | q + 4, h => omega
      · rw [h14 _ (by omega), hw _ (by omega) (by omega), if_neg (by omega), if_neg (by omega), if_neg (by omega), if_neg (by omega), if_neg (by omega), if_neg (by omega), if_neg (by omega), if_neg (by omega), if_neg (by omega)]
        exact h3 j hj (by rw [e, hc]; omega) q hq
  · refine ⟨?_, ?_, fun j hj hjn q hq => ?_⟩
    · rw [h12 b hb, hw _ (by omega) (by omega), if_neg (by omega), if_neg (by omega), if_neg (by omega), if_neg (by omega), if_neg (by omega)]
      exact h1
    · rw [h13 b hb, hw _ (by omega) (by omega), if_neg e, if_neg (by omega), if_neg (by omega), if_neg (by omega), if_neg (by omega), if_neg (by omega)]
      exact h2
    · rw [h13 b hb, if_neg e] at hjn
      rw [h14 _ (by omega), hw _ (by omega) (by omega), if_neg (by omega), if_neg (by omega), if_neg (by omega), if_neg (by omega), if_neg (by omega), if_neg (by omega), if_neg (by omega), if_neg (by omega), if_neg (by omega)]
      exact h3 j hj hjn q hq
theorem bkT_change {bk V kd fr fi ra : Int} (h : bkT a12 a13 a14 w nb) (hbk : 0 ≤ bk ∧ bk ≤ 2) (hV : 0 ≤ V ∧ V ≤ 23) (h12 : ∀ k, k < 3 → a12' k = a12 k) (h13 : ∀ k, k < 3 → a13' k = a13 k) (h14 : ∀ k, k < 288 → a14' k = upd (upd (upd (upd a14 (((bk * 24) + V) * 4).toNat (zI kd)) ((((bk * 24) + V) * 4) + 1).toNat (zI fr)) ((((bk * 24) + V) * 4) + 2).toNat (zI fi)) ((((bk * 24) + V) * 4) + 3).toNat (zI ra) k) (hw : ∀ k, 119 ≤ k → k < 413 → w' k = upd (upd (upd (upd w (((119 + (98 * bk)) + 2) + (4 * V)).toNat (zI kd)) ((((119 + (98 * bk)) + 2) + (4 * V)) + 1).toNat (zI fr)) ((((119 + (98 * bk)) + 2) + (4 * V)) + 2).toNat (zI fi)) ((((119 + (98 * bk)) + 2) + (4 * V)) + 3).toNat (zI ra) k) : bkT a12' a13' a14' w' nb := by
  obtain ⟨c, hcb⟩ : ∃ c : Nat, bk = (c : Int) := ⟨bk.toNat, by omega⟩
  obtain ⟨v, hv⟩ : ∃ v : Nat, V = (v : Int) := ⟨V.toNat, by omega⟩
  rw [show (((bk * 24) + V) * 4).toNat = 96 * c + 4 * v by omega, show ((((bk * 24) + V) * 4) + 1).toNat = 96 * c + 4 * v + 1 by omega, show ((((bk * 24) + V) * 4) + 2).toNat = 96 * c + 4 * v + 2 by omega, show ((((bk * 24) + V) * 4) + 3).toNat = 96 * c + 4 * v + 3 by omega] at h14
  rw [show (((119 + (98 * bk)) + 2) + (4 * V)).toNat = 119 + 98 * c + 2 + 4 * v by omega, show ((((119 + (98 * bk)) + 2) + (4 * V)) + 1).toNat = 119 + 98 * c + 2 + 4 * v + 1 by omega, show ((((119 + (98 * bk)) + 2) + (4 * V)) + 2).toNat = 119 + 98 * c + 2 + 4 * v + 2 by omega, show ((((119 + (98 * bk)) + 2) + (4 * V)) + 3).toNat = 119 + 98 * c + 2 + 4 * v + 3 by omega] at hw
  unfold upd at h14 hw
  intro b hb hn
  obtain ⟨h1, h2, h3⟩ := h b hb hn
  refine ⟨?_, ?_, fun j hj hjn q hq => ?_⟩
  · rw [h12 b hb, hw _ (by omega) (by omega), if_neg (by omega), if_neg (by omega), if_neg (by omega), if_neg (by omega)]
    exact h1
  · rw [h13 b hb, hw _ (by omega) (by omega), if_neg (by omega), if_neg (by omega), if_neg (by omega), if_neg (by omega)]
    exact h2
  · rw [h13 b hb] at hjn
    by_cases ej : b = c ∧ j = v
    · obtain ⟨e1, e2⟩ := ej
      rw [h14 _ (by omega), hw _ (by omega) (by omega)]
      match q, hq with
      | 0, _ => rw [if_neg (by omega), if_neg (by omega), if_neg (by omega), if_pos (by omega), if_neg (by omega), if_neg (by omega), if_neg (by omega), if_pos (by omega)]
      | 1, _ => rw [if_neg (by omega), if_neg (by omega), if_pos (by omega), if_neg (by omega), if_neg (by omega), if_pos (by omega)]
      | 2, _ => rw [if_neg (by omega), if_pos (by omega), if_neg (by omega), if_pos (by omega)]
      | 3, _ => rw [if_pos (by omega), if_pos (by omega)]
      | q + 4, h => omega
    · have key : ∀ r, r < 4 → ¬ (119 + 98 * b + 2 + 4 * j + q = 119 + 98 * c + 2 + 4 * v + r) := fun r hr he => by
        have h9 := blk98 (b := b) (c := c) (s := 2 + 4 * j + q) (t := 2 + 4 * v + r) (by omega) (by omega) (by omega)
        exact ej ⟨h9.1, by omega⟩
      rw [h14 _ (by omega), hw _ (by omega) (by omega), if_neg (by omega), if_neg (by omega), if_neg (by omega), if_neg (by omega), if_neg (key 3 (by omega)), if_neg (key 2 (by omega)), if_neg (key 1 (by omega)), if_neg (show ¬ (119 + 98 * b + 2 + 4 * j + q = 119 + 98 * c + 2 + 4 * v) from key 0 (by omega))]
      exact h3 j hj hjn q hq
/-- a BOOK more, with no NOTES -/
theorem bkT_book {x : Int} (h : bkT a12 a13 a14 w nb) (h0 : 0 ≤ nb ∧ nb ≤ 2) (h12 : ∀ k, k < 3 → a12' k = upd a12 nb.toNat (zI x) k) (h13 : ∀ k, k < 3 → a13' k = upd a13 nb.toNat (zI 0) k) (h14 : ∀ k, k < 288 → a14' k = a14 k) (hw : ∀ k, 119 ≤ k → k < 413 → w' k = upd (upd w (119 + (98 * nb)).toNat (zI x)) ((119 + (98 * nb)) + 1).toNat (zI 0) k) : bkT a12' a13' a14' w' (nb + 1) := by
  obtain ⟨c, hcb⟩ : ∃ c : Nat, nb = (c : Int) := ⟨nb.toNat, by omega⟩
  rw [show nb.toNat = c by omega] at h12 h13
  rw [show (119 + (98 * nb)).toNat = 119 + 98 * c by omega, show ((119 + (98 * nb)) + 1).toNat = 119 + 98 * c + 1 by omega] at hw
  unfold upd at h12 h13 hw
  intro b hb hn
  by_cases e : b = c
  · refine ⟨?_, ?_, fun j hj hjn q hq => ?_⟩
    · rw [h12 b hb, hw _ (by omega) (by omega), if_pos e, if_neg (by omega), if_pos (by omega)]
    · rw [h13 b hb, hw _ (by omega) (by omega), if_pos e, if_pos (by omega)]
    · rw [h13 b hb, if_pos e] at hjn
      exact absurd (show (j : Int) < 0 from hjn) (by omega)
  · obtain ⟨h1, h2, h3⟩ := h b hb (by omega)
    refine ⟨?_, ?_, fun j hj hjn q hq => ?_⟩
    · rw [h12 b hb, hw _ (by omega) (by omega), if_neg e, if_neg (by omega), if_neg (by omega)]
      exact h1
    · rw [h13 b hb, hw _ (by omega) (by omega), if_neg e, if_neg (by omega), if_neg (by omega)]
      exact h2
    · rw [h13 b hb, if_neg e] at hjn
      rw [h14 _ (by omega), hw _ (by omega) (by omega), if_neg (by omega), if_neg (by omega)]
      exact h3 j hj hjn q hq
/-- a BOOK more, with the NOTES l -/
theorem bkT_write {x : Int} {c : Nat} {l : List (Int × Int × Int)} (h : bkT a12 a13 a14 w nb) (hcb : nb = (c : Int)) (hc : c ≤ 2) (hl : l.length ≤ 24) (h12 : ∀ i, a12' i = if i = c then zI x else a12 i) (h13c : (a13' c).toInt = (l.length : Int)) (h13 : ∀ i, i ≠ c → a13' i = a13 i) (hn : ∀ (j : Nat) (y : Int × Int × Int), l[j]? = some y → ntC a14' c j y) (h14 : ∀ i, ¬ (96 * c ≤ i ∧ i < 96 * c + 96) → a14' i = a14 i) (w0 : w' (119 + 98 * c) = zI x) (w1 : (w' (119 + 98 * c + 1)).toInt = (l.length : Int)) (wn : ∀ (j : Nat) (y : Int × Int × Int), l[j]? = some y → ntR w' c j y) (hw : ∀ i, 119 ≤ i → i < 413 → ¬ (119 + 98 * c ≤ i ∧ i < 119 + 98 * c + 98) → w' i = w i) : bkT a12' a13' a14' w' (nb + 1) := by
  intro b hb hbn
  by_cases e : b = c
  · subst e
    refine ⟨by rw [h12, if_pos rfl, w0], Int32.toInt_inj.mp (by rw [h13c, w1]), fun j hj hjn q hq => ?_⟩
    rw [h13c] at hjn
    have hjl : j < l.length := by omega
    have hy : l[j]? = some l[j] := List.getElem?_eq_getElem hjl
    obtain ⟨c1, c2, c3, c4⟩ := hn j _ hy
    obtain ⟨r1, r2, r3, r4⟩ := wn j _ hy
    apply Int32.toInt_inj.mp
    match q, hq with
    | 0, _ => exact c1.trans r1.symm
    | 1, _ =>
      rw [show 119 + 98 * b + 2 + 4 * j + 1 = 119 + 98 * b + 3 + 4 * j by omega]
      exact c2.trans r2.symm
    | 2, _ =>
      rw [show 119 + 98 * b + 2 + 4 * j + 2 = 119 + 98 * b + 4 + 4 * j by omega]
      exact c3.trans r3.symm
    | 3, _ =>
      rw [show 119 + 98 * b + 2 + 4 * j + 3 = 119 + 98 * b + 5 + 4 * j by omega]
      exact c4.trans r4.symm
    | q + 4, h => omega
  · obtain ⟨h1, h2, h3⟩ := h b hb (by omega)
    refine ⟨?_, ?_, fun j hj hjn q hq => ?_⟩
    · rw [h12, if_neg e, hw _ (by omega) (by omega) (by omega)]
      exact h1
    · rw [h13 b e, hw _ (by omega) (by omega) (by omega)]
      exact h2
    · rw [h13 b e] at hjn
      rw [h14 _ (by omega), hw _ (by omega) (by omega) (by omega)]
      exact h3 j hj hjn q hq
end
theorem cnt_bd {es : PH} {bk : Int} (hT : hOK tT es) (h0 : 0 ≤ bk) (h1 : bk ≤ 2) : (0 : Int) ≤ (gA es 80 ((119 + (98 * bk)) + 1).toNat).toInt ∧ (gA es 80 ((119 + (98 * bk)) + 1).toNat).toInt ≤ (24 : Int) := by
  have h := gA_bd hT (p := 80) (t := 0) (n := 2125) (sp := tS80) (k := 119 + 98 * bk.toNat + 1) rfl (by omega) (by decide)
  rw [tS80_cn bk.toNat (by omega)] at h
  rw [show ((119 + (98 * bk)) + 1).toNat = 119 + 98 * bk.toNat + 1 by omega]
  exact h
