/-! laysAll: what holds at the loop, and its end -/
def frA : List aMod := [(79, 27, 0, 1), (79, 28, 0, 1), (79, 29, 0, 1), (79, 30, 0, 1), (79, 31, 0, 1), (79, 39, 0, 1), (79, 43, 0, 1), (79, 44, 0, 1), (79, 45, 0, 1), (79, 46, 0, 1), (91, 0, 0, 31), (92, 0, 0, 2232), (93, 0, 0, 2232), (94, 0, 0, 2325), (95, 0, 0, 31), (96, 0, 0, 24), (97, 0, 0, 24), (98, 0, 0, 30), (99, 0, 0, 30), (100, 0, 0, 30), (101, 0, 0, 31), (85, 0, 0, 6), (86, 0, 0, 400), (87, 0, 0, 1116), (88, 0, 0, 40176)]
def FST (E : Ev) (pr : Int) (es : PH) : Prop := ∃ L : Nat, (gI es 79 41).toInt = (L : Int) ∧ L ≤ 30 ∧ rchE E (fst98 es) L ∧ metE E pr (fst98 es) L
def DN (E : Ev) (es : PH) (P : Nat → Nat) (L : Nat) : Prop := 0 < (gI es 79 37).toInt ∧ 0 < (gJ es 96 (whF E P L).toNat).toInt
/-- what holds whatever the depth is -/
def LB (E : Ev) (pr : Int) (es0 es : PH) : Prop := hOK tT es ∧ fr frA es0 es ∧ evE es = E ∧ (0 ≤ (gI es 79 27).toInt ∧ (gI es 79 27).toInt ≤ 8001) ∧ ((gI es 79 29).toInt = 0 → (gI es 79 27).toInt ≤ 8000) ∧ (0 ≤ (gI es 79 37).toInt ∧ (gI es 79 37).toInt ≤ (gI es 79 27).toInt) ∧ ((gI es 79 37).toInt = 0 ∨ FST E pr es) ∧ (∀ k, k < 24 → 0 ≤ (gJ es 96 k).toInt ∧ (gJ es 96 k).toInt ≤ (gI es 79 27).toInt)
section
variable {E : Ev} {pr : Int} {es0 es : PH}
theorem LB.hT (h : LB E pr es0 es) : hOK tT es := h.1
theorem LB.hf (h : LB E pr es0 es) : fr frA es0 es := h.2.1
theorem LB.hE (h : LB E pr es0 es) : evE es = E := h.2.2.1
theorem LB.pos (h : LB E pr es0 es) : 0 ≤ (gI es 79 27).toInt ∧ (gI es 79 27).toInt ≤ 8001 := h.2.2.2.1
theorem LB.spent (h : LB E pr es0 es) : (gI es 79 29).toInt = 0 → (gI es 79 27).toInt ≤ 8000 := h.2.2.2.2.1
theorem LB.fnd (h : LB E pr es0 es) : 0 ≤ (gI es 79 37).toInt ∧ (gI es 79 37).toInt ≤ (gI es 79 27).toInt := h.2.2.2.2.2.1
theorem LB.first (h : LB E pr es0 es) : (gI es 79 37).toInt = 0 ∨ FST E pr es := h.2.2.2.2.2.2.1
theorem LB.many (h : LB E pr es0 es) : ∀ k, k < 24 → 0 ≤ (gJ es 96 k).toInt ∧ (gJ es 96 k).toInt ≤ (gI es 79 27).toInt := h.2.2.2.2.2.2.2
end
def LV (E : Ev) (es : PH) (k : Nat) : Prop := rwsAt E (pth es) es k ∧ crow es k = caE E (pth es) k ∧ (¬ goE E (pth es) k → (gA es 95 k).toInt = 1296)
def LI (E : Ev) (pr : Int) (es0 es : PH) (dp : Int) : Prop := LB E pr es0 es ∧ (∀ k : Nat, (k : Int) ≤ dp → LV E es k) ∧ rchE E (pth es) dp.toNat ∧
  (∀ Pt L, L ≤ 30 → rchE E Pt L → metE E pr Pt L → DN E es Pt L ∨ (∃ j : Nat, (j : Int) ≤ dp ∧ j < L ∧ (∀ i, i < j → Pt i = pth es i) ∧ (gA es 95 j).toInt ≤ (Pt j : Int)))
section
variable {E : Ev} {pr dp : Int} {es0 es : PH}
theorem LI.bs (h : LI E pr es0 es dp) : LB E pr es0 es := h.1
theorem LI.rows (h : LI E pr es0 es dp) : ∀ k : Nat, (k : Int) ≤ dp → LV E es k := h.2.1
theorem LI.below (h : LI E pr es0 es dp) : rchE E (pth es) dp.toNat := h.2.2.1
theorem LI.compl (h : LI E pr es0 es dp) : ∀ Pt L, L ≤ 30 → rchE E Pt L → metE E pr Pt L → DN E es Pt L ∨ (∃ j : Nat, (j : Int) ≤ dp ∧ j < L ∧ (∀ i, i < j → Pt i = pth es i) ∧ (gA es 95 j).toInt ≤ (Pt j : Int)) := h.2.2.2
end
theorem i64_succ {x : Int64} (h0 : 0 ≤ x.toInt) (h1 : x.toInt ≤ 100000) : (x + 1).toInt = x.toInt + 1 := by
  rw [Int64.toInt_add]
  rw [show (1 : Int64).toInt = 1 from rfl]
  exact Int.bmod_eq_of_le (by omega) (by omega)
section
variable {O : pOut} {d kc ks : Nat} {Q : pRes → Prop} {es es0 : PH} {pr : Int} {E : Ev}
theorem LV_keep {es' : PH} {m k : Nat} (hs : sh es) (hf : fr (frL m) es es') (hk : k < m) (hm : m ≤ 30) (h : LV E es k) : LV E es' k := by
  have hp : pth es' = pth es := by
    funext i; unfold pth
    rw [fr_row hf hs (p := 91) (t := 0) (n := 31) rfl (by decide) (fun k => by simp only [frL, mHq, true_and, and_true, false_and, and_false, or_false, false_or, not_false_eq_true, Nat.reduceEqDiff] <;> omega)]
  obtain ⟨⟨h1, h2⟩, h3, h4⟩ := h
  unfold LV rwsAt
  rw [hp]
  refine ⟨⟨?_, fun b n hb ha hn => ?_⟩, ?_, fun hg => ?_⟩
  · rw [← h1]; funext i; unfold brow
    rw [fr_row hf hs (p := 87) (t := 0) (n := 1116) rfl (by decide) (fun k => by simp only [frL, mHq, true_and, and_true, false_and, and_false, or_false, false_or, not_false_eq_true, Nat.reduceEqDiff] <;> omega)]
  · rw [← h2 b n hb ha hn]; unfold smS
    rw [fr_row hf hs (p := 94) (t := 0) (n := 2325) rfl (by decide) (fun k => by simp only [frL, mHq, true_and, and_true, false_and, and_false, or_false, false_or, not_false_eq_true, Nat.reduceEqDiff] <;> omega)]
  · rw [← h3]; funext i; unfold crow
    by_cases hi : i < 1296
    · rw [if_pos hi, if_pos hi, fr_at hf hs (p := 88) (t := 3) (n := 40176) rfl (by decide) (by simp only [frL, mHq, true_and, and_true, false_and, and_false, or_false, false_or, not_false_eq_true, Nat.reduceEqDiff] <;> omega)]
    · rw [if_neg hi, if_neg hi]
  · rw [fr_at hf hs (p := 95) (t := 0) (n := 31) rfl (by decide) (by simp only [frL, mHq, true_and, and_true, false_and, and_false, or_false, false_or, not_false_eq_true, Nat.reduceEqDiff] <;> omega)]
    exact h4 hg
/-- lays makes the next level -/
theorem LI_lays {es' : PH} {m : Nat} (hm : m ≤ 30) (hp : 0 ≤ pr ∧ pr ≤ 22) (hb : LB E pr es0 es) (hn : (gI es 79 29).toInt = 0) (hr : ∀ k, k < m → LV E es k) (hrm : rwsAt E (pth es) es m) (h26 : (gI es 79 26).toInt = whF E (pth es) m) (hbl : rchE E (pth es) m)
    (hc : ∀ Pt L, L ≤ 30 → rchE E Pt L → metE E pr Pt L → DN E es Pt L ∨ (∃ j : Nat, j < m ∧ j < L ∧ (∀ i, i < j → Pt i = pth es i) ∧ (gA es 95 j).toInt ≤ (Pt j : Int)) ∨ (m ≤ L ∧ ∀ i, i < m → Pt i = pth es i)) (hL : laysN m pr es es') : LI E pr es0 es' m ∧ (gI es' 79 27).toInt = (gI es 79 27).toInt + 1 := by
  obtain ⟨l1, l2, l3, l4, l5, l6, l7, l8, l9⟩ := hL
  have hs := sh_of hb.hT
  have hW : gA es 80 = E.W := by rw [← hb.hE]; rfl
  have hz : (gI es 79 30).toInt = E.fz := by rw [← hb.hE]; rfl
  have hpp : pth es' = pth es := by
    funext i; unfold pth
    rw [fr_row l3 hs (p := 91) (t := 0) (n := 31) rfl (by decide) (fun k => by simp only [frL, mHq, true_and, and_true, false_and, and_false, or_false, false_or, not_false_eq_true, Nat.reduceEqDiff] <;> omega)]
  have hB : brow es' m = bdF E.W (pth es) m := by
    rw [← hrm.1]; funext i; unfold brow
    rw [fr_row l3 hs (p := 87) (t := 0) (n := 1116) rfl (by decide) (fun k => by simp only [frL, mHq, true_and, and_true, false_and, and_false, or_false, false_or, not_false_eq_true, Nat.reduceEqDiff] <;> omega)]
  rw [hW, hrm.1] at l6
  rw [hW, hrm.1, hz] at l7
  have hmet : metD m pr es ↔ metE E pr (pth es) m := by
    unfold metD metE
    rw [h26, hW, hz, hrm.1]
  have hwb : 0 ≤ (gI es 79 26).toInt ∧ (gI es 79 26).toInt ≤ 3000 := gI_bd hb.hT (p := 79) (b := 26) rfl rfl
  have hpos := hb.spent hn
  have hpos2 := hb.pos
  have hfnd := hb.fnd
  have hmany := hb.many
  have fm : fr frA es es' := fr_wk (by simp only [mAl, frL, frA, mHq, true_and, and_true, false_and, and_false, or_false, false_or, not_false_eq_true, Nat.reduceEqDiff] <;> (repeat' apply And.intro) <;> intros <;> omega) l3
  have hmany' : ∀ k, k < 24 → (gJ es 96 k).toInt ≤ (gJ es' 96 k).toInt ∧ (gJ es' 96 k).toInt ≤ (gJ es 96 k).toInt + 1 ∧ (metD m pr es → k = (gI es 79 26).toInt.toNat → (gJ es' 96 k).toInt = (gJ es 96 k).toInt + 1) := by
    intro k hk
    have hk2 := hmany k hk
    by_cases hy : metD m pr es
    · obtain ⟨r1, r2, -⟩ := l9 hy
      rw [r2 k]
      split
      · rename_i hkw
        rw [i64_succ hk2.1 (by omega)]
        exact ⟨by omega, by omega, fun _ _ => rfl⟩
      · rename_i hkw
        exact ⟨by omega, by omega, fun _ h => absurd h hkw⟩
    · obtain ⟨r1, r2, -⟩ := l8 hy
      rw [r2 k]
      exact ⟨by omega, by omega, fun h => absurd h hy⟩
  have hfnd' : (gI es 79 37).toInt ≤ (gI es' 79 37).toInt ∧ (gI es' 79 37).toInt ≤ (gI es 79 37).toInt + 1 := by
    by_cases hy : metD m pr es
    · have := (l9 hy).1; omega
    · have := (l8 hy).1; rw [this]; omega
  have dnk : ∀ Pt L, metE E pr Pt L → DN E es Pt L → DN E es' Pt L := by
    intro Pt L hmt hd
    have hwb2 : (whF E Pt L).toNat < 24 := by have := hmt.1; omega
    have := (hmany' _ hwb2).1
    exact ⟨by have := hd.1; omega, by have := hd.2; omega⟩
  refine ⟨⟨⟨l2, fr_trans hb.hf fm, ?_, ?_, ?_, ?_, ?_, ?_⟩, ?_, ?_, ?_⟩, l4⟩
  · rw [← hb.hE]
    exact evE_fr l3 hs (fun k => by simp only [frL, mHq, true_and, and_true, false_and, and_false, or_false, false_or, not_false_eq_true, Nat.reduceEqDiff] <;> omega) (fun k => by simp only [frL, mHq, true_and, and_true, false_and, and_false, or_false, false_or, not_false_eq_true, Nat.reduceEqDiff] <;> omega) (fun k => by simp only [frL, mHq, true_and, and_true, false_and, and_false, or_false, false_or, not_false_eq_true, Nat.reduceEqDiff] <;> omega) (by simp only [frL, mHq, true_and, and_true, false_and, and_false, or_false, false_or, not_false_eq_true, Nat.reduceEqDiff] <;> omega) (by simp only [frL, mHq, true_and, and_true, false_and, and_false, or_false, false_or, not_false_eq_true, Nat.reduceEqDiff] <;> omega)
  · rw [l4]; omega
  · intro h0
    rw [l5] at h0
    split at h0
    · omega
    · omega
  · rw [l4]; omega
  · by_cases hy : metD m pr es
    · obtain ⟨r1, r2, r3, r4⟩ := l9 hy
      right
      by_cases h0 : (gI es 79 37).toInt = 0
      · obtain ⟨u1, u2⟩ := r3 h0
        have cg : ∀ i, i < m → pth es i = fst98 es' i := fun i hi => by unfold pth fst98; rw [u2 i hi]
        exact ⟨m, u1, hm, rchE_congr cg hbl, metE_congr cg (hmet.mp hy)⟩
      · obtain ⟨u1, u2⟩ := r4 h0
        rcases hb.first with h9 | ⟨L, w1, w2, w3, w4⟩
        · exact absurd h9 h0
        · have cg : fst98 es' = fst98 es := by funext i; unfold fst98; rw [u2]
          exact ⟨L, by rw [u1]; exact w1, w2, by rw [cg]; exact w3, by rw [cg]; exact w4⟩
    · obtain ⟨r1, r2, r3, r4⟩ := l8 hy
      rcases hb.first with h9 | ⟨L, w1, w2, w3, w4⟩
      · left; rw [r1]; exact h9
      · right
        have cg : fst98 es' = fst98 es := by funext i; unfold fst98; rw [r4]
        exact ⟨L, by rw [r3]; exact w1, w2, by rw [cg]; exact w3, by rw [cg]; exact w4⟩
  · intro k hk
    have h1 := hmany' k hk
    have h2 := hmany k hk
    rw [l4]; omega
  · intro k hk
    by_cases hkm : k = m
    · subst hkm
      unfold LV rwsAt
      rw [hpp]
      refine ⟨⟨hB, fun b n hb' ha hn' => ?_⟩, l6, fun hg => ?_⟩
      · rw [← hrm.2 b n hb' ha hn']; unfold smS
        rw [fr_row l3 hs (p := 94) (t := 0) (n := 2325) rfl (by decide) (fun k => by simp only [frL, mHq, true_and, and_true, false_and, and_false, or_false, false_or, not_false_eq_true, Nat.reduceEqDiff] <;> omega)]
      · rw [l7, if_neg (show ¬ goD E.W E.fz (bdF E.W (pth es) k) k from hg)]
    · exact LV_keep hs l3 (by omega) hm (hr k (by omega))
  · rw [hpp, Int.toNat_natCast]; exact hbl
  · intro Pt L hL30 hrc hmt
    have c95 : ∀ j, j < m → (gA es' 95 j).toInt = (gA es 95 j).toInt := fun j hj => by rw [fr_at l3 hs (p := 95) (t := 0) (n := 31) rfl (by decide) (by simp only [frL, mHq, true_and, and_true, false_and, and_false, or_false, false_or, not_false_eq_true, Nat.reduceEqDiff] <;> omega)]
    rw [hpp]
    rcases hc Pt L hL30 hrc hmt with h | ⟨j, h1, h2, h3, h4⟩ | ⟨h1, h2⟩
    · exact Or.inl (dnk Pt L hmt h)
    · exact Or.inr ⟨j, by omega, h2, h3, by rw [c95 j h1]; exact h4⟩
    · by_cases hLm : L = m
      · subst hLm
        left
        have hy : metD L pr es := hmet.mpr (metE_congr h2 hmt)
        have hwe : whF E Pt L = (gI es 79 26).toInt := by rw [h26]; exact whF_congr h2
        refine ⟨by have := (l9 hy).1; omega, ?_⟩
        rw [hwe]
        have hk24 : (gI es 79 26).toInt.toNat < 24 := by have := hy.1; omega
        have := (hmany' _ hk24).2.2 hy rfl
        have := hmany _ hk24
        omega
      · right
        refine ⟨m, Int.le_refl _, by omega, h2, ?_⟩
        have hg := (hrc m (by omega)).2.2
        rw [l7, if_pos (show goD E.W E.fz (bdF E.W (pth es) m) m from (goE_congr h2).mp hg)]
        omega
end
