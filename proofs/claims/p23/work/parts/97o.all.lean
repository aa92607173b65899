section
variable {O : pOut} {d kc ks : Nat} {Q : pRes → Prop} {es es0 : PH} {pr : Int} {E : Ev}
/-- what the step leaves -/
theorem LI_step {es5 : PH} {D C : Nat} (hD : D ≤ 29) (hLI : LI E pr es0 es (D : Int)) (hC : C < 1296) (hcan : crow es D C ≠ 0) (hmin : ∀ x : Nat, (gA es 95 D).toInt ≤ (x : Int) → x < C → crow es D x = 0) (hcur : (gA es 95 D).toInt ≤ (C : Int)) (hst : stepN E D C es es5) :
    LB E pr es0 es5 ∧ gI es5 79 29 = gI es 79 29 ∧ gI es5 79 27 = gI es 79 27 ∧ (∀ k, k < D + 1 → LV E es5 k) ∧ rchE E (pth es5) (D + 1) ∧
    (∀ Pt L, L ≤ 30 → rchE E Pt L → metE E pr Pt L → DN E es5 Pt L ∨ (∃ j : Nat, j < D + 1 ∧ j < L ∧ (∀ i, i < j → Pt i = pth es5 i) ∧ (gA es5 95 j).toInt ≤ (Pt j : Int)) ∨ (D + 1 ≤ L ∧ ∀ i, i < D + 1 → Pt i = pth es5 i)) := by
  obtain ⟨s1, s2, s3, s4, s5, s6, s7⟩ := hst
  have hb := hLI.bs
  have hs := sh_of hb.hT
  have hgo : goE E (pth es) D := by
    by_cases hg : goE E (pth es) D
    · exact hg
    · have := (hLI.rows D (Int.le_refl _)).2.2 hg
      omega
  have cg : ∀ i, i < D → pth es i = pth es5 i := fun i hi => by
    unfold pth
    rw [fr_at s2 hs (p := 91) (t := 0) (n := 31) rfl (by decide) (by simp only [frS, mHq, true_and, and_true, false_and, and_false, or_false, false_or, not_false_eq_true, Nat.reduceEqDiff] <;> omega)]
  have c95 : ∀ j, j < D → (gA es5 95 j).toInt = (gA es 95 j).toInt := fun j hj => by rw [fr_at s2 hs (p := 95) (t := 0) (n := 31) rfl (by decide) (by simp only [frS, mHq, true_and, and_true, false_and, and_false, or_false, false_or, not_false_eq_true, Nat.reduceEqDiff] <;> omega)]
  have g27 : gI es5 79 27 = gI es 79 27 := fr_fld s2 hs (p := 79) (b := 27) rfl (by simp only [frS, mHq, true_and, and_true, false_and, and_false, or_false, false_or, not_false_eq_true, Nat.reduceEqDiff] <;> omega)
  have g29 : gI es5 79 29 = gI es 79 29 := fr_fld s2 hs (p := 79) (b := 29) rfl (by simp only [frS, mHq, true_and, and_true, false_and, and_false, or_false, false_or, not_false_eq_true, Nat.reduceEqDiff] <;> omega)
  have g37 : gI es5 79 37 = gI es 79 37 := fr_fld s2 hs (p := 79) (b := 37) rfl (by simp only [frS, mHq, true_and, and_true, false_and, and_false, or_false, false_or, not_false_eq_true, Nat.reduceEqDiff] <;> omega)
  have g41 : gI es5 79 41 = gI es 79 41 := fr_fld s2 hs (p := 79) (b := 41) rfl (by simp only [frS, mHq, true_and, and_true, false_and, and_false, or_false, false_or, not_false_eq_true, Nat.reduceEqDiff] <;> omega)
  have a98 : gA es5 98 = gA es 98 := fr_row s2 hs (p := 98) (t := 0) (n := 30) rfl (by decide) (fun k => by simp only [frS, mHq, true_and, and_true, false_and, and_false, or_false, false_or, not_false_eq_true, Nat.reduceEqDiff] <;> omega)
  have j96 : ∀ k, gJ es5 96 k = gJ es 96 k := fun k => fr_gJ s2 hs (p := 96) (n := 24) rfl (by simp only [frS, mHq, true_and, and_true, false_and, and_false, or_false, false_or, not_false_eq_true, Nat.reduceEqDiff] <;> omega)
  have hDL : LV E es D := hLI.rows D (Int.le_refl _)
  have hcaD : caE E (pth es) D = crow es D := hDL.2.1.symm
  have hLB : LB E pr es0 es5 := by
    refine ⟨s1, fr_trans hb.hf (fr_wk (by simp only [mAl, frS, frA, mHq, true_and, and_true, false_and, and_false, or_false, false_or, not_false_eq_true, Nat.reduceEqDiff] <;> (repeat' apply And.intro) <;> intros <;> omega) s2), ?_, by rw [g27]; exact hb.pos, by rw [g27, g29]; exact hb.spent, by rw [g27, g37]; exact hb.fnd, ?_, fun k hk => by rw [j96, g27]; exact hb.many k hk⟩
    · rw [← hb.hE]
      exact evE_fr s2 hs (fun k => by simp only [frS, mHq, true_and, and_true, false_and, and_false, or_false, false_or, not_false_eq_true, Nat.reduceEqDiff] <;> omega) (fun k => by simp only [frS, mHq, true_and, and_true, false_and, and_false, or_false, false_or, not_false_eq_true, Nat.reduceEqDiff] <;> omega) (fun k => by simp only [frS, mHq, true_and, and_true, false_and, and_false, or_false, false_or, not_false_eq_true, Nat.reduceEqDiff] <;> omega) (by simp only [frS, mHq, true_and, and_true, false_and, and_false, or_false, false_or, not_false_eq_true, Nat.reduceEqDiff] <;> omega) (by simp only [frS, mHq, true_and, and_true, false_and, and_false, or_false, false_or, not_false_eq_true, Nat.reduceEqDiff] <;> omega)
    · rw [g37]
      rcases hb.first with h9 | ⟨L, w1, w2, w3, w4⟩
      · exact Or.inl h9
      · have cf : fst98 es5 = fst98 es := by funext i; unfold fst98; rw [a98]
        exact Or.inr ⟨L, by rw [g41]; exact w1, w2, by rw [cf]; exact w3, by rw [cf]; exact w4⟩
  refine ⟨hLB, g29, g27, fun k hk => ?_, fun k hk => ?_, fun Pt L hL30 hrc hmt => ?_⟩
  · obtain ⟨⟨h1, h2⟩, h3, h4⟩ := hLI.rows k (by omega)
    have cgk : ∀ i, i < k → pth es i = pth es5 i := fun i hi => cg i (by omega)
    refine ⟨⟨?_, fun b n hb' ha hn => ?_⟩, ?_, fun hg => ?_⟩
    · rw [← bdF_congr k cgk, ← h1]; funext i; unfold brow
      by_cases hi : i < 36
      · rw [if_pos hi, if_pos hi, fr_at s2 hs (p := 87) (t := 0) (n := 1116) rfl (by decide) (by simp only [frS, mHq, true_and, and_true, false_and, and_false, or_false, false_or, not_false_eq_true, Nat.reduceEqDiff] <;> omega)]
      · rw [if_neg hi, if_neg hi]
    · have hW : gA es 80 = E.W := by rw [← hb.hE]; rfl
      have hb3 := (cW_bd hb.hT).2
      rw [hW] at hb3
      have h24 := (nW_bd hb.hT (b := b) (by omega)).2
      rw [hW] at h24
      rw [← sumF_congr k cgk, ← h2 b n hb' ha hn]; unfold smS
      rw [fr_at s2 hs (p := 94) (t := 0) (n := 2325) rfl (by decide) (by simp only [frS, mHq, true_and, and_true, false_and, and_false, or_false, false_or, not_false_eq_true, Nat.reduceEqDiff] <;> omega)]
    · rw [← caE_congr cgk, ← h3]; funext i; unfold crow
      rw [fr_row s2 hs (p := 88) (t := 3) (n := 40176) rfl (by decide) (fun k => by simp only [frS, mHq, true_and, and_true, false_and, and_false, or_false, false_or, not_false_eq_true, Nat.reduceEqDiff] <;> omega)]
    · by_cases hkD : k = D
      · subst hkD
        exact absurd ((goE_congr cgk).mp hgo) hg
      · rw [c95 k (by omega)]
        exact h4 (fun hh => hg ((goE_congr cgk).mp hh))
  · have cgk : ∀ i, i < k → pth es i = pth es5 i := fun i hi => cg i (by omega)
    by_cases hkD : k = D
    · subst hkD
      rw [s4, ← caE_congr cgk, hcaD]
      exact ⟨hC, hcan, (goE_congr cgk).mp hgo⟩
    · have hb2 := hLI.below
      rw [Int.toNat_natCast] at hb2
      obtain ⟨h1, h2, h3⟩ := hb2 k (by omega)
      rw [← cg k (by omega), ← caE_congr cgk]
      exact ⟨h1, h2, (goE_congr cgk).mp h3⟩
  · have dnk : DN E es Pt L → DN E es5 Pt L := by
      intro h
      unfold DN
      rw [g37, j96]
      exact h
    rcases hLI.compl Pt L hL30 hrc hmt with h | ⟨j, h1, h2, h3, h4⟩
    · exact Or.inl (dnk h)
    · by_cases hjD : j = D
      · subst hjD
        obtain ⟨r1, r2, r3⟩ := hrc j h2
        rw [caE_congr h3, hcaD] at r2
        have hge : C ≤ Pt j := by
          rcases Nat.lt_or_ge (Pt j) C with h6 | h6
          · exact absurd (hmin (Pt j) h4 h6) r2
          · exact h6
        have ag : ∀ i, i < j → Pt i = pth es5 i := fun i hi => by rw [h3 i hi, cg i hi]
        by_cases hPC : Pt j = C
        · right; right
          refine ⟨by omega, fun i hi => ?_⟩
          by_cases hij : i = j
          · rw [hij, hPC, s4]
          · exact ag i (by omega)
        · right; left
          exact ⟨j, by omega, h2, ag, by rw [s3]; omega⟩
      · right; left
        exact ⟨j, by omega, h2, fun i hi => by rw [h3 i hi, cg i (by omega)], by rw [c95 j (by omega)]; exact h4⟩
/-- the row is looked through -/
theorem la_scan {D : Nat} (hD : D ≤ 30) (hp : 0 ≤ pr ∧ pr ≤ 22) (hT : hOK tT es) {x4 x5 : Option Value} :
    ∀ (i c : Nat), c + i = 1296 →
      ((∀ x, c ≤ x → x < 1296 → crow es D x = 0) → ∀ x3, aW O d 233 kc ks Q (58, [some (.ref 143), some (.int (zI pr)), some (.int (zI ((D : Int) + (-1)))), x3, x4, x5], [], es)) →
      (∀ x, c ≤ x → x < 1296 → crow es D x ≠ 0 → (∀ y, c ≤ y → y < x → crow es D y = 0) → aW O d 233 kc ks Q (117, [some (.ref 143), some (.int (zI pr)), some (.int (zI (D : Int))), some (.int (zI (x : Int))), x4, x5], [], es)) →
      aW O d 233 kc ks Q (76, [some (.ref 143), some (.int (zI pr)), some (.int (zI (D : Int))), some (.int (zI (c : Int))), x4, x5], [], es) := by
  intro i
  induction i with
  | zero =>
    intro c hc K1 K2
    exact s_la76 (sh_of hT) hp ⟨by omega, by omega⟩ ⟨by omega, by omega⟩ hT (fun _ => K1 (fun x h1 h2 => by omega) _) (fun h => by omega) (fun h => by omega)
  | succ i ih =>
    intro c hc K1 K2
    have e9 : ((c + 1 : Nat) : Int) = (c : Int) + 1 := by omega
    have jx : ((1296 * (D : Int)) + (c : Int)).toNat = 1296 * D + c := by omega
    have hcr : crow es D c = gA es 88 (1296 * D + c) := by unfold crow; rw [if_pos (by omega)]
    refine s_la76 (sh_of hT) hp ⟨by omega, by omega⟩ ⟨by omega, by omega⟩ hT (fun h => by omega) (fun _ v2 e2 h2 => ?_) (fun _ v2 e2 h2 => ?_)
    · rw [jx, ← hcr] at e2
      exact K2 c (Nat.le_refl _) (by omega) (fun h0 => h2 (by rw [e2, h0]; rfl)) (fun y h1 h3 => by omega)
    · rw [jx, ← hcr] at e2
      have h0 : crow es D c = 0 := Int32.toInt_inj.mp (by rw [← e2, show (0 : Int32).toInt = 0 from rfl]; omega)
      have := ih (c + 1) (by omega) (fun hz => K1 (fun x h1 h3 => by
        by_cases hx : x = c
        · rw [hx]; exact h0
        · exact hz x (by omega) h3)) (fun x h1 h3 h4 h5 => K2 x (by omega) h3 h4 (fun y h6 h7 => by
        by_cases hy : y = c
        · rw [hy]; exact h0
        · exact h5 y (by omega) h7))
      rw [e9] at this
      exact this
def LAP (E : Ev) (pr : Int) (es0 es' : PH) : Prop := LB E pr es0 es' ∧ ((gI es' 79 29).toInt = 0 → ∀ Pt L, L ≤ 30 → rchE E Pt L → metE E pr Pt L → DN E es' Pt L)
theorem cur_bd (hT : hOK tT es) {i : Nat} (hi : i < 31) : 0 ≤ (gA es 95 i).toInt ∧ (gA es 95 i).toInt ≤ 1296 := gA_bd hT (p := 95) (t := 0) (n := 31) rfl hi (by decide)
theorem nat1 {A B X Y N : Nat} (h : A + (B + 1300) + Y < N + 1) (hX : X ≤ 1296) : A + B + X < N := by omega
set_option maxRecDepth 20000 in
theorem nat2 {A B X Y N : Nat} (h : A + 50000 + (B + 1300) + Y < N + 1) (hX : X ≤ 1296) (hB : B ≤ 37700) : A + (B + 2600) + X < N := by omega
theorem mea1 {p c c2 : Int} {D N : Nat} (h : (8001 - p).toNat * 50000 + (D + 1) * 1300 + (1296 - c).toNat < N + 1) (hc2 : 0 ≤ c2) : (8001 - p).toNat * 50000 + D * 1300 + (1296 - c2).toNat < N := by
  have h1 : (1296 - c2).toNat ≤ 1296 := by omega
  have h2 : (D + 1) * 1300 = D * 1300 + 1300 := Nat.succ_mul _ _
  rw [h2] at h
  exact nat1 h h1
theorem mea2 {p p6 c c6 : Int} {D N : Nat} (h : (8001 - p).toNat * 50000 + (D + 1) * 1300 + (1296 - c).toNat < N + 1) (hp : p6 = p + 1) (hp2 : p ≤ 8000) (hD : D ≤ 29) (hc6 : 0 ≤ c6) : (8001 - p6).toNat * 50000 + (D + 2) * 1300 + (1296 - c6).toNat < N := by
  have h0 : (8001 - p).toNat = (8001 - p6).toNat + 1 := by omega
  have h1 : (1296 - c6).toNat ≤ 1296 := by omega
  have h2 : (D + 1) * 1300 = D * 1300 + 1300 := Nat.succ_mul _ _
  have h3 : (D + 2) * 1300 = D * 1300 + 2600 := Nat.add_mul _ _ _
  have h4 : ((8001 - p6).toNat + 1) * 50000 = (8001 - p6).toNat * 50000 + 50000 := Nat.succ_mul _ _
  have h5 : D * 1300 ≤ 29 * 1300 := Nat.mul_le_mul_right _ hD
  rw [h0, h2, h4] at h
  rw [h3]
  exact nat2 h h1 h5
theorem mea3 {p c c2 : Int} {D N : Nat} (h : (8001 - p).toNat * 50000 + (D + 1) * 1300 + (1296 - c).toNat < N + 1) (h1 : c < c2) (h2 : c2 ≤ 1296) : (8001 - p).toNat * 50000 + (D + 1) * 1300 + (1296 - c2).toNat < N := by omega
theorem la_main (h365 : conOK O gG gInv kc_365) (hT0 : hOK tT es0) (hI0 : gInv es0) (hp : 0 ≤ pr ∧ pr ≤ 22) (K : ∀ es', LAP E pr es0 es' → Q (.inl none, es', kc, ks)) :
    ∀ (N : Nat) (es : PH) (dp : Int) (x3 x4 x5 : Option Value), -1 ≤ dp → dp ≤ 30 → LI E pr es0 es dp → (8001 - (gI es 79 27).toInt).toNat * 50000 + (dp + 1).toNat * 1300 + (1296 - (gA es 95 dp.toNat).toInt).toNat < N →
      aW O (d + 7) 233 kc ks Q (58, [some (.ref 143), some (.int (zI pr)), some (.int (zI dp)), x3, x4, x5], [], es) := by
  intro N
  induction N with
  | zero => intro es dp x3 x4 x5 h1 h2 h3 h4; omega
  | succ N ih =>
    intro es dp x3 x4 x5 hd1 hd2 hLI hN
    have hb := hLI.bs
    have hT := hb.hT
    refine s_la58 (d := d + 7) (sh_of hT) hp ⟨hd1, hd2⟩ hT (fun hneg => K es ⟨hb, fun _ Pt L h1 h2 h3 => ?_⟩) (fun hnn v2 e2 h2 => K es ⟨hb, fun h => absurd (e2.trans h) h2⟩) (fun hnn v2 e2 h2 v4 e4 => ?_)
    · rcases hLI.compl Pt L h1 h2 h3 with h | ⟨j, h5, -⟩
      · exact h
      · omega
    · obtain ⟨D, rfl⟩ := Int.eq_ofNat_of_zero_le (show 0 ≤ dp by omega)
      rw [Int.toNat_natCast] at e4
      have hcb := cur_bd hT (i := D) (by omega)
      rw [← e4] at hcb
      obtain ⟨c0, rfl⟩ := Int.eq_ofNat_of_zero_le hcb.1
      have hpos := hb.pos
      have hsp0 : (gI es 79 29).toInt = 0 := by omega
      have hsp := hb.spent hsp0
      refine la_scan (by omega) hp hT (1296 - c0) c0 (by omega) (fun hz y3 => ?_) (fun C hC1 hC2 hC3 hC4 => ?_)
      · refine ih es ((D : Int) + (-1)) y3 x4 x5 (by omega) (by omega) ⟨hb, fun k hk => hLI.rows k (by omega), ?_, ?_⟩ ?_
        · have := hLI.below
          rw [Int.toNat_natCast] at this
          exact fun k hk => this k (by omega)
        · intro Pt L h1 h2' h3
          rcases hLI.compl Pt L h1 h2' h3 with h | ⟨j, h5, h6, h7, h8⟩
          · exact Or.inl h
          · right
            by_cases hjD : j = D
            · exfalso
              subst hjD
              obtain ⟨r1, r2, -⟩ := h2' j h6
              rw [caE_congr h7, ← (hLI.rows j (Int.le_refl _)).2.1] at r2
              exact r2 (hz (Pt j) (by omega) r1)
            · exact ⟨j, by omega, h6, h7, h8⟩
        · have hc2 := cur_bd hT (i := ((D : Int) + (-1)).toNat) (by omega)
          have e5 : ((D : Int) + 1).toNat = D + 1 := by omega
          have e6 : ((D : Int) + (-1) + 1).toNat = D := by omega
          rw [e5] at hN
          rw [e6]
          exact mea1 hN hc2.1
      · have hgo : goE E (pth es) D := by
          by_cases hg : goE E (pth es) D
          · exact hg
          · have := (hLI.rows D (Int.le_refl _)).2.2 hg
            omega
        have hD29 : D ≤ 29 := by have := hgo.1; omega
        have e5 : ((D : Int) + 1).toNat = D + 1 := by omega
        have e7 : ((D : Int)).toNat = D := Int.toNat_natCast D
        rw [e5, e7, ← e4] at hN
        refine la_step (d := d) (E := E) hD29 (by omega) hp hT hb.hE (hLI.rows D (Int.le_refl _)).1 (fun es5 y4 y5 hst hso => ?_) (fun es5 y4 y5 hst hso => ?_) x4 x5
        · obtain ⟨t1, t2, t3, t4, t5, t6⟩ := LI_step hD29 hLI (by omega) hC3 (fun x h1 h3 => hC4 x (by omega) h3) (by omega) hst
          have hI5 : gInv es5 := gInv_keep t1.hf (by decide) hT0 hI0
          have hfnd := t1.fnd
          have hpos5 := t1.pos
          refine s_la218 (d := d) (sh_of t1.hT) hp ⟨by omega, by omega⟩ h365 hI5 ⟨by omega, by omega⟩ ⟨by omega, by omega⟩ t1.hT (fun es6 p6 => ?_)
          have p6' : laysN (D + 1) pr es5 es6 := by
            unfold laysP at p6
            rw [e5] at p6
            exact p6
          obtain ⟨u1, u2⟩ := LI_lays (m := D + 1) (by omega) hp t1 (by rw [t2]; exact hsp0) t4 hst.2.2.2.2.1 hst.2.2.2.2.2.2 t5 t6 p6'
          refine ih es6 ((D : Int) + 1) _ _ _ (by omega) (by omega) (by rw [show ((D : Int) + 1) = ((D + 1 : Nat) : Int) by omega]; exact u1) ?_
          have hc6 := cur_bd u1.bs.hT (i := ((D : Int) + 1).toNat) (by omega)
          have hp6 := u1.bs.pos
          rw [t3] at u2
          have e8 : ((D : Int) + 1 + 1).toNat = D + 2 := by omega
          rw [e8]
          exact mea2 hN u2 hsp hD29 hc6.1
        · obtain ⟨t1, t2, t3, t4, t5, t6⟩ := LI_step hD29 hLI (by omega) hC3 (fun x h1 h3 => hC4 x (by omega) h3) (by omega) hst
          refine ih es5 (D : Int) _ _ _ (by omega) (by omega) ⟨t1, fun k hk => t4 k (by omega), ?_, ?_⟩ ?_
          · rw [e7]; exact fun k hk => t5 k (by omega)
          · intro Pt L h1 h2' h3
            rcases t6 Pt L h1 h2' h3 with h | ⟨j, h5, h6, h7, h8⟩ | ⟨h5, h6⟩
            · exact Or.inl h
            · exact Or.inr ⟨j, by omega, h6, h7, h8⟩
            · exfalso
              have hEv : evOK E := by rw [← hb.hE]; exact evOK_of hT
              have := so_le_wh hEv (P := Pt) h5
              rw [soF_congr h6] at this
              have := h3.1
              omega
          · rw [e5, e7, t3, hst.2.2.1]
            exact mea3 hN (by omega) (by omega)
/-- many and with are cleared -/
theorem la_zero (hp : 0 ≤ pr ∧ pr ≤ 22) (hT : hOK tT es) (K : ∀ es1, hOK tT es1 → fr [(96, 0, 0, 24), (97, 0, 0, 24)] es es1 → (∀ i, i < 24 → gJ es1 96 i = 0) → ∀ es5, (∃ es2 es3 es4, es2 = sI es1 79 37 (.int (zI 0)) ∧ es3 = sI es2 79 28 (.int (zI 0)) ∧ beginsT es3 es4 ∧ pricesP 0 es4 es5) →
      aW O (d + 6) 233 kc ks Q (50, [some (.ref 143), some (.int (zI pr)), some (.int (zI 24)), none, none, none], [], es5)) :
    ∀ (j k : Nat) (es1 : PH), k + j = 24 → hOK tT es1 → fr [(96, 0, 0, 24), (97, 0, 0, 24)] es es1 → (∀ i, i < k → gJ es1 96 i = 0) →
      aW O (d + 6) 233 kc ks Q (2, [some (.ref 143), some (.int (zI pr)), some (.int (zI (k : Int))), none, none, none], [], es1) := by
  intro j
  induction j with
  | zero =>
    intro k es1 hk hT1 hf1 hz
    have hk24 : k = 24 := by omega
    subst hk24
    exact s_la2 (d := d) (sh_of hT1) hp ⟨by omega, by omega⟩ hT1 (fun _ es2 e2 es3 e3 es4 p4 es5 p5 => K es1 hT1 hf1 hz es5 ⟨es2, es3, es4, e2, e3, p4, p5⟩) (fun h => by omega)
  | succ j ih =>
    intro k es1 hk hT1 hf1 hz
    have e9 : ((k + 1 : Nat) : Int) = (k : Int) + 1 := by omega
    refine s_la2 (d := d) (sh_of hT1) hp ⟨by omega, by omega⟩ hT1 (fun h => by omega) (fun _ es2 e2 es3 e3 => ?_)
    rw [Int.toNat_natCast] at e2 e3
    have hT2 : hOK tT es2 := by rw [e2]; exact hOK_sJ hT1
    have := ih (k + 1) es3 (by omega) (by rw [e3]; exact hOK_sJ hT2) (by
      rw [e3, e2]
      exact fr_trans hf1 (fr_trans (fr_sJ (mIn_yes (by simp only [mHq, true_and, and_true, false_and, and_false, or_false, false_or, not_false_eq_true, Nat.reduceEqDiff] <;> omega))) (fr_sJ (mIn_yes (by simp only [mHq, true_and, and_true, false_and, and_false, or_false, false_or, not_false_eq_true, Nat.reduceEqDiff] <;> omega))))) (fun i hi => by
      rw [e3, gJ_sJ_ne (by decide), e2, gJ_sJ (sh_of hT1) (p := 96) (n := 24) rfl]
      unfold vp_updL
      split
      · rfl
      · exact hz i (by omega))
    rw [e9] at this
    exact this
theorem laysAll_spec (h365 : conOK O gG gInv kc_365) (hT : hOK tT es) (hI : gInv es) (hp : 0 ≤ pr ∧ pr ≤ 22) (hq : 0 ≤ (gI es 79 27).toInt ∧ (gI es 79 27).toInt ≤ 8000) (hn : (gI es 79 29).toInt = 0) (K : ∀ es', LAP (evE es) pr es es' → Q (.inl none, es', kc, ks)) :
    aW O (d + 7) 233 kc ks Q (0, [some (.ref 143), some (.int (zI pr)), none, none, none, none], [], es) := by
  have hs := sh_of hT
  refine s_la0 (d := d + 7) hs hT ?_
  refine la_zero (d := d + 1) hp hT (fun es1 hT1 hf1 hz es5 h5 => ?_) 24 0 es (by omega) hT (fr_refl _ _) (fun i hi => by omega)
  obtain ⟨es2, es3, es4, e2, e3, p4, p5⟩ := h5
  have hT2 : hOK tT es2 := by rw [e2]; exact hOK_sI hT1 (p := 79) (b := 37) (lo := iLO) (hi := iHI) rfl rfl (i32_rng _)
  have hT3 : hOK tT es3 := by rw [e3]; exact hOK_sI hT2 (p := 79) (b := 28) (lo := iLO) (hi := iHI) rfl rfl (i32_rng _)
  have f3 : fr [(96, 0, 0, 24), (97, 0, 0, 24), (79, 39, 0, 1), (79, 30, 0, 1)] es es3 := by
    refine fr_trans (fr_wk (by simp only [mAl, mHq, true_and, and_true, false_and, and_false, or_false, false_or, not_false_eq_true, Nat.reduceEqDiff] <;> (repeat' apply And.intro) <;> intros <;> omega) hf1) ?_
    rw [e3, e2]
    exact fr_trans (fr_sI (mIn_yes (by simp only [mHq, true_and, and_true, false_and, and_false, or_false, false_or, not_false_eq_true, Nat.reduceEqDiff] <;> omega))) (fr_sI (mIn_yes (by simp only [mHq, true_and, and_true, false_and, and_false, or_false, false_or, not_false_eq_true, Nat.reduceEqDiff] <;> omega)))
  obtain ⟨hs4, hT4, m4⟩ := p4
  have f4 : fr [(96, 0, 0, 24), (97, 0, 0, 24), (79, 39, 0, 1), (79, 30, 0, 1), (87, 0, 0, 36)] es es4 := fr_trans (fr_wk (by simp only [mAl, mHq, true_and, and_true, false_and, and_false, or_false, false_or, not_false_eq_true, Nat.reduceEqDiff] <;> (repeat' apply And.intro) <;> intros <;> omega) f3) (fr_wk (by simp only [mAl, mHq, true_and, and_true, false_and, and_false, or_false, false_or, not_false_eq_true, Nat.reduceEqDiff] <;> (repeat' apply And.intro) <;> intros <;> omega) m4.2.2.1)
  have p5' : pricesN 0 es4 es5 := p5
  have f5 := p5'.2.2.1
  have hT5 := p5'.2.1
  have hf5 : fr frA es es5 := fr_trans (fr_wk (by simp only [mAl, frA, mHq, true_and, and_true, false_and, and_false, or_false, false_or, not_false_eq_true, Nat.reduceEqDiff] <;> (repeat' apply And.intro) <;> intros <;> omega) f4) (fr_wk (by simp only [mAl, frP, frA, mHq, true_and, and_true, false_and, and_false, or_false, false_or, not_false_eq_true, Nat.reduceEqDiff] <;> (repeat' apply And.intro) <;> intros <;> omega) f5)
  have hE4 : evE es4 = evE es := evE_fr f4 hs (fun k => by simp only [mHq, true_and, and_true, false_and, and_false, or_false, false_or, not_false_eq_true, Nat.reduceEqDiff] <;> omega) (fun k => by simp only [mHq, true_and, and_true, false_and, and_false, or_false, false_or, not_false_eq_true, Nat.reduceEqDiff] <;> omega) (fun k => by simp only [mHq, true_and, and_true, false_and, and_false, or_false, false_or, not_false_eq_true, Nat.reduceEqDiff] <;> omega) (by simp only [mHq, true_and, and_true, false_and, and_false, or_false, false_or, not_false_eq_true, Nat.reduceEqDiff] <;> omega) (by simp only [mHq, true_and, and_true, false_and, and_false, or_false, false_or, not_false_eq_true, Nat.reduceEqDiff] <;> omega)
  have hE5 : evE es5 = evE es := by
    rw [← hE4]
    exact evE_fr f5 hs4 (fun k => by simp only [frP, mHq, true_and, and_true, false_and, and_false, or_false, false_or, not_false_eq_true, Nat.reduceEqDiff] <;> omega) (fun k => by simp only [frP, mHq, true_and, and_true, false_and, and_false, or_false, false_or, not_false_eq_true, Nat.reduceEqDiff] <;> omega) (fun k => by simp only [frP, mHq, true_and, and_true, false_and, and_false, or_false, false_or, not_false_eq_true, Nat.reduceEqDiff] <;> omega) (by simp only [frP, mHq, true_and, and_true, false_and, and_false, or_false, false_or, not_false_eq_true, Nat.reduceEqDiff] <;> omega) (by simp only [frP, mHq, true_and, and_true, false_and, and_false, or_false, false_or, not_false_eq_true, Nat.reduceEqDiff] <;> omega)
  obtain ⟨r1, r2, r3⟩ := prices_E (P := pth es5) hT4 hE4 p5' (fun b hb ha n hn => rwS_sumF0 hE4 n hn)
  have g27 : gI es5 79 27 = gI es 79 27 := by
    rw [fr_fld f5 hs4 (p := 79) (b := 27) rfl (by simp only [frP, mHq, true_and, and_true, false_and, and_false, or_false, false_or, not_false_eq_true, Nat.reduceEqDiff] <;> omega)]
    exact fr_fld f4 hs (p := 79) (b := 27) rfl (by simp only [mHq, true_and, and_true, false_and, and_false, or_false, false_or, not_false_eq_true, Nat.reduceEqDiff] <;> omega)
  have g29 : gI es5 79 29 = gI es 79 29 := by
    rw [fr_fld f5 hs4 (p := 79) (b := 29) rfl (by simp only [frP, mHq, true_and, and_true, false_and, and_false, or_false, false_or, not_false_eq_true, Nat.reduceEqDiff] <;> omega)]
    exact fr_fld f4 hs (p := 79) (b := 29) rfl (by simp only [mHq, true_and, and_true, false_and, and_false, or_false, false_or, not_false_eq_true, Nat.reduceEqDiff] <;> omega)
  have g37 : (gI es5 79 37).toInt = 0 := by
    rw [fr_fld f5 hs4 (p := 79) (b := 37) rfl (by simp only [frP, mHq, true_and, and_true, false_and, and_false, or_false, false_or, not_false_eq_true, Nat.reduceEqDiff] <;> omega), fr_fld m4.2.2.1 (sh_of hT3) (p := 79) (b := 37) rfl (by simp only [mHq, true_and, and_true, false_and, and_false, or_false, false_or, not_false_eq_true, Nat.reduceEqDiff] <;> omega), e3, gI_sI_ne (Or.inr (by decide)), e2, gI_sI (sh_of hT1) (p := 79) rfl (by decide)]
    rfl
  have j96 : ∀ k, k < 24 → gJ es5 96 k = 0 := fun k hk => by
    rw [fr_gJ f5 hs4 (p := 96) (n := 24) rfl (by simp only [frP, mHq, true_and, and_true, false_and, and_false, or_false, false_or, not_false_eq_true, Nat.reduceEqDiff] <;> omega), fr_gJ m4.2.2.1 (sh_of hT3) (p := 96) (n := 24) rfl (by simp only [mHq, true_and, and_true, false_and, and_false, or_false, false_or, not_false_eq_true, Nat.reduceEqDiff] <;> omega), e3, gJ_sI, e2, gJ_sI, hz k hk]
  have hLB : LB (evE es) pr es es5 := by
    refine ⟨hT5, hf5, hE5, by rw [g27]; omega, fun _ => by rw [g27]; omega, by rw [g37, g27]; omega, Or.inl g37, fun k hk => ?_⟩
    rw [j96 k hk, g27]
    rw [show (0 : Int64).toInt = 0 from rfl]
    omega
  have hB0 : brow es5 0 = bdF (evE es).W (pth es5) 0 := by
    have : brow es5 0 = brow es4 0 := by
      funext i; unfold brow
      rw [fr_row f5 hs4 (p := 87) (t := 0) (n := 1116) rfl (by decide) (fun k => by simp only [frP, mHq, true_and, and_true, false_and, and_false, or_false, false_or, not_false_eq_true, Nat.reduceEqDiff] <;> omega)]
    rw [this, brow_begins (P := pth es5) m4]
    have h80 : gA es3 80 = gA es 80 := fr_row f3 hs (p := 80) (t := 0) (n := 2125) (sp := tS80) rfl (by decide) (fun k => by simp only [mHq, true_and, and_true, false_and, and_false, or_false, false_or, not_false_eq_true, Nat.reduceEqDiff] <;> omega)
    rw [h80]; rfl
  have hI5 : gInv es5 := gInv_keep hf5 (by decide) hT hI
  refine s_la50 (d := d) (sh_of hT5) hp h365 hI5 ⟨by rw [g27]; omega, by rw [g27]; omega⟩ ⟨by omega, by omega⟩ hT5 (fun es6 p6 => ?_)
  have p6' : laysN 0 pr es5 es6 := p6
  obtain ⟨u1, u2⟩ := LI_lays (m := 0) (by omega) hp hLB (by rw [g29]; exact hn) (fun k hk => by omega) ⟨hB0, r1⟩ r3 (fun k hk => by omega) (fun Pt L h1 h2 h3 => Or.inr (Or.inr ⟨by omega, fun i hi => by omega⟩)) p6'
  exact la_main (E := evE es) h365 hT hI hp K _ es6 0 none none none (by omega) (by omega) u1 (Nat.lt_succ_self _)
end
