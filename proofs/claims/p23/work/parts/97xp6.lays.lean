/-! lays and laysAll of the reference at PRICE 0; printed by wip/rel/brk.py -/
section
variable {O : pOut} {d kc ks : Nat} {Q : pRes → Prop} {es es0 : PH} {pr : Int} {E : Ev}
theorem lays_E0 {m : Nat} {pr : Int} (hs : sh es) (hT : hOK tT es) (h365 : conOK O gG gInv kc_365) (hI : gInv es) (hm : m ≤ 30) (hp : 0 ≤ pr ∧ pr ≤ 22) (hf : 0 ≤ (gI es 79 37).toInt ∧ (gI es 79 37).toInt ≤ 10000) (K : ∀ es', laysN m pr es es' → (gI es' 79 28).toInt = max (gI es 79 28).toInt (m : Int) → Q (.inl none, es', kc, ks)) :
    ∀ es9, hOK tT es9 → fr [(79, 29, 0, 1), (79, 30, 0, 1), (79, 31, 0, 1), (88, 0, 1296 * m, 1296 * (m + 1))] es es9 → (gI es9 79 27).toInt = (gI es 79 27).toInt + 1 →
      ((gI es9 79 29).toInt = if (gI es 79 29).toInt ≠ 0 ∨ 8000 < (gI es 79 27).toInt + 1 then 1 else 0) → crow es9 m = canF (gA es 80) (brow es m) m → (gI es9 79 28).toInt = max (gI es 79 28).toInt (m : Int) →
      aW O (d + 6) 243 kc ks Q (58, [some (.ref 143), some (.int (zI (m : Int))), some (.int (zI pr))], [.int (zI (m : Int)), .ref 143], es9) := by
  intro es9 hT9 hf9 h27 h29 hcr h28
  refine x_call (vs := [.ref 143, .int (zI (m : Int))]) (rs := []) i_243_58 rfl (fun _ => rfl) rfl rfl rfl rfl rfl (pCall_v (p := 79) (sh_of hT9) rfl rfl rfl rfl rfl (by decide) rfl rfl rfl rfl rfl) ?_
  refine con_voidI (c := kc_365) h365 (by show 2 ≤ d + 5; omega) (ρ := [(m : Int)]) (vs := [.ref 143, .int (zI (m : Int))]) rfl (gE_1 (show (0 : Int) ≤ (m : Int) ∧ (m : Int) ≤ 30 from ⟨by omega, by omega⟩)) rfl ⟨⟨143, rfl, rfl⟩, gV_i (by unfold i32 iLO iHI; omega) rfl, trivial⟩ hT9 (gInv_keep hf9 rfl hT hI) rfl (by decide) (fun es10 hT10 _ hf10 => ?_)
  show aW _ _ _ _ _ _ (61, [some (.ref 143), some (.int (zI (m : Int))), some (.int (zI pr))], [], es10)
  have hf10' : fr [(85, 0, 0, 6), (101, 0, 0, 31), (86, 0, 0, 400)] es9 es10 := hf10
  have fA : fr (frM7 m) es es10 := fr_trans (fr_wk (by simp only [mAl, frM7, mHq, true_and, and_true, false_and, and_false, or_false, false_or, not_false_eq_true, Nat.reduceEqDiff] <;> (repeat' apply And.intro) <;> intros <;> omega) hf9) (fr_wk (by simp only [mAl, frM7, mHq, true_and, and_true, false_and, and_false, or_false, false_or, not_false_eq_true, Nat.reduceEqDiff] <;> (repeat' apply And.intro) <;> intros <;> omega) hf10')
  have f27 : gI es10 79 27 = gI es9 79 27 := fr_fld hf10' (sh_of hT9) (p := 79) (b := 27) rfl (by simp only [mHq, true_and, and_true, false_and, and_false, or_false, false_or, not_false_eq_true, Nat.reduceEqDiff] <;> omega)
  have f29 : gI es10 79 29 = gI es9 79 29 := fr_fld hf10' (sh_of hT9) (p := 79) (b := 29) rfl (by simp only [mHq, true_and, and_true, false_and, and_false, or_false, false_or, not_false_eq_true, Nat.reduceEqDiff] <;> omega)
  have f28 : gI es10 79 28 = gI es9 79 28 := fr_fld hf10' (sh_of hT9) (p := 79) (b := 28) rfl (by simp only [mHq, true_and, and_true, false_and, and_false, or_false, false_or, not_false_eq_true, Nat.reduceEqDiff] <;> omega)
  have aC : crow es10 m = crow es9 m := by
    funext i; unfold crow
    rw [fr_row hf10' (sh_of hT9) (p := 88) (t := 3) (n := 40176) rfl (by decide) (fun k => by simp only [mHq, true_and, and_true, false_and, and_false, or_false, false_or, not_false_eq_true, Nat.reduceEqDiff] <;> omega)]
  have f37 := (lays_same (pr := pr) hs fA).2.2.2.2.2.2.1
  have fin : ∀ (es1 : PH) (v : Int) (w : Int), meetsN (m : Int) pr es10 es1 → goP (m : Int) es1 v → (w = if v = 0 then 1296 else 0) → Q (.inl none, sA es1 95 m (zI w), kc, ks) := fun es1 v w p1 p2 hw =>
    K _ (lays_post hs hm hT10 fA (by rw [f27, h27]) (by rw [f29, h29]) (by rw [aC, hcr]) p1 p2 hw) (by rw [gI_sA, fr_fld p1.2.2.1 (sh_of hT10) (p := 79) (b := 28) rfl (by simp only [frMe, mHq, true_and, and_true, false_and, and_false, or_false, false_or, not_false_eq_true, Nat.reduceEqDiff] <;> omega), f28, h28])
  refine s_lays61 (d := d + 3) (sh_of hT10) ⟨by omega, by omega⟩ hp (by rw [f37]; exact hf) hT10 (fun es1 p1 v2 p2 h2 es4 e4 => ?_) (fun es1 p1 v2 p2 h2 es4 e4 => ?_)
  · rw [e4, Int.toNat_natCast]
    exact fin es1 v2 1296 p1 p2 (by rw [if_pos h2])
  · rw [e4, Int.toNat_natCast]
    exact fin es1 v2 0 p1 p2 (by rw [if_neg h2])
/-- what lays leaves, and how deep it is -/
def laysE (m pr : Int) (es es' : PH) : Prop := sh es' ∧ hOK tT es' ∧ laysP m pr es es' ∧ (gI es' 79 28).toInt = max (gI es 79 28).toInt m
theorem lays_E {m pr : Int} (hs : sh es) (hT : hOK tT es) (h365 : conOK O gG gInv kc_365) (hI : gInv es) (hm : 0 ≤ m ∧ m ≤ 30) (hp : 0 ≤ pr ∧ pr ≤ 22) (hq : 0 ≤ (gI es 79 27).toInt ∧ (gI es 79 27).toInt ≤ 10000) (hf : 0 ≤ (gI es 79 37).toInt ∧ (gI es 79 37).toInt ≤ 10000) (K : ∀ es', laysE m pr es es' → Q (.inl none, es', kc, ks)) :
    aW O (d + 6) 243 kc ks Q (0, [some (.ref 143), some (.int (zI m)), some (.int (zI pr))], [], es) := by
  obtain ⟨m, rfl⟩ := Int.eq_ofNat_of_zero_le hm.1
  have K2 : ∀ es', laysN m pr es es' → (gI es' 79 28).toInt = max (gI es 79 28).toInt (m : Int) → Q (.inl none, es', kc, ks) := fun es' h1 h2 => K es' ⟨h1.1, h1.2.1, (by unfold laysP; rw [Int.toNat_natCast]; exact h1), h2⟩
  have tail := lays_E0 (d := d) (Q := Q) (kc := kc) (ks := ks) hs hT h365 hI (m := m) (by omega) hp hf K2
  -- the first part
  have pre : ∀ es2 es5 es8 es9 : PH, es2 = sI es 79 27 (.int (zI ((gI es 79 27).toInt + 1))) → ∀ x : Int, (x = if (gI es 79 29).toInt ≠ 0 ∨ 8000 < (gI es 79 27).toInt + 1 then 1 else 0) → es5 = sI es2 79 29 (.int (zI x)) → ∀ y : Int, (y = max (gI es5 79 28).toInt (m : Int)) → es8 = sI es5 79 28 (.int (zI y)) → findsT (m : Int) ((m : Int) % 2) es8 es9 →
      aW O (d + 6) 243 kc ks Q (58, [some (.ref 143), some (.int (zI (m : Int))), some (.int (zI pr))], [.int (zI (m : Int)), .ref 143], es9) := by
    intro es2 es5 es8 es9 e2 x hx e5 y hy e8 p9
    have hT2 : hOK tT es2 := by rw [e2]; exact hOK_sI hT (p := 79) (b := 27) (lo := iLO) (hi := iHI) rfl rfl (i32_rng _)
    have hx2 : 0 ≤ x ∧ x ≤ 1 := by rw [hx]; split <;> omega
    have hzx : (zI x).toInt = x := zI_toInt (by unfold i32 iLO iHI; omega)
    have hT5 : hOK tT es5 := by rw [e5]; exact hOK_sI hT2 (p := 79) (b := 29) rfl rfl (by rw [hzx]; exact hx2)
    have hT8 : hOK tT es8 := by rw [e8]; exact hOK_sI hT5 (p := 79) (b := 28) (lo := iLO) (hi := iHI) rfl rfl (i32_rng _)
    have f8 : fr [(79, 29, 0, 1), (79, 30, 0, 1), (79, 31, 0, 1)] es es8 := by
      rw [e8, e5, e2]
      exact fr_trans (fr_sI (mIn_yes (by simp only [mHq, true_and, and_true, false_and, and_false, or_false, false_or, not_false_eq_true, Nat.reduceEqDiff] <;> omega))) (fr_trans (fr_sI (mIn_yes (by simp only [mHq, true_and, and_true, false_and, and_false, or_false, false_or, not_false_eq_true, Nat.reduceEqDiff] <;> omega))) (fr_sI (mIn_yes (by simp only [mHq, true_and, and_true, false_and, and_false, or_false, false_or, not_false_eq_true, Nat.reduceEqDiff] <;> omega))))
    obtain ⟨q1, q2, q3⟩ := p9
    have q4 : fr [(88, 0, 1296 * m, 1296 * (m + 1))] es8 es9 := by
      have := q3.2.2.1
      rw [Int.toNat_natCast] at this
      exact this
    have c27 : gI es9 79 27 = gI es8 79 27 := fr_fld q4 (sh_of hT8) (p := 79) (b := 27) rfl (by simp only [mHq, true_and, and_true, false_and, and_false, or_false, false_or, not_false_eq_true, Nat.reduceEqDiff] <;> omega)
    have c29 : gI es9 79 29 = gI es8 79 29 := fr_fld q4 (sh_of hT8) (p := 79) (b := 29) rfl (by simp only [mHq, true_and, and_true, false_and, and_false, or_false, false_or, not_false_eq_true, Nat.reduceEqDiff] <;> omega)
    have c28 : gI es9 79 28 = gI es8 79 28 := fr_fld q4 (sh_of hT8) (p := 79) (b := 28) rfl (by simp only [mHq, true_and, and_true, false_and, and_false, or_false, false_or, not_false_eq_true, Nat.reduceEqDiff] <;> omega)
    have hyb : i32 y := by
      have h5 := i32_rng (gI es5 79 28)
      unfold i32 iLO iHI
      unfold iLO iHI at h5
      omega
    refine tail es9 q2 (fr_trans (fr_wk (by simp only [mAl, mHq, true_and, and_true, false_and, and_false, or_false, false_or, not_false_eq_true, Nat.reduceEqDiff] <;> (repeat' apply And.intro) <;> intros <;> omega) f8) (fr_wk (by simp only [mAl, mHq, true_and, and_true, false_and, and_false, or_false, false_or, not_false_eq_true, Nat.reduceEqDiff] <;> (repeat' apply And.intro) <;> intros <;> omega) q4)) ?_ ?_ ?_ ?_
    · rw [c27, e8, gI_sI_ne (Or.inr (by decide)), e5, gI_sI_ne (Or.inr (by decide)), e2, gI_sI hs (p := 79) rfl (by decide), zI_toInt (by unfold i32 iLO iHI; omega)]
    · rw [c29, e8, gI_sI_ne (Or.inr (by decide)), e5, gI_sI (sh_of hT2) (p := 79) rfl (by decide), hzx, hx]
    · have q5 := q3.2.2.2
      rw [Int.toNat_natCast] at q5
      rw [q5]
      unfold canF
      have a80 : gA es8 80 = gA es 80 := fr_row f8 hs (p := 80) (t := 0) (n := 2125) (sp := tS80) rfl (by decide) (fun k => by simp only [mHq, true_and, and_true, false_and, and_false, or_false, false_or, not_false_eq_true, Nat.reduceEqDiff] <;> omega)
      have aB : brow es8 m = brow es m := by
        funext i; unfold brow
        rw [fr_row f8 hs (p := 87) (t := 0) (n := 1116) rfl (by decide) (fun k => by simp only [mHq, true_and, and_true, false_and, and_false, or_false, false_or, not_false_eq_true, Nat.reduceEqDiff] <;> omega)]
      rw [a80, aB]
    · rw [c28, e8, gI_sI (sh_of hT5) (p := 79) rfl (by decide), zI_toInt hyb, hy, e5, gI_sI_ne (Or.inr (by decide)), e2, gI_sI_ne (Or.inr (by decide))]
  have hz : (zI ((gI es 79 27).toInt + 1)).toInt = (gI es 79 27).toInt + 1 := zI_toInt (by unfold i32 iLO iHI; omega)
  refine s_lays0 (d := d) hs hm hp hq hT (fun v1 e1 es2 e2 v3 e3 h3 es5 e5 v6 e6 v7 e7 es8 e8 es9 p9 => ?_) (fun v1 e1 es2 e2 v3 e3 h3 v10 e10 h10 es5 e5 v6 e6 v7 e7 es8 e8 es9 p9 => ?_) (fun v1 e1 es2 e2 v3 e3 h3 v10 e10 h10 es5 e5 v6 e6 v7 e7 es8 e8 es9 p9 => ?_)
  all_goals
    rw [e1] at e2
    rw [e2, gI_sI_ne (Or.inr (by decide))] at e3
  · exact pre es2 es5 es8 es9 e2 1 (by rw [if_pos (Or.inl (by rw [← e3]; exact h3))]) e5 v7 (by rw [e7, e6]) e8 p9
  · rw [e2, gI_sI hs (p := 79) rfl (by decide), hz] at e10
    exact pre es2 es5 es8 es9 e2 0 (by rw [if_neg (by omega)]) e5 v7 (by rw [e7, e6]) e8 p9
  · rw [e2, gI_sI hs (p := 79) rfl (by decide), hz] at e10
    exact pre es2 es5 es8 es9 e2 1 (by rw [if_pos (by omega)]) e5 v7 (by rw [e7, e6]) e8 p9
theorem s_la50E {O : pOut} {d kc ks : Nat} {Q : pRes → Prop} {es : PH} {pr k : Int} (hs_es : sh es) (hp : 0 ≤ pr ∧ pr ≤ 22) (h365 : conOK O gG gInv kc_365) (hI : gInv es) (hq : 0 ≤ (gI es 79 27).toInt ∧ (gI es 79 27).toInt ≤ 10000) (hf : 0 ≤ (gI es 79 37).toInt ∧ (gI es 79 37).toInt ≤ 10000) (hT_es : hOK tT es)
    (K1 : ∀ es1 : PH, laysE 0 pr es es1 → aW O (d + 7) 233 kc ks Q (58, [some (.ref 143), some (.int (zI pr)), some (.int (zI 0)), none, none, none], [], es1)) :
    aW O (d + 7) 233 kc ks Q (50, [some (.ref 143), some (.int (zI pr)), some (.int (zI k)), none, none, none], [], es) := by
  refine x0 (r := (51, [some (.ref 143), some (.int (zI pr)), some (.int (zI k)), none, none, none], [.ref 143], es)) i_233_50 rfl ?_
  refine x0 (r := (52, [some (.ref 143), some (.int (zI pr)), some (.int (zI k)), none, none, none], [.int (zI 0), .ref 143], es)) i_233_51 (by rfl) ?_
  refine x0 (r := (53, [some (.ref 143), some (.int (zI pr)), some (.int (zI k)), none, none, none], [.int (zI pr), .int (zI 0), .ref 143], es)) i_233_52 rfl ?_
  refine x_call (vs := [.ref 143, .int (zI 0), .int (zI pr)]) (rs := []) i_233_53 rfl (fun _ => rfl) rfl rfl rfl rfl rfl (pCall_v (p := 79) hs_es rfl rfl rfl rfl rfl (by decide) rfl rfl rfl rfl rfl) ?_
  show aW _ _ _ _ _ _ (0, [some (.ref 143), some (.int (zI 0)), some (.int (zI pr))], [], es)
  refine lays_E hs_es hT_es h365 hI (by omega) (by omega) hq hf (fun es1 p_es1 => ?_)
  have hs_es1 : sh es1 := p_es1.1
  have hT_es1 : hOK tT es1 := p_es1.2.1
  show aW _ _ _ _ _ _ (56, [some (.ref 143), some (.int (zI pr)), some (.int (zI k)), none, none, none], [], es1)
  refine x0 (r := (57, [some (.ref 143), some (.int (zI pr)), some (.int (zI k)), none, none, none], [.int (zI 0)], es1)) i_233_56 (by rfl) ?_
  refine x0 (r := (58, [some (.ref 143), some (.int (zI pr)), some (.int (zI 0)), none, none, none], [], es1)) i_233_57 rfl ?_
  exact K1 es1 p_es1

theorem s_la218E {O : pOut} {d kc ks : Nat} {Q : pRes → Prop} {es : PH} {pr dp c b : Int} {x5 : Option Value} (hs_es : sh es) (hp : 0 ≤ pr ∧ pr ≤ 22) (hd : 0 ≤ dp ∧ dp ≤ 30) (h365 : conOK O gG gInv kc_365) (hI : gInv es) (hq : 0 ≤ (gI es 79 27).toInt ∧ (gI es 79 27).toInt ≤ 10000) (hf : 0 ≤ (gI es 79 37).toInt ∧ (gI es 79 37).toInt ≤ 10000) (hT_es : hOK tT es)
    (K1 : ∀ es1 : PH, laysE dp pr es es1 → aW O (d + 7) 233 kc ks Q (58, [some (.ref 143), some (.int (zI pr)), some (.int (zI dp)), some (.int (zI c)), some (.int (zI b)), x5], [], es1)) :
    aW O (d + 7) 233 kc ks Q (218, [some (.ref 143), some (.int (zI pr)), some (.int (zI dp)), some (.int (zI c)), some (.int (zI b)), x5], [], es) := by
  refine x0 (r := (219, [some (.ref 143), some (.int (zI pr)), some (.int (zI dp)), some (.int (zI c)), some (.int (zI b)), x5], [.ref 143], es)) i_233_218 rfl ?_
  refine x0 (r := (220, [some (.ref 143), some (.int (zI pr)), some (.int (zI dp)), some (.int (zI c)), some (.int (zI b)), x5], [.int (zI dp), .ref 143], es)) i_233_219 rfl ?_
  refine x0 (r := (221, [some (.ref 143), some (.int (zI pr)), some (.int (zI dp)), some (.int (zI c)), some (.int (zI b)), x5], [.int (zI pr), .int (zI dp), .ref 143], es)) i_233_220 rfl ?_
  refine x_call (vs := [.ref 143, .int (zI dp), .int (zI pr)]) (rs := []) i_233_221 rfl (fun _ => rfl) rfl rfl rfl rfl rfl (pCall_v (p := 79) hs_es rfl rfl rfl rfl rfl (by decide) rfl rfl rfl rfl rfl) ?_
  show aW _ _ _ _ _ _ (0, [some (.ref 143), some (.int (zI dp)), some (.int (zI pr))], [], es)
  refine lays_E hs_es hT_es h365 hI (by omega) (by omega) hq hf (fun es1 p_es1 => ?_)
  have hs_es1 : sh es1 := p_es1.1
  have hT_es1 : hOK tT es1 := p_es1.2.1
  show aW _ _ _ _ _ _ (224, [some (.ref 143), some (.int (zI pr)), some (.int (zI dp)), some (.int (zI c)), some (.int (zI b)), x5], [], es1)
  refine x0 (r := (58, [some (.ref 143), some (.int (zI pr)), some (.int (zI dp)), some (.int (zI c)), some (.int (zI b)), x5], [], es1)) i_233_224 rfl ?_
  exact K1 es1 p_es1
end
/-! the reference's search at PRICE 0: how many places, how deep -/
def cur95 (es : PH) : Nat → Nat := fun j => (gA es 95 j).toInt.toNat
/-- what is still to lay out, level by level -/
def rNf (kd : Nat → (Nat → Int) → Nat → Bool) (W : Nat → Int32) (P cu : Nat → Nat) : Nat → Nat
  | 0 => 0
  | j + 1 => rNf kd W P cu j + tSum (tG kd (23 - j) j (bdF W P j)) (1296 - cu j) (cu j)
def rXf (kd : Nat → (Nat → Int) → Nat → Bool) (W : Nat → Int32) (P cu : Nat → Nat) : Nat → Nat
  | 0 => 0
  | j + 1 => max (rXf kd W P cu j) (tMax (tD kd (23 - j) j (bdF W P j)) (1296 - cu j) (cu j))
theorem rNf_s {kd : Nat → (Nat → Int) → Nat → Bool} {W : Nat → Int32} {P cu : Nat → Nat} {j : Nat} : rNf kd W P cu (j + 1) = rNf kd W P cu j + tSum (tG kd (23 - j) j (bdF W P j)) (1296 - cu j) (cu j) := rfl
theorem rXf_s {kd : Nat → (Nat → Int) → Nat → Bool} {W : Nat → Int32} {P cu : Nat → Nat} {j : Nat} : rXf kd W P cu (j + 1) = max (rXf kd W P cu j) (tMax (tD kd (23 - j) j (bdF W P j)) (1296 - cu j) (cu j)) := rfl
theorem rNf_c {kd : Nat → (Nat → Int) → Nat → Bool} {W : Nat → Int32} {P P' cu cu' : Nat → Nat} : ∀ j, (∀ i, i < j → cu i = cu' i) → (∀ i, i + 1 < j → P i = P' i) → rNf kd W P cu j = rNf kd W P' cu' j ∧ rXf kd W P cu j = rXf kd W P' cu' j := by
  intro j
  induction j with
  | zero => intro _ _; exact ⟨rfl, rfl⟩
  | succ j ih =>
    intro h1 h2
    obtain ⟨i1, i2⟩ := ih (fun i hi => h1 i (by omega)) (fun i hi => h2 i (by omega))
    have hb : bdF W P j = bdF W P' j := bdF_congr j (fun i hi => h2 i (by omega))
    rw [rNf_s, rNf_s, rXf_s, rXf_s, i1, i2, hb, h1 j (by omega)]
    exact ⟨rfl, rfl⟩
theorem allF_c {E : Ev} {bk : Nat} {P P' : Nat → Nat} {k : Nat} (h : ∀ i, i < k → P i = P' i) (ha : allF E bk P k) : allF E bk P' k := fun i hi => by
  have h1 := ha i hi
  rw [bdF_congr i (fun j hj => h j (by omega)), h i hi] at h1
  exact h1
/-- the count, in a search that goes on with L levels -/
def bAc (E : Ev) (kd : Nat → (Nat → Int) → Nat → Bool) (T X L : Nat) (es : PH) : Prop := ((gI es 79 29).toInt = 0 ∧ ∃ n x : Nat, (gI es 79 27).toInt = (n : Int) ∧ (gI es 79 28).toInt = (x : Int) ∧ n + rNf kd E.W (pth es) (cur95 es) L = T ∧ max x (rXf kd E.W (pth es) (cur95 es) L) = X) ∨ ((gI es 79 29).toInt ≠ 0 ∧ 8000 < T)
/-- what the search comes to -/
def bEn (T X : Nat) (es : PH) : Prop := ((gI es 79 29).toInt = 0 ∧ T ≤ 8000 ∧ (gI es 79 28).toInt = (X : Int)) ∨ ((gI es 79 29).toInt ≠ 0 ∧ 8000 < T)
section
variable {O : pOut} {d kc ks : Nat} {Q : pRes → Prop} {es0 : PH} {E : Ev} {bk : Nat} {K : Nat → Nat × (Nat → Int × Nat)} {nt : Nat → Nat → Int} {wy : Int} {T X : Nat}
/-- a level is begun -/
theorem ba_push {es es' : PH} {m n x : Nat} (hs : sh es) (hF : frEk E bk) (hE : evE es = E) (hn : nW E.W bk ≤ 24) (hm : m ≤ 24) (hrm : brow es m = bdF E.W (pth es) m) (hL : laysN m 0 es es') (h28 : (gI es' 79 28).toInt = max (gI es 79 28).toInt (m : Int)) (h29 : (gI es 79 29).toInt = 0) (a1 : (gI es 79 27).toInt = (n : Int)) (hn8 : n ≤ 8000) (a2 : (gI es 79 28).toInt = (x : Int))
    (a3 : n + (rNf (zKid K nt wy (nW E.W bk)) E.W (pth es) (cur95 es) m + tN (zKid K nt wy (nW E.W bk)) (24 - m) m (bdF E.W (pth es) m)) = T) (a4 : max x (max (rXf (zKid K nt wy (nW E.W bk)) E.W (pth es) (cur95 es) m) (tX (zKid K nt wy (nW E.W bk)) (24 - m) m (bdF E.W (pth es) m))) = X) :
    pth es' = pth es ∧ bAc E (zKid K nt wy (nW E.W bk)) T X (m + 1) es' := by
  obtain ⟨l1, l2, l3, l4, l5, l6, l7, -, -⟩ := hL
  have hW : gA es 80 = E.W := by rw [← hE]; rfl
  have hz : (gI es 79 30).toInt = E.fz := by rw [← hE]; rfl
  have hp : pth es' = pth es := by
    funext i; unfold pth
    rw [fr_row l3 hs (p := 91) (t := 0) (n := 31) rfl (by decide) (fun k => by simp only [frL, mHq, true_and, and_true, false_and, and_false, or_false, false_or, not_false_eq_true, Nat.reduceEqDiff] <;> omega)]
  have hgo : goD (gA es 80) (gI es 79 30).toInt (brow es m) m := by
    rw [hz]
    exact ⟨by omega, Or.inl hF.2.1, fun h => hF.2.1 h.1⟩
  rw [if_pos hgo] at l7
  have c0 : cur95 es' m = 0 := by unfold cur95; rw [l7]; rfl
  have cj : ∀ j, j < m → cur95 es j = cur95 es' j := fun j hj => by
    unfold cur95
    rw [fr_at l3 hs (p := 95) (t := 0) (n := 31) rfl (by decide) (by simp only [frL, mHq, true_and, and_true, false_and, and_false, or_false, false_or, not_false_eq_true, Nat.reduceEqDiff] <;> omega)]
  obtain ⟨r1, r2⟩ := rNf_c (kd := zKid K nt wy (nW E.W bk)) (W := E.W) (P := pth es) (P' := pth es') m cj (fun i hi => by rw [hp])
  obtain ⟨t1, t2⟩ := tN_at (K := K) (nt := nt) (wy := wy) (nb := nW E.W bk) (k := m) (B := bdF E.W (pth es) m) hm hn
  refine ⟨hp, ?_⟩
  rw [h29] at l5
  by_cases h8 : n + 1 ≤ 8000
  · left
    rw [if_neg (by omega)] at l5
    refine ⟨l5, n + 1, max x m, by omega, by rw [h28, a2]; omega, ?_, ?_⟩
    · rw [rNf_s, ← r1, c0, hp]
      rw [t1] at a3
      show n + 1 + (_ + tSum _ 1296 0) = T
      omega
    · rw [rXf_s, ← r2, c0, hp]
      rw [t2] at a4
      show max (max x m) (max _ (tMax _ 1296 0)) = X
      rw [← a4]
      omega
  · right
    rw [if_pos (by omega)] at l5
    have := tN_1 (kd := zKid K nt wy (nW E.W bk)) (24 - m) m (bdF E.W (pth es) m)
    exact ⟨by omega, by omega⟩
theorem ba_main (h365 : conOK O gG gInv kc_365) (hT0 : hOK tT es0) (hI0 : gInv es0) (hF : frEk E bk) (hN : ntE E bk nt wy) (hK : kdR K E.W) (hB0 : ∀ P, rwB (bdF E.W P 0)) (hn : nW E.W bk ≤ 24) (KQ : ∀ es', LB E 0 es0 es' → bEn T X es' → Q (.inl none, es', kc, ks)) :
    ∀ (N : Nat) (es : PH) (dp : Int) (x3 x4 x5 : Option Value), -1 ≤ dp → dp ≤ 30 → LI E 0 es0 es dp → bAc E (zKid K nt wy (nW E.W bk)) T X (dp + 1).toNat es → allF E bk (pth es) dp.toNat → (8001 - (gI es 79 27).toInt).toNat * 50000 + (dp + 1).toNat * 1300 + (1296 - (gA es 95 dp.toNat).toInt).toNat < N →
      aW O (d + 7) 233 kc ks Q (58, [some (.ref 143), some (.int (zI 0)), some (.int (zI dp)), x3, x4, x5], [], es) := by
  have hp : (0 : Int) ≤ 0 ∧ (0 : Int) ≤ 22 := ⟨by omega, by omega⟩
  intro N
  induction N with
  | zero => intro es dp x3 x4 x5 h1 h2 h3 _ _ h4; omega
  | succ N ih =>
    intro es dp x3 x4 x5 hd1 hd2 hLI hac hal hN2
    have hb := hLI.bs
    have hT := hb.hT
    have hpos := hb.pos
    refine s_la58 (d := d + 7) (sh_of hT) hp ⟨hd1, hd2⟩ hT (fun hneg => KQ es hb ?_) (fun hnn v2 e2 h2 => KQ es hb ?_) (fun hnn v2 e2 h2 v4 e4 => ?_)
    · rcases hac with ⟨h0, n, x, a1, a2, a3, a4⟩ | h
      · left
        have hs := hb.spent h0
        rw [show (dp + 1).toNat = 0 by omega] at a3 a4
        have z1 : rNf (zKid K nt wy (nW E.W bk)) E.W (pth es) (cur95 es) 0 = 0 := rfl
        have z2 : rXf (zKid K nt wy (nW E.W bk)) E.W (pth es) (cur95 es) 0 = 0 := rfl
        exact ⟨h0, by omega, by rw [a2]; omega⟩
      · exact Or.inr h
    · rcases hac with ⟨h0, -⟩ | h
      · exact absurd (e2.trans h0) h2
      · exact Or.inr h
    · obtain ⟨D, rfl⟩ := Int.eq_ofNat_of_zero_le (show 0 ≤ dp by omega)
      rw [Int.toNat_natCast] at e4 hal
      have hcb := cur_bd hT (i := D) (by omega)
      rw [← e4] at hcb
      obtain ⟨c0, rfl⟩ := Int.eq_ofNat_of_zero_le hcb.1
      have hsp0 : (gI es 79 29).toInt = 0 := by omega
      have hsp := hb.spent hsp0
      have e5 : ((D : Int) + 1).toNat = D + 1 := by omega
      rcases hac with ⟨-, n, x, a1, a2, a3, a4⟩ | ⟨h, -⟩
      rotate_left
      · exact absurd hsp0 h
      rw [e5, rNf_s] at a3
      rw [e5, rXf_s] at a4
      have hcu : cur95 es D = c0 := by unfold cur95; omega
      rw [hcu] at a3 a4
      have hbel := hLI.below
      rw [Int.toNat_natCast] at hbel
      have hBr : rwB (bdF E.W (pth es) D) := bdF_r (hB0 _) D (fun i hi => (hbel i hi).1)
      have hrow := hLI.rows D (Int.le_refl _)
      have kz : ∀ c, c < 1296 → crow es D c = 0 → zKid K nt wy (nW E.W bk) D (bdF E.W (pth es) D) c = false := fun c hc h0 => by
        cases hkd : zKid K nt wy (nW E.W bk) D (bdF E.W (pth es) D) c with
        | false => rfl
        | true =>
          exfalso
          unfold zKid at hkd
          rw [Bool.and_eq_true, Bool.and_eq_true] at hkd
          have h1 := (can_is hK hBr hc).mpr hkd.2.1
          rw [hrow.2.1] at h0
          exact h1 h0
      refine la_scan (by omega) hp hT (1296 - c0) c0 (by omega) (fun hz y3 => ?_) (fun C hC1 hC2 hC3 hC4 => ?_)
      · have g1 : ∀ i, c0 ≤ i → i < c0 + (1296 - c0) → tG (zKid K nt wy (nW E.W bk)) (23 - D) D (bdF E.W (pth es) D) i = 0 := fun i q1 q2 => by
          unfold tG
          rw [kz i (by omega) (hz i (by omega) (by omega))]
          rfl
        have g2 : ∀ i, c0 ≤ i → i < c0 + (1296 - c0) → tD (zKid K nt wy (nW E.W bk)) (23 - D) D (bdF E.W (pth es) D) i = 0 := fun i q1 q2 => by
          unfold tD
          rw [kz i (by omega) (hz i (by omega) (by omega))]
          rfl
        rw [tSum_z _ _ g1] at a3
        rw [tMax_z _ _ g2] at a4
        have e6 : ((D : Int) + (-1) + 1).toNat = D := by omega
        refine ih es ((D : Int) + (-1)) y3 x4 x5 (by omega) (by omega) ⟨hb, fun k hk => hLI.rows k (by omega), fun k hk => hbel k (by omega), ?_⟩ ?_ (fun i hi => hal i (by omega)) ?_
        · intro Pt L h1 h2' h3
          rcases hLI.compl Pt L h1 h2' h3 with h | ⟨j, h5, h6, h7, h8⟩
          · exact Or.inl h
          · right
            by_cases hjD : j = D
            · exfalso
              subst hjD
              obtain ⟨r1, r2, -⟩ := h2' j h6
              rw [caE_congr h7, ← (hLI.rows j (Int.le_refl _)).2.1] at r2
              exact r2 (hz (Pt j) (by omega) r1)
            · exact ⟨j, by omega, h6, h7, h8⟩
        · rw [e6]
          exact Or.inl ⟨hsp0, n, x, a1, a2, by omega, by rw [← a4, Nat.max_zero]⟩
        · have hc2 := cur_bd hT (i := ((D : Int) + (-1)).toNat) (by omega)
          rw [e5] at hN2
          rw [e6]
          exact mea1 hN2 hc2.1
      · have hgo : goE E (pth es) D := by
          by_cases hg : goE E (pth es) D
          · exact hg
          · have := hrow.2.2 hg
            omega
        have hD29 : D ≤ 29 := by have := hgo.1; omega
        have e7 : ((D : Int)).toNat = D := Int.toNat_natCast D
        rw [e5, e7, ← e4] at hN2
        -- up to C
        have g1 : ∀ i, c0 ≤ i → i < c0 + (C - c0) → tG (zKid K nt wy (nW E.W bk)) (23 - D) D (bdF E.W (pth es) D) i = 0 := fun i q1 q2 => by
          unfold tG
          rw [kz i (by omega) (hC4 i (by omega) (by omega))]
          rfl
        have g2 : ∀ i, c0 ≤ i → i < c0 + (C - c0) → tD (zKid K nt wy (nW E.W bk)) (23 - D) D (bdF E.W (pth es) D) i = 0 := fun i q1 q2 => by
          unfold tD
          rw [kz i (by omega) (hC4 i (by omega) (by omega))]
          rfl
        rw [show 1296 - c0 = (C - c0) + ((1296 - (C + 1)) + 1) by omega, tSum_skip _ _ _ g1, show c0 + (C - c0) = C by omega, tSum_s] at a3
        rw [show 1296 - c0 = (C - c0) + ((1296 - (C + 1)) + 1) by omega, tMax_skip _ _ _ g2, show c0 + (C - c0) = C by omega, tMax_s] at a4
        -- what the step leaves
        have stp : ∀ es5, stepN E D C es es5 → (∀ i, i < D → pth es i = pth es5 i) ∧ gI es5 79 28 = gI es 79 28 ∧ rNf (zKid K nt wy (nW E.W bk)) E.W (pth es5) (cur95 es5) (D + 1) = rNf (zKid K nt wy (nW E.W bk)) E.W (pth es) (cur95 es) D + tSum (tG (zKid K nt wy (nW E.W bk)) (23 - D) D (bdF E.W (pth es) D)) (1296 - (C + 1)) (C + 1) ∧ rXf (zKid K nt wy (nW E.W bk)) E.W (pth es5) (cur95 es5) (D + 1) = max (rXf (zKid K nt wy (nW E.W bk)) E.W (pth es) (cur95 es) D) (tMax (tD (zKid K nt wy (nW E.W bk)) (23 - D) D (bdF E.W (pth es) D)) (1296 - (C + 1)) (C + 1)) := by
          intro es5 hst
          obtain ⟨s1, s2, s3, s4, -, -, -⟩ := hst
          have hs := sh_of hT
          have cg : ∀ i, i < D → pth es i = pth es5 i := fun i hi => by
            unfold pth
            rw [fr_at s2 hs (p := 91) (t := 0) (n := 31) rfl (by decide) (by simp only [frS, mHq, true_and, and_true, false_and, and_false, or_false, false_or, not_false_eq_true, Nat.reduceEqDiff] <;> omega)]
          have cc : ∀ j, j < D → cur95 es j = cur95 es5 j := fun j hj => by
            unfold cur95
            rw [fr_at s2 hs (p := 95) (t := 0) (n := 31) rfl (by decide) (by simp only [frS, mHq, true_and, and_true, false_and, and_false, or_false, false_or, not_false_eq_true, Nat.reduceEqDiff] <;> omega)]
          have cD : cur95 es5 D = C + 1 := by unfold cur95; rw [s3]; omega
          obtain ⟨r1, r2⟩ := rNf_c (kd := zKid K nt wy (nW E.W bk)) (W := E.W) D cc (fun i hi => cg i (by omega))
          refine ⟨cg, fr_fld s2 hs (p := 79) (b := 28) rfl (by simp only [frS, mHq, true_and, and_true, false_and, and_false, or_false, false_or, not_false_eq_true, Nat.reduceEqDiff] <;> omega), ?_, ?_⟩
          · rw [rNf_s, ← r1, cD, bdF_congr D (fun i hi => (cg i hi).symm)]
          · rw [rXf_s, ← r2, cD, bdF_congr D (fun i hi => (cg i hi).symm)]
        have kid : ∀ es5, stepN E D C es es5 → (∀ i, i < D → pth es i = pth es5 i) → (soF E (pth es5) (D + 1) ≤ 0 ↔ zKid K nt wy (nW E.W bk) D (bdF E.W (pth es) D) C = true) := by
          intro es5 hst cg
          have hB5 : bdF E.W (pth es5) D = bdF E.W (pth es) D := bdF_congr D (fun i hi => (cg i hi).symm)
          have h := kid_is (K := K) (P := pth es5) (k := D) (c := C) hF hN hK (by rw [hB5]; exact hBr) (allF_c cg hal) hst.2.2.2.1 (by omega)
          rw [hB5] at h
          have hca : caE E (pth es5) D C ≠ 0 := by
            rw [← caE_congr cg, ← hrow.2.1]
            exact hC3
          exact ⟨fun h1 => h.mp ⟨hca, h1⟩, fun h1 => (h.mpr h1).2⟩
        refine la_step (d := d) (E := E) hD29 (by omega) hp hT hb.hE hrow.1 (fun es5 y4 y5 hst hso => ?_) (fun es5 y4 y5 hst hso => ?_) x4 x5
        · obtain ⟨t1, t2, t3, t4, t5, t6⟩ := LI_step hD29 hLI (by omega) hC3 (fun x h1 h3 => hC4 x (by omega) h3) (by omega) hst
          obtain ⟨cg, q28, qN, qX⟩ := stp es5 hst
          have hkd := (kid es5 hst cg).mp hso
          have hI5 : gInv es5 := gInv_keep t1.hf (by decide) hT0 hI0
          have hfnd := t1.fnd
          have hpos5 := t1.pos
          refine s_la218E (d := d) (sh_of t1.hT) hp ⟨by omega, by omega⟩ h365 hI5 ⟨by omega, by omega⟩ ⟨by omega, by omega⟩ t1.hT (fun es6 p6 => ?_)
          unfold laysE at p6
          obtain ⟨-, -, p6', p28⟩ := p6
          unfold laysP at p6'
          rw [e5] at p6'
          obtain ⟨u1, u2⟩ := LI_lays (m := D + 1) (by omega) hp t1 (by rw [t2]; exact hsp0) t4 hst.2.2.2.2.1 hst.2.2.2.2.2.2 t5 t6 p6'
          have hk24 : D < nW E.W bk := by
            unfold zKid at hkd
            rw [Bool.and_eq_true, decide_eq_true_iff] at hkd
            exact hkd.1
          have hzb : bdF E.W (pth es5) (D + 1) = zBd (bdF E.W (pth es) D) C := by
            rw [bdF_s (by rw [hst.2.2.2.1]; omega), hst.2.2.2.1, bdF_congr D (fun i hi => (cg i hi).symm)]
          have w1 : tG (zKid K nt wy (nW E.W bk)) (23 - D) D (bdF E.W (pth es) D) C = tN (zKid K nt wy (nW E.W bk)) (24 - (D + 1)) (D + 1) (bdF E.W (pth es5) (D + 1)) := by
            unfold tG
            rw [if_pos hkd, hzb, show 24 - (D + 1) = 23 - D by omega]
          have w2 : tD (zKid K nt wy (nW E.W bk)) (23 - D) D (bdF E.W (pth es) D) C = tX (zKid K nt wy (nW E.W bk)) (24 - (D + 1)) (D + 1) (bdF E.W (pth es5) (D + 1)) := by
            unfold tD
            rw [if_pos hkd, hzb, show 24 - (D + 1) = 23 - D by omega]
          rw [w1] at a3
          rw [w2] at a4
          obtain ⟨hpp, hac6⟩ := ba_push (E := E) (K := K) (nt := nt) (wy := wy) (T := T) (X := X) (n := n) (x := x) (sh_of t1.hT) hF t1.hE hn (show D + 1 ≤ 24 by omega) hst.2.2.2.2.1.1 p6' (by rw [p28]; omega) (by rw [t2]; exact hsp0) (by rw [t3]; exact a1) (by omega) (by rw [q28]; exact a2) (by rw [qN]; omega) (by rw [qX, ← a4]; omega)
          have e8 : ((D : Int) + 1 + 1).toNat = D + 2 := by omega
          refine ih es6 ((D : Int) + 1) _ _ _ (by omega) (by omega) (by rw [show ((D : Int) + 1) = ((D + 1 : Nat) : Int) by omega]; exact u1) (by rw [e8]; exact hac6) (by rw [e5, hpp]; exact ((so_0 hF).mp hso).2) ?_
          have hc6 := cur_bd u1.bs.hT (i := ((D : Int) + 1).toNat) (by omega)
          have hp6 := u1.bs.pos
          rw [t3] at u2
          rw [e8]
          exact mea2 hN2 u2 hsp hD29 hc6.1
        · obtain ⟨t1, t2, t3, t4, t5, t6⟩ := LI_step hD29 hLI (by omega) hC3 (fun x h1 h3 => hC4 x (by omega) h3) (by omega) hst
          obtain ⟨cg, q28, qN, qX⟩ := stp es5 hst
          have hkd : zKid K nt wy (nW E.W bk) D (bdF E.W (pth es) D) C = false := by
            cases h : zKid K nt wy (nW E.W bk) D (bdF E.W (pth es) D) C with
            | false => rfl
            | true => exact absurd ((kid es5 hst cg).mpr h) hso
          have w1 : tG (zKid K nt wy (nW E.W bk)) (23 - D) D (bdF E.W (pth es) D) C = 0 := by
            unfold tG
            rw [hkd]
            rfl
          have w2 : tD (zKid K nt wy (nW E.W bk)) (23 - D) D (bdF E.W (pth es) D) C = 0 := by
            unfold tD
            rw [hkd]
            rfl
          rw [w1] at a3
          rw [w2] at a4
          refine ih es5 (D : Int) _ _ _ (by omega) (by omega) ⟨t1, fun k hk => t4 k (by omega), ?_, ?_⟩ ?_ ?_ ?_
          · rw [e7]; exact fun k hk => t5 k (by omega)
          · intro Pt L h1 h2' h3
            rcases t6 Pt L h1 h2' h3 with h | ⟨j, h5, h6, h7, h8⟩ | ⟨h5, h6⟩
            · exact Or.inl h
            · exact Or.inr ⟨j, by omega, h6, h7, h8⟩
            · exfalso
              have hEv : evOK E := by rw [← hb.hE]; exact evOK_of hT
              have := so_le_wh hEv (P := Pt) h5
              rw [soF_congr h6] at this
              have := h3.1
              omega
          · rw [e5]
            left
            refine ⟨by rw [t2]; exact hsp0, n, x, by rw [t3]; exact a1, by rw [q28]; exact a2, by rw [qN]; omega, by rw [qX, ← a4, Nat.zero_max]⟩
          · rw [e7]; exact allF_c cg hal
          · rw [e5, e7, t3, hst.2.2.1]
            exact mea3 hN2 (by omega) (by omega)
end
section
variable {O : pOut} {d kc ks : Nat} {Q : pRes → Prop} {es es0 : PH} {pr : Int} {E : Ev}
theorem ba_all {bk : Nat} {K : Nat → Nat × (Nat → Int × Nat)} {nt : Nat → Nat → Int} {wy : Int} (h365 : conOK O gG gInv kc_365) (hT : hOK tT es) (hI : gInv es) (hF : frEk (evE es) bk) (hN : ntE (evE es) bk nt wy) (hK : kdR K (evE es).W) (hBz : ∀ P, rwB (bdF (evE es).W P 0)) (hnw : nW (evE es).W bk ≤ 24) (hq0 : (gI es 79 27).toInt = 0) (hn : (gI es 79 29).toInt = 0)
    (KQ : ∀ es', LB (evE es) 0 es es' → bEn (tN (zKid K nt wy (nW (evE es).W bk)) 24 0 (bdF (evE es).W (fun _ => 0) 0)) (tX (zKid K nt wy (nW (evE es).W bk)) 24 0 (bdF (evE es).W (fun _ => 0) 0)) es' → Q (.inl none, es', kc, ks)) :
    aW O (d + 7) 233 kc ks Q (0, [some (.ref 143), some (.int (zI 0)), none, none, none, none], [], es) := by
  have hp : (0 : Int) ≤ 0 ∧ (0 : Int) ≤ 22 := ⟨by omega, by omega⟩
  have hq : 0 ≤ (gI es 79 27).toInt ∧ (gI es 79 27).toInt ≤ 8000 := ⟨by omega, by omega⟩
  have hs := sh_of hT
  refine s_la0 (d := d + 7) hs hT ?_
  refine la_zero (d := d + 1) hp hT (fun es1 hT1 hf1 hz es5 h5 => ?_) 24 0 es (by omega) hT (fr_refl _ _) (fun i hi => by omega)
  obtain ⟨es2, es3, es4, e2, e3, p4, p5⟩ := h5
  have hT2 : hOK tT es2 := by rw [e2]; exact hOK_sI hT1 (p := 79) (b := 37) (lo := iLO) (hi := iHI) rfl rfl (i32_rng _)
  have hT3 : hOK tT es3 := by rw [e3]; exact hOK_sI hT2 (p := 79) (b := 28) (lo := iLO) (hi := iHI) rfl rfl (i32_rng _)
  have f3 : fr [(96, 0, 0, 24), (97, 0, 0, 24), (79, 39, 0, 1), (79, 30, 0, 1)] es es3 := by
    refine fr_trans (fr_wk (by simp only [mAl, mHq, true_and, and_true, false_and, and_false, or_false, false_or, not_false_eq_true, Nat.reduceEqDiff] <;> (repeat' apply And.intro) <;> intros <;> omega) hf1) ?_
    rw [e3, e2]
    exact fr_trans (fr_sI (mIn_yes (by simp only [mHq, true_and, and_true, false_and, and_false, or_false, false_or, not_false_eq_true, Nat.reduceEqDiff] <;> omega))) (fr_sI (mIn_yes (by simp only [mHq, true_and, and_true, false_and, and_false, or_false, false_or, not_false_eq_true, Nat.reduceEqDiff] <;> omega)))
  obtain ⟨hs4, hT4, m4⟩ := p4
  have f4 : fr [(96, 0, 0, 24), (97, 0, 0, 24), (79, 39, 0, 1), (79, 30, 0, 1), (87, 0, 0, 36)] es es4 := fr_trans (fr_wk (by simp only [mAl, mHq, true_and, and_true, false_and, and_false, or_false, false_or, not_false_eq_true, Nat.reduceEqDiff] <;> (repeat' apply And.intro) <;> intros <;> omega) f3) (fr_wk (by simp only [mAl, mHq, true_and, and_true, false_and, and_false, or_false, false_or, not_false_eq_true, Nat.reduceEqDiff] <;> (repeat' apply And.intro) <;> intros <;> omega) m4.2.2.1)
  have p5' : pricesN 0 es4 es5 := p5
  have f5 := p5'.2.2.1
  have hT5 := p5'.2.1
  have hf5 : fr frA es es5 := fr_trans (fr_wk (by simp only [mAl, frA, mHq, true_and, and_true, false_and, and_false, or_false, false_or, not_false_eq_true, Nat.reduceEqDiff] <;> (repeat' apply And.intro) <;> intros <;> omega) f4) (fr_wk (by simp only [mAl, frP, frA, mHq, true_and, and_true, false_and, and_false, or_false, false_or, not_false_eq_true, Nat.reduceEqDiff] <;> (repeat' apply And.intro) <;> intros <;> omega) f5)
  have hE4 : evE es4 = evE es := evE_fr f4 hs (fun k => by simp only [mHq, true_and, and_true, false_and, and_false, or_false, false_or, not_false_eq_true, Nat.reduceEqDiff] <;> omega) (fun k => by simp only [mHq, true_and, and_true, false_and, and_false, or_false, false_or, not_false_eq_true, Nat.reduceEqDiff] <;> omega) (fun k => by simp only [mHq, true_and, and_true, false_and, and_false, or_false, false_or, not_false_eq_true, Nat.reduceEqDiff] <;> omega) (by simp only [mHq, true_and, and_true, false_and, and_false, or_false, false_or, not_false_eq_true, Nat.reduceEqDiff] <;> omega) (by simp only [mHq, true_and, and_true, false_and, and_false, or_false, false_or, not_false_eq_true, Nat.reduceEqDiff] <;> omega)
  have hE5 : evE es5 = evE es := by
    rw [← hE4]
    exact evE_fr f5 hs4 (fun k => by simp only [frP, mHq, true_and, and_true, false_and, and_false, or_false, false_or, not_false_eq_true, Nat.reduceEqDiff] <;> omega) (fun k => by simp only [frP, mHq, true_and, and_true, false_and, and_false, or_false, false_or, not_false_eq_true, Nat.reduceEqDiff] <;> omega) (fun k => by simp only [frP, mHq, true_and, and_true, false_and, and_false, or_false, false_or, not_false_eq_true, Nat.reduceEqDiff] <;> omega) (by simp only [frP, mHq, true_and, and_true, false_and, and_false, or_false, false_or, not_false_eq_true, Nat.reduceEqDiff] <;> omega) (by simp only [frP, mHq, true_and, and_true, false_and, and_false, or_false, false_or, not_false_eq_true, Nat.reduceEqDiff] <;> omega)
  obtain ⟨r1, r2, r3⟩ := prices_E (P := pth es5) hT4 hE4 p5' (fun b hb ha n hn => rwS_sumF0 hE4 n hn)
  have g27 : gI es5 79 27 = gI es 79 27 := by
    rw [fr_fld f5 hs4 (p := 79) (b := 27) rfl (by simp only [frP, mHq, true_and, and_true, false_and, and_false, or_false, false_or, not_false_eq_true, Nat.reduceEqDiff] <;> omega)]
    exact fr_fld f4 hs (p := 79) (b := 27) rfl (by simp only [mHq, true_and, and_true, false_and, and_false, or_false, false_or, not_false_eq_true, Nat.reduceEqDiff] <;> omega)
  have g29 : gI es5 79 29 = gI es 79 29 := by
    rw [fr_fld f5 hs4 (p := 79) (b := 29) rfl (by simp only [frP, mHq, true_and, and_true, false_and, and_false, or_false, false_or, not_false_eq_true, Nat.reduceEqDiff] <;> omega)]
    exact fr_fld f4 hs (p := 79) (b := 29) rfl (by simp only [mHq, true_and, and_true, false_and, and_false, or_false, false_or, not_false_eq_true, Nat.reduceEqDiff] <;> omega)
  have g37 : (gI es5 79 37).toInt = 0 := by
    rw [fr_fld f5 hs4 (p := 79) (b := 37) rfl (by simp only [frP, mHq, true_and, and_true, false_and, and_false, or_false, false_or, not_false_eq_true, Nat.reduceEqDiff] <;> omega), fr_fld m4.2.2.1 (sh_of hT3) (p := 79) (b := 37) rfl (by simp only [mHq, true_and, and_true, false_and, and_false, or_false, false_or, not_false_eq_true, Nat.reduceEqDiff] <;> omega), e3, gI_sI_ne (Or.inr (by decide)), e2, gI_sI (sh_of hT1) (p := 79) rfl (by decide)]
    rfl
  have g28 : (gI es5 79 28).toInt = 0 := by
    rw [fr_fld f5 hs4 (p := 79) (b := 28) rfl (by simp only [frP, mHq, true_and, and_true, false_and, and_false, or_false, false_or, not_false_eq_true, Nat.reduceEqDiff] <;> omega), fr_fld m4.2.2.1 (sh_of hT3) (p := 79) (b := 28) rfl (by simp only [mHq, true_and, and_true, false_and, and_false, or_false, false_or, not_false_eq_true, Nat.reduceEqDiff] <;> omega), e3, gI_sI (sh_of hT2) (p := 79) rfl (by decide)]
    rfl
  have j96 : ∀ k, k < 24 → gJ es5 96 k = 0 := fun k hk => by
    rw [fr_gJ f5 hs4 (p := 96) (n := 24) rfl (by simp only [frP, mHq, true_and, and_true, false_and, and_false, or_false, false_or, not_false_eq_true, Nat.reduceEqDiff] <;> omega), fr_gJ m4.2.2.1 (sh_of hT3) (p := 96) (n := 24) rfl (by simp only [mHq, true_and, and_true, false_and, and_false, or_false, false_or, not_false_eq_true, Nat.reduceEqDiff] <;> omega), e3, gJ_sI, e2, gJ_sI, hz k hk]
  have hLB : LB (evE es) 0 es es5 := by
    refine ⟨hT5, hf5, hE5, by rw [g27]; omega, fun _ => by rw [g27]; omega, by rw [g37, g27]; omega, Or.inl g37, fun k hk => ?_⟩
    rw [j96 k hk, g27]
    rw [show (0 : Int64).toInt = 0 from rfl]
    omega
  have hB0 : brow es5 0 = bdF (evE es).W (pth es5) 0 := by
    have : brow es5 0 = brow es4 0 := by
      funext i; unfold brow
      rw [fr_row f5 hs4 (p := 87) (t := 0) (n := 1116) rfl (by decide) (fun k => by simp only [frP, mHq, true_and, and_true, false_and, and_false, or_false, false_or, not_false_eq_true, Nat.reduceEqDiff] <;> omega)]
    rw [this, brow_begins (P := pth es5) m4]
    have h80 : gA es3 80 = gA es 80 := fr_row f3 hs (p := 80) (t := 0) (n := 2125) (sp := tS80) rfl (by decide) (fun k => by simp only [mHq, true_and, and_true, false_and, and_false, or_false, false_or, not_false_eq_true, Nat.reduceEqDiff] <;> omega)
    rw [h80]; rfl
  have hI5 : gInv es5 := gInv_keep hf5 (by decide) hT hI
  refine s_la50E (d := d) (sh_of hT5) hp h365 hI5 ⟨by rw [g27]; omega, by rw [g27]; omega⟩ ⟨by omega, by omega⟩ hT5 (fun es6 p6 => ?_)
  unfold laysE at p6
  obtain ⟨-, -, p6b, p28⟩ := p6
  have p6' : laysN 0 0 es5 es6 := p6b
  obtain ⟨u1, u2⟩ := LI_lays (m := 0) (by omega) hp hLB (by rw [g29]; exact hn) (fun k hk => by omega) ⟨hB0, r1⟩ r3 (fun k hk => by omega) (fun Pt L h1 h2 h3 => Or.inr (Or.inr ⟨by omega, fun i hi => by omega⟩)) p6'
  have rw0 : rwsAt (evE es) (pth es5) es5 0 := ⟨hB0, r1⟩
  obtain ⟨hpp, hac⟩ := ba_push (E := evE es) (K := K) (nt := nt) (wy := wy) (n := 0) (x := 0) (T := tN (zKid K nt wy (nW (evE es).W bk)) 24 0 (bdF (evE es).W (fun _ => 0) 0)) (X := tX (zKid K nt wy (nW (evE es).W bk)) 24 0 (bdF (evE es).W (fun _ => 0) 0)) (sh_of hT5) hF hE5 hnw (show 0 ≤ 24 by omega) hB0 p6' (by rw [p28]; rfl) (by rw [g29]; exact hn) (by rw [g27, hq0]; rfl) (by omega) (by rw [g28]; rfl)
    (by show 0 + (0 + tN _ 24 0 _) = _; rw [Nat.zero_add, Nat.zero_add]; rfl) (by show max 0 (max 0 (tX _ 24 0 _)) = _; rw [Nat.zero_max, Nat.zero_max]; rfl)
  exact ba_main (E := evE es) h365 hT hI hF hN hK hBz hnw KQ _ es6 0 none none none (by omega) (by omega) u1 hac (fun i hi => absurd hi (by show ¬ i < 0; omega)) (Nat.lt_succ_self _)
end
