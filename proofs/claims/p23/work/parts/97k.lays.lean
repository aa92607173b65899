/-! lays -/
theorem gE_1 {a lo hi : Int} (h : lo ≤ a ∧ a ≤ hi) : gE [a] [(lo, hi)] := by
  refine ⟨rfl, fun x v hx => ?_⟩
  cases x with
  | zero => cases hx; exact h
  | succ x => simp at hx
theorem mIn_mem {M : List aMod} {p k i : Nat} (h : mIn M p k i = true) : ∃ m ∈ M, m.1 = p ∧ m.2.1 = k := by
  unfold mIn at h
  rw [List.any_eq_true] at h
  obtain ⟨m, hm, h2⟩ := h
  simp only [Bool.and_eq_true, beq_iff_eq] at h2
  exact ⟨m, hm, h2.1, h2.2.1⟩
theorem gInv_keep {M : List aMod} {es es' : PH} (h : fr M es es') (hM : M.all (fun m => (!(Nat.beq m.1 80)) && ((!(Nat.beq m.1 81)) && (!(Nat.beq m.1 79 && Nat.beq m.2.1 5)))) = true) (hT : hOK tT es) (hI : gInv es) : gInv es' := by
  have hlen := hOK_len hT
  have hno : ∀ p k i, p = 80 ∨ p = 81 ∨ (p = 79 ∧ k = 5) → mIn M p k i = false := by
    intro p k i hp
    rw [← Bool.not_eq_true]
    intro hm
    obtain ⟨m, h1, h2, h3⟩ := mIn_mem hm
    have h4 := List.all_eq_true.mp hM m h1
    simp only [Bool.and_eq_true, Bool.not_eq_true', Bool.and_eq_false_iff, ← Bool.not_eq_true, Nat.beq_eq] at h4
    omega
  exact gInv_cells h.1 (fr_field h (by omega) (hno _ _ _ (Or.inr (Or.inr ⟨rfl, rfl⟩)))) (fun p i hp _ => fr_cell h (by omega) (hno _ _ _ (by omega))) hI
section
variable {O : pOut} {d kc ks : Nat} {Q : pRes → Prop} {es : PH}
theorem con_voidI {I : PH → Prop} {c : aCon} (h : conOK O gG I c) (hd : c.2.1 ≤ d) {ρ : List Int} {vs : List Value} {zrw : pMrow} (hrow : pM[c.1]? = some zrw) (hE : gE ρ c.2.2.1.1) (hC : c.2.2.1.2 = []) (hS : gS ρ c.2.2.2.1 vs) (hT : hOK tT es) (hI : I es) (hF : c.2.2.2.2.1 = []) (ho : c.2.2.2.2.2.2.all (fun o => Nat.beq o.2.1.1 0 && (Nat.beq o.2.2.2.1 0 && Nat.beq o.2.2.2.2 0)) = true)
    (K : ∀ (es1 : PH), hOK tT es1 → I es1 → fr c.2.2.2.2.2.1 es es1 → Q (.inl none, es1, kc, ks)) : aW O d c.1 kc ks Q (0, pEntry vs zrw.2.2.1, [], es) := by
  obtain ⟨zr2, hr2, h2⟩ := h
  cases Option.some.inj (hr2.symm.trans hrow)
  refine aW_shift (h2 d hd ρ _ es hE (by rw [hC]; intro f hf; cases hf) hS hT hI (by rw [hF]; intro t ht; cases ht)) (fun o hoo => ?_)
  obtain ⟨p1, pI, p2, out, hout, τ, q1, q2, q3, q4, q5, q6⟩ := hoo
  have hz := List.all_eq_true.mp ho out hout
  simp only [Bool.and_eq_true, Nat.beq_eq] at hz
  obtain ⟨⟨oE, oc⟩, ⟨ok, vk, vf⟩, oF, m1, m2⟩ := out
  obtain ⟨r, es', c1, c2⟩ := o
  simp only at hz
  obtain ⟨z1, z3, z4⟩ := hz
  subst z1; subst z3; subst z4
  simp only at q6 q4 q5
  subst q6
  have e1 : c1 = 0 := by omega
  have e2 : c2 = 0 := by omega
  subst e1; subst e2
  exact K es' p1 pI p2
end
def findsT (m sd : Int) (es es' : PH) : Prop := sh es' ∧ hOK tT es' ∧ findsP m sd es es'
section
variable {O : pOut} {d kc ks : Nat} {Q : pRes → Prop} {es : PH}
theorem finds_T {m sd : Int} (hs : sh es) (hT : hOK tT es) (hd : 0 ≤ m ∧ m ≤ 30) (h1 : 0 ≤ sd ∧ sd ≤ 1) (K : ∀ es', findsT m sd es es' → Q (.inl none, es', kc, ks)) :
    aW O (d + 5) 218 kc ks Q (0, [some (.ref 143), some (.int (zI m)), some (.int (zI sd)), none], [], es) :=
  finds_spec hs hd h1 hT (fun es' h => K es' ⟨h.1, h.2.1 hT, h⟩)
end
def frL (m : Nat) : List aMod := [(79, 29, 0, 1), (79, 30, 0, 1), (79, 31, 0, 1), (79, 39, 0, 1), (79, 43, 0, 1), (79, 44, 0, 1), (79, 45, 0, 1), (79, 46, 0, 1), (85, 0, 0, 6), (86, 0, 0, 400), (88, 0, 1296 * m, 1296 * (m + 1)), (95, 0, m, m + 1), (96, 0, 0, 24), (97, 0, 0, 24), (98, 0, 0, 30), (99, 0, 0, 30), (100, 0, 0, 30), (101, 0, 0, 31)]
def canF (W : Nat → Int32) (bd : Nat → Int) (m : Nat) : Nat → Int32 := findF W bd ((m : Int) % 2) 36 0 (fun _ => 0)
def metS (m : Nat) (es es' : PH) : Prop := (gI es' 79 37).toInt = (gI es 79 37).toInt + 1 ∧ (∀ k, gJ es' 96 k = if k = (gI es 79 26).toInt.toNat then gJ es 96 k + 1 else gJ es 96 k) ∧
    ((gI es 79 37).toInt = 0 → (gI es' 79 41).toInt = (m : Int) ∧ ∀ k, k < m → gA es' 98 k = gA es 91 k) ∧ ((gI es 79 37).toInt ≠ 0 → gI es' 79 41 = gI es 79 41 ∧ gA es' 98 = gA es 98)
def metN (es es' : PH) : Prop := gI es' 79 37 = gI es 79 37 ∧ (∀ k, gJ es' 96 k = gJ es 96 k) ∧ gI es' 79 41 = gI es 79 41 ∧ gA es' 98 = gA es 98
def laysN (m : Nat) (pr : Int) (es es' : PH) : Prop := sh es' ∧ hOK tT es' ∧ fr (frL m) es es' ∧ (gI es' 79 27).toInt = (gI es 79 27).toInt + 1 ∧
  ((gI es' 79 29).toInt = if (gI es 79 29).toInt ≠ 0 ∨ 8000 < (gI es 79 27).toInt + 1 then 1 else 0) ∧ crow es' m = canF (gA es 80) (brow es m) m ∧
  ((gA es' 95 m).toInt = @ite Int (goD (gA es 80) (gI es 79 30).toInt (brow es m) m) (Classical.propDecidable _) 0 1296) ∧ (¬ metD m pr es → metN es es') ∧ (metD m pr es → metS m es es')
def laysP (m pr : Int) (es es' : PH) : Prop := laysN m.toNat pr es es'
def frM7 (m : Nat) : List aMod := [(79, 29, 0, 1), (79, 30, 0, 1), (79, 31, 0, 1), (88, 0, 1296 * m, 1296 * (m + 1)), (85, 0, 0, 6), (101, 0, 0, 31), (86, 0, 0, 400)]
theorem fr_7L {es es' : PH} {m : Nat} (h : fr (frM7 m) es es') : fr (frL m) es es' := fr_wk (by simp only [mAl, frM7, frL, mHq, true_and, and_true, false_and, and_false, or_false, false_or, not_false_eq_true, Nat.reduceEqDiff] <;> (repeat' apply And.intro) <;> intros <;> omega) h
theorem fr_MeL {es es' : PH} {m : Nat} (h : fr frMe es es') : fr (frL m) es es' := fr_wk (by simp only [mAl, frMe, frL, mHq, true_and, and_true, false_and, and_false, or_false, false_or, not_false_eq_true, Nat.reduceEqDiff] <;> (repeat' apply And.intro) <;> intros <;> omega) h
/-- what meets and the cursor leave, seen from the start of lays -/
theorem lays_same {es es10 : PH} {m : Nat} {pr : Int} (hs : sh es) (fA : fr (frM7 m) es es10) : gA es10 80 = gA es 80 ∧ gA es10 91 = gA es 91 ∧ gA es10 98 = gA es 98 ∧ brow es10 m = brow es m ∧ gI es10 79 30 = gI es 79 30 ∧ gI es10 79 26 = gI es 79 26 ∧ gI es10 79 37 = gI es 79 37 ∧ gI es10 79 41 = gI es 79 41 ∧ ∀ k, gJ es10 96 k = gJ es 96 k := by
  refine ⟨?_, ?_, ?_, ?_, ?_, ?_, ?_, ?_, ?_⟩
  · exact fr_row fA hs (p := 80) (t := 0) (n := 2125) (sp := tS80) rfl (by decide) (fun k => by simp only [frM7, mHq, true_and, and_true, false_and, and_false, or_false, false_or, not_false_eq_true, Nat.reduceEqDiff] <;> omega)
  · exact fr_row fA hs (p := 91) (t := 0) (n := 31) rfl (by decide) (fun k => by simp only [frM7, mHq, true_and, and_true, false_and, and_false, or_false, false_or, not_false_eq_true, Nat.reduceEqDiff] <;> omega)
  · exact fr_row fA hs (p := 98) (t := 0) (n := 30) rfl (by decide) (fun k => by simp only [frM7, mHq, true_and, and_true, false_and, and_false, or_false, false_or, not_false_eq_true, Nat.reduceEqDiff] <;> omega)
  · funext i; unfold brow
    rw [fr_row fA hs (p := 87) (t := 0) (n := 1116) rfl (by decide) (fun k => by simp only [frM7, mHq, true_and, and_true, false_and, and_false, or_false, false_or, not_false_eq_true, Nat.reduceEqDiff] <;> omega)]
  · exact fr_fld fA hs (p := 79) (b := 30) rfl (by simp only [frM7, mHq, true_and, and_true, false_and, and_false, or_false, false_or, not_false_eq_true, Nat.reduceEqDiff] <;> omega)
  · exact fr_fld fA hs (p := 79) (b := 26) rfl (by simp only [frM7, mHq, true_and, and_true, false_and, and_false, or_false, false_or, not_false_eq_true, Nat.reduceEqDiff] <;> omega)
  · exact fr_fld fA hs (p := 79) (b := 37) rfl (by simp only [frM7, mHq, true_and, and_true, false_and, and_false, or_false, false_or, not_false_eq_true, Nat.reduceEqDiff] <;> omega)
  · exact fr_fld fA hs (p := 79) (b := 41) rfl (by simp only [frM7, mHq, true_and, and_true, false_and, and_false, or_false, false_or, not_false_eq_true, Nat.reduceEqDiff] <;> omega)
  · exact fun k => fr_gJ fA hs (p := 96) (n := 24) rfl (by simp only [frM7, mHq, true_and, and_true, false_and, and_false, or_false, false_or, not_false_eq_true, Nat.reduceEqDiff] <;> omega)
theorem lays_same2 {es10 es1 : PH} {m : Nat} (hs : sh es10) (q3 : fr frMe es10 es1) : gA es1 80 = gA es10 80 ∧ brow es1 m = brow es10 m ∧ gI es1 79 30 = gI es10 79 30 ∧ gI es1 79 27 = gI es10 79 27 ∧ gI es1 79 29 = gI es10 79 29 ∧ gA es1 88 = gA es10 88 := by
  refine ⟨?_, ?_, ?_, ?_, ?_, ?_⟩
  · exact fr_row q3 hs (p := 80) (t := 0) (n := 2125) (sp := tS80) rfl (by decide) (fun k => by simp only [frMe, mHq, true_and, and_true, false_and, and_false, or_false, false_or, not_false_eq_true, Nat.reduceEqDiff] <;> omega)
  · funext i; unfold brow
    rw [fr_row q3 hs (p := 87) (t := 0) (n := 1116) rfl (by decide) (fun k => by simp only [frMe, mHq, true_and, and_true, false_and, and_false, or_false, false_or, not_false_eq_true, Nat.reduceEqDiff] <;> omega)]
  · exact fr_fld q3 hs (p := 79) (b := 30) rfl (by simp only [frMe, mHq, true_and, and_true, false_and, and_false, or_false, false_or, not_false_eq_true, Nat.reduceEqDiff] <;> omega)
  · exact fr_fld q3 hs (p := 79) (b := 27) rfl (by simp only [frMe, mHq, true_and, and_true, false_and, and_false, or_false, false_or, not_false_eq_true, Nat.reduceEqDiff] <;> omega)
  · exact fr_fld q3 hs (p := 79) (b := 29) rfl (by simp only [frMe, mHq, true_and, and_true, false_and, and_false, or_false, false_or, not_false_eq_true, Nat.reduceEqDiff] <;> omega)
  · exact fr_row q3 hs (p := 88) (t := 3) (n := 40176) rfl (by decide) (fun k => by simp only [frMe, mHq, true_and, and_true, false_and, and_false, or_false, false_or, not_false_eq_true, Nat.reduceEqDiff] <;> omega)
theorem lays_post {es es10 es1 : PH} {m : Nat} {pr v w : Int} (hs : sh es) (hm : m ≤ 30) (hT10 : hOK tT es10) (fA : fr (frM7 m) es es10) (h27 : (gI es10 79 27).toInt = (gI es 79 27).toInt + 1) (h29 : (gI es10 79 29).toInt = if (gI es 79 29).toInt ≠ 0 ∨ 8000 < (gI es 79 27).toInt + 1 then 1 else 0) (hcr : crow es10 m = canF (gA es 80) (brow es m) m)
    (p1 : meetsN (m : Int) pr es10 es1) (p2 : goP (m : Int) es1 v) (hw : w = if v = 0 then 1296 else 0) : laysN m pr es (sA es1 95 m (zI w)) := by
  obtain ⟨a80, a91, a98, aB, f30, f26, f37, f41, aJ⟩ := lays_same (pr := pr) hs fA
  have hmet : metD m pr es10 ↔ metD m pr es := by
    unfold metD; rw [f26, a80, f30, aB]
  obtain ⟨q1, q2, q3, q4, q5⟩ := p1
  rw [Int.toNat_natCast] at q4 q5
  obtain ⟨b80, bB, b30, b27, b29, b88⟩ := lays_same2 (m := m) (sh_of hT10) q3
  have hw2 : w = 1296 ∨ w = 0 := by
    rw [hw]; split
    · exact Or.inl rfl
    · exact Or.inr rfl
  have hz : (zI w).toInt = w := zI_toInt (by unfold i32 iLO iHI; omega)
  have hT5 : hOK tT (sA es1 95 m (zI w)) := hOK_sA q2 (p := 95) (t := 0) (n := 31) rfl (fun _ => by rw [hz]; exact ⟨by show (0 : Int) ≤ w; omega, by show w ≤ (1296 : Int); omega⟩)
  refine ⟨sh_of hT5, hT5, ?_, ?_, ?_, ?_, ?_, fun hn => ?_, fun hy => ?_⟩
  · exact fr_trans (fr_7L fA) (fr_trans (fr_MeL q3) (fr_sA (mIn_yes (by simp only [frL, mHq, true_and, and_true, false_and, and_false, or_false, false_or, not_false_eq_true, Nat.reduceEqDiff] <;> omega))))
  · rw [gI_sA, b27, h27]
  · rw [gI_sA, b29, h29]
  · rw [← hcr]
    funext i; unfold crow
    rw [gA_sA_ne (by decide), b88]
  · rw [gA_sA q1 (p := 95) (t := 0) (n := 31) rfl (by decide)]
    unfold upd
    rw [if_pos rfl, hz, hw]
    have p3 := p2.1
    rw [Int.toNat_natCast, b80, b30, bB, a80, f30, aB] at p3
    unfold goI at p3
    by_cases hg : goD (gA es 80) (gI es 79 30).toInt (brow es m) m
    · rw [if_pos hg] at p3 ⊢
      rw [if_neg (by omega)]
    · rw [if_neg hg] at p3 ⊢
      rw [if_pos p3]
  · rw [q4 (fun hh => hn (hmet.mp hh))]
    refine ⟨by rw [gI_sA, f37], fun k => by rw [gJ_sA, aJ], by rw [gI_sA, f41], by rw [gA_sA_ne (by decide), a98]⟩
  · obtain ⟨r1, r2, r3, r4⟩ := q5 (hmet.mpr hy)
    refine ⟨by rw [gI_sA, r1, f37], fun k => by rw [gJ_sA, r2, f26, aJ], fun hz0 => ?_, fun hz0 => ?_⟩
    · obtain ⟨u1, u2⟩ := r3 (by rw [f37]; exact hz0)
      exact ⟨by rw [gI_sA]; exact u1, fun k hk => by rw [gA_sA_ne (by decide), u2 k hk, a91]⟩
    · obtain ⟨u1, u2⟩ := r4 (by rw [f37]; exact hz0)
      exact ⟨by rw [gI_sA, u1, f41], by rw [gA_sA_ne (by decide), u2, a98]⟩
theorem s_lays0 {O : pOut} {d kc ks : Nat} {Q : pRes → Prop} {es : PH} {m pr : Int} (hs_es : sh es) (hm : 0 ≤ m ∧ m ≤ 30) (hp : 0 ≤ pr ∧ pr ≤ 22) (hq : 0 ≤ (gI es 79 27).toInt ∧ (gI es 79 27).toInt ≤ 10000) (hT_es : hOK tT es)
    (K1 : ∀ v1 : Int, v1 = (gI es 79 27).toInt → ∀ es2 : PH, es2 = sI es 79 27 (.int (zI (v1 + 1))) → ∀ v3 : Int, v3 = (gI es2 79 29).toInt → v3 ≠ 0 → ∀ es5 : PH, es5 = sI es2 79 29 (.int (zI 1)) → ∀ v6 : Int, v6 = (gI es5 79 28).toInt → ∀ v7 : Int, v7 = max v6 m → ∀ es8 : PH, es8 = sI es5 79 28 (.int (zI v7)) → ∀ es9 : PH, findsT m (m % 2) es8 es9 → aW O (d + 6) 243 kc ks Q (58, [some (.ref 143), some (.int (zI m)), some (.int (zI pr))], [.int (zI m), .ref 143], es9))
    (K2 : ∀ v1 : Int, v1 = (gI es 79 27).toInt → ∀ es2 : PH, es2 = sI es 79 27 (.int (zI (v1 + 1))) → ∀ v3 : Int, v3 = (gI es2 79 29).toInt → ¬ (v3 ≠ 0) → ∀ v10 : Int, v10 = (gI es2 79 27).toInt → v10 ≤ 8000 → ∀ es12 : PH, es12 = sI es2 79 29 (.int (zI 0)) → ∀ v13 : Int, v13 = (gI es12 79 28).toInt → ∀ v14 : Int, v14 = max v13 m → ∀ es15 : PH, es15 = sI es12 79 28 (.int (zI v14)) → ∀ es16 : PH, findsT m (m % 2) es15 es16 → aW O (d + 6) 243 kc ks Q (58, [some (.ref 143), some (.int (zI m)), some (.int (zI pr))], [.int (zI m), .ref 143], es16))
    (K3 : ∀ v1 : Int, v1 = (gI es 79 27).toInt → ∀ es2 : PH, es2 = sI es 79 27 (.int (zI (v1 + 1))) → ∀ v3 : Int, v3 = (gI es2 79 29).toInt → ¬ (v3 ≠ 0) → ∀ v10 : Int, v10 = (gI es2 79 27).toInt → ¬ (v10 ≤ 8000) → ∀ es17 : PH, es17 = sI es2 79 29 (.int (zI 1)) → ∀ v18 : Int, v18 = (gI es17 79 28).toInt → ∀ v19 : Int, v19 = max v18 m → ∀ es20 : PH, es20 = sI es17 79 28 (.int (zI v19)) → ∀ es21 : PH, findsT m (m % 2) es20 es21 → aW O (d + 6) 243 kc ks Q (58, [some (.ref 143), some (.int (zI m)), some (.int (zI pr))], [.int (zI m), .ref 143], es21)) :
    aW O (d + 6) 243 kc ks Q (0, [some (.ref 143), some (.int (zI m)), some (.int (zI pr))], [], es) := by
  refine x0 (r := (1, [some (.ref 143), some (.int (zI m)), some (.int (zI pr))], [.ref 143], es)) i_243_0 rfl ?_
  refine x0 (r := (2, [some (.ref 143), some (.int (zI m)), some (.int (zI pr))], [.ref 143, .ref 143], es)) i_243_1 rfl ?_
  refine x_geti (p := 79) i_243_2 hs_es rfl rfl ?_
  obtain ⟨v1, e_v1⟩ : ∃ z : Int, z = (gI es 79 27).toInt := ⟨_, rfl⟩
  rw [← e_v1]
  have r_v1 : iLO ≤ v1 ∧ v1 ≤ iHI := by rw [e_v1]; exact i32_rng _
  unfold iLO iHI at r_v1
  refine x0 (r := (6, [some (.ref 143), some (.int (zI m)), some (.int (zI pr))], [.int (zI 1), .int (zI v1), .ref 143], es)) i_243_5 (by rfl) ?_
  refine x_iadd i_243_6 ?_
  refine x_puti (p := 79) (ty := .int) i_243_7 hs_es rfl rfl rfl (Or.inl rfl) ?_
  obtain ⟨es2, e_es2⟩ : ∃ z : PH, z = sI es 79 27 (.int (zI (v1 + 1))) := ⟨_, rfl⟩
  have hs_es2 : sh es2 := by rw [e_es2]; exact sh_sI hs_es (p := 79) (b := 27) rfl rfl
  have hT_es2 : hOK tT es2 := by rw [e_es2]; exact hOK_sI hT_es (p := 79) (b := 27) (lo := iLO) (hi := iHI) rfl rfl (i32_rng _)
  rw [← e_es2]
  refine x0 (r := (11, [some (.ref 143), some (.int (zI m)), some (.int (zI pr))], [.ref 143], es2)) i_243_10 rfl ?_
  refine x0 (r := (12, [some (.ref 143), some (.int (zI m)), some (.int (zI pr))], [.ref 143, .ref 143], es2)) i_243_11 rfl ?_
  refine x_geti (p := 79) i_243_12 hs_es2 rfl rfl ?_
  obtain ⟨v3, e_v3⟩ : ∃ z : Int, z = (gI es2 79 29).toInt := ⟨_, rfl⟩
  rw [← e_v3]
  have r_v3 : iLO ≤ v3 ∧ v3 ≤ iHI := by rw [e_v3]; exact i32_rng _
  unfold iLO iHI at r_v3
  have b_v3 : (0 : Int) ≤ v3 ∧ v3 ≤ (1 : Int) := by rw [e_v3]; exact gI_bd hT_es2 (p := 79) (b := 29) rfl rfl
  by_cases c4 : v3 ≠ 0
  · refine x_ifT i_243_15 (by unfold i32 iLO iHI; omega) rfl (by simp only [zC, cR]; omega) ?_
    refine x0 (r := (29, [some (.ref 143), some (.int (zI m)), some (.int (zI pr))], [.int (zI 1), .ref 143], es2)) i_243_28 (by rfl) ?_
    refine x0 (r := (33, [some (.ref 143), some (.int (zI m)), some (.int (zI pr))], [.int (zI 1), .ref 143], es2)) i_243_29 rfl ?_
    refine x_puti (p := 79) (ty := .boolean) i_243_33 hs_es2 rfl rfl rfl (Or.inr ⟨rfl, by omega⟩) ?_
    obtain ⟨es5, e_es5⟩ : ∃ z : PH, z = sI es2 79 29 (.int (zI 1)) := ⟨_, rfl⟩
    have hs_es5 : sh es5 := by rw [e_es5]; exact sh_sI hs_es2 (p := 79) (b := 29) rfl rfl
    have hT_es5 : hOK tT es5 := by rw [e_es5]; exact hOK_sI hT_es2 (p := 79) (b := 29) rfl rfl (by rw [zI_toInt (by unfold i32 iLO iHI; omega)]; exact ⟨by show (0 : Int) ≤ 1; omega, by show 1 ≤ (1 : Int); omega⟩)
    rw [← e_es5]
    refine x0 (r := (37, [some (.ref 143), some (.int (zI m)), some (.int (zI pr))], [.ref 143], es5)) i_243_36 rfl ?_
    refine x0 (r := (38, [some (.ref 143), some (.int (zI m)), some (.int (zI pr))], [.ref 143, .ref 143], es5)) i_243_37 rfl ?_
    refine x_geti (p := 79) i_243_38 hs_es5 rfl rfl ?_
    obtain ⟨v6, e_v6⟩ : ∃ z : Int, z = (gI es5 79 28).toInt := ⟨_, rfl⟩
    rw [← e_v6]
    have r_v6 : iLO ≤ v6 ∧ v6 ≤ iHI := by rw [e_v6]; exact i32_rng _
    unfold iLO iHI at r_v6
    refine x0 (r := (42, [some (.ref 143), some (.int (zI m)), some (.int (zI pr))], [.int (zI m), .int (zI v6), .ref 143], es5)) i_243_41 rfl ?_
    refine x_max i_243_42 (by unfold i32 iLO iHI; omega) (by unfold i32 iLO iHI; omega) (Nat.le_of_ble_eq_true rfl) ?_
    obtain ⟨v7, e_v7⟩ : ∃ z : Int, z = max v6 m := ⟨_, rfl⟩
    rw [← e_v7]
    refine x_puti (p := 79) (ty := .int) i_243_45 hs_es5 rfl rfl rfl (Or.inl rfl) ?_
    obtain ⟨es8, e_es8⟩ : ∃ z : PH, z = sI es5 79 28 (.int (zI v7)) := ⟨_, rfl⟩
    have hs_es8 : sh es8 := by rw [e_es8]; exact sh_sI hs_es5 (p := 79) (b := 28) rfl rfl
    have hT_es8 : hOK tT es8 := by rw [e_es8]; exact hOK_sI hT_es5 (p := 79) (b := 28) (lo := iLO) (hi := iHI) rfl rfl (i32_rng _)
    rw [← e_es8]
    refine x0 (r := (49, [some (.ref 143), some (.int (zI m)), some (.int (zI pr))], [.ref 143], es8)) i_243_48 rfl ?_
    refine x0 (r := (50, [some (.ref 143), some (.int (zI m)), some (.int (zI pr))], [.int (zI m), .ref 143], es8)) i_243_49 rfl ?_
    refine x0 (r := (51, [some (.ref 143), some (.int (zI m)), some (.int (zI pr))], [.int (zI m), .int (zI m), .ref 143], es8)) i_243_50 rfl ?_
    refine x0 (r := (52, [some (.ref 143), some (.int (zI m)), some (.int (zI pr))], [.int (zI 2), .int (zI m), .int (zI m), .ref 143], es8)) i_243_51 (by rfl) ?_
    refine x_iremn i_243_52 (by omega) (by unfold i32 iLO iHI; omega) (by unfold i32 iLO iHI; omega) (by omega) ?_
    refine x_call (vs := [.ref 143, .int (zI m), .int (zI (m % 2))]) (rs := []) i_243_53 rfl (fun _ => rfl) rfl rfl rfl rfl rfl (pCall_v (p := 79) hs_es8 rfl rfl rfl rfl rfl (by decide) rfl rfl rfl rfl rfl) ?_
    show aW _ _ _ _ _ _ (0, [some (.ref 143), some (.int (zI m)), some (.int (zI (m % 2))), none], [], es8)
    refine finds_T hs_es8 hT_es8 (by omega) (by omega) (fun es9 p_es9 => ?_)
    have hs_es9 : sh es9 := p_es9.1
    have hT_es9 : hOK tT es9 := p_es9.2.1
    show aW _ _ _ _ _ _ (56, [some (.ref 143), some (.int (zI m)), some (.int (zI pr))], [], es9)
    refine x0 (r := (57, [some (.ref 143), some (.int (zI m)), some (.int (zI pr))], [.ref 143], es9)) i_243_56 rfl ?_
    refine x0 (r := (58, [some (.ref 143), some (.int (zI m)), some (.int (zI pr))], [.int (zI m), .ref 143], es9)) i_243_57 rfl ?_
    exact K1 v1 e_v1 es2 e_es2 v3 e_v3 c4 es5 e_es5 v6 e_v6 v7 e_v7 es8 e_es8 es9 p_es9
  · refine x_ifF i_243_15 (by unfold i32 iLO iHI; omega) rfl (by simp only [zC, cR]; omega) ?_
    refine x0 (r := (19, [some (.ref 143), some (.int (zI m)), some (.int (zI pr))], [.ref 143, .ref 143], es2)) i_243_18 rfl ?_
    refine x_geti (p := 79) i_243_19 hs_es2 rfl rfl ?_
    obtain ⟨v10, e_v10⟩ : ∃ z : Int, z = (gI es2 79 27).toInt := ⟨_, rfl⟩
    rw [← e_v10]
    have r_v10 : iLO ≤ v10 ∧ v10 ≤ iHI := by rw [e_v10]; exact i32_rng _
    unfold iLO iHI at r_v10
    refine x0 (r := (25, [some (.ref 143), some (.int (zI m)), some (.int (zI pr))], [.int (zI 8000), .int (zI v10), .ref 143], es2)) i_243_22 (by rfl) ?_
    by_cases c11 : v10 ≤ 8000
    · refine x_cmpT i_243_25 (by unfold i32 iLO iHI; omega) (by unfold i32 iLO iHI; omega) rfl (by simp only [zC, cR]; omega) ?_
      refine x0 (r := (33, [some (.ref 143), some (.int (zI m)), some (.int (zI pr))], [.int (zI 0), .ref 143], es2)) i_243_32 (by rfl) ?_
      refine x_puti (p := 79) (ty := .boolean) i_243_33 hs_es2 rfl rfl rfl (Or.inr ⟨rfl, by omega⟩) ?_
      obtain ⟨es12, e_es12⟩ : ∃ z : PH, z = sI es2 79 29 (.int (zI 0)) := ⟨_, rfl⟩
      have hs_es12 : sh es12 := by rw [e_es12]; exact sh_sI hs_es2 (p := 79) (b := 29) rfl rfl
      have hT_es12 : hOK tT es12 := by rw [e_es12]; exact hOK_sI hT_es2 (p := 79) (b := 29) rfl rfl (by rw [zI_toInt (by unfold i32 iLO iHI; omega)]; exact ⟨by show (0 : Int) ≤ 0; omega, by show 0 ≤ (1 : Int); omega⟩)
      rw [← e_es12]
      refine x0 (r := (37, [some (.ref 143), some (.int (zI m)), some (.int (zI pr))], [.ref 143], es12)) i_243_36 rfl ?_
      refine x0 (r := (38, [some (.ref 143), some (.int (zI m)), some (.int (zI pr))], [.ref 143, .ref 143], es12)) i_243_37 rfl ?_
      refine x_geti (p := 79) i_243_38 hs_es12 rfl rfl ?_
      obtain ⟨v13, e_v13⟩ : ∃ z : Int, z = (gI es12 79 28).toInt := ⟨_, rfl⟩
      rw [← e_v13]
      have r_v13 : iLO ≤ v13 ∧ v13 ≤ iHI := by rw [e_v13]; exact i32_rng _
      unfold iLO iHI at r_v13
      refine x0 (r := (42, [some (.ref 143), some (.int (zI m)), some (.int (zI pr))], [.int (zI m), .int (zI v13), .ref 143], es12)) i_243_41 rfl ?_
      refine x_max i_243_42 (by unfold i32 iLO iHI; omega) (by unfold i32 iLO iHI; omega) (Nat.le_of_ble_eq_true rfl) ?_
      obtain ⟨v14, e_v14⟩ : ∃ z : Int, z = max v13 m := ⟨_, rfl⟩
      rw [← e_v14]
      refine x_puti (p := 79) (ty := .int) i_243_45 hs_es12 rfl rfl rfl (Or.inl rfl) ?_
      obtain ⟨es15, e_es15⟩ : ∃ z : PH, z = sI es12 79 28 (.int (zI v14)) := ⟨_, rfl⟩
      have hs_es15 : sh es15 := by rw [e_es15]; exact sh_sI hs_es12 (p := 79) (b := 28) rfl rfl
      have hT_es15 : hOK tT es15 := by rw [e_es15]; exact hOK_sI hT_es12 (p := 79) (b := 28) (lo := iLO) (hi := iHI) rfl rfl (i32_rng _)
      rw [← e_es15]
      refine x0 (r := (49, [some (.ref 143), some (.int (zI m)), some (.int (zI pr))], [.ref 143], es15)) i_243_48 rfl ?_
      refine x0 (r := (50, [some (.ref 143), some (.int (zI m)), some (.int (zI pr))], [.int (zI m), .ref 143], es15)) i_243_49 rfl ?_
      refine x0 (r := (51, [some (.ref 143), some (.int (zI m)), some (.int (zI pr))], [.int (zI m), .int (zI m), .ref 143], es15)) i_243_50 rfl ?_
      refine x0 (r := (52, [some (.ref 143), some (.int (zI m)), some (.int (zI pr))], [.int (zI 2), .int (zI m), .int (zI m), .ref 143], es15)) i_243_51 (by rfl) ?_
      refine x_iremn i_243_52 (by omega) (by unfold i32 iLO iHI; omega) (by unfold i32 iLO iHI; omega) (by omega) ?_
      refine x_call (vs := [.ref 143, .int (zI m), .int (zI (m % 2))]) (rs := []) i_243_53 rfl (fun _ => rfl) rfl rfl rfl rfl rfl (pCall_v (p := 79) hs_es15 rfl rfl rfl rfl rfl (by decide) rfl rfl rfl rfl rfl) ?_
      show aW _ _ _ _ _ _ (0, [some (.ref 143), some (.int (zI m)), some (.int (zI (m % 2))), none], [], es15)
      refine finds_T hs_es15 hT_es15 (by omega) (by omega) (fun es16 p_es16 => ?_)
      have hs_es16 : sh es16 := p_es16.1
      have hT_es16 : hOK tT es16 := p_es16.2.1
      show aW _ _ _ _ _ _ (56, [some (.ref 143), some (.int (zI m)), some (.int (zI pr))], [], es16)
      refine x0 (r := (57, [some (.ref 143), some (.int (zI m)), some (.int (zI pr))], [.ref 143], es16)) i_243_56 rfl ?_
      refine x0 (r := (58, [some (.ref 143), some (.int (zI m)), some (.int (zI pr))], [.int (zI m), .ref 143], es16)) i_243_57 rfl ?_
      exact K2 v1 e_v1 es2 e_es2 v3 e_v3 c4 v10 e_v10 c11 es12 e_es12 v13 e_v13 v14 e_v14 es15 e_es15 es16 p_es16
    · refine x_cmpF i_243_25 (by unfold i32 iLO iHI; omega) (by unfold i32 iLO iHI; omega) rfl (by simp only [zC, cR]; omega) ?_
      refine x0 (r := (29, [some (.ref 143), some (.int (zI m)), some (.int (zI pr))], [.int (zI 1), .ref 143], es2)) i_243_28 (by rfl) ?_
      refine x0 (r := (33, [some (.ref 143), some (.int (zI m)), some (.int (zI pr))], [.int (zI 1), .ref 143], es2)) i_243_29 rfl ?_
      refine x_puti (p := 79) (ty := .boolean) i_243_33 hs_es2 rfl rfl rfl (Or.inr ⟨rfl, by omega⟩) ?_
      obtain ⟨es17, e_es17⟩ : ∃ z : PH, z = sI es2 79 29 (.int (zI 1)) := ⟨_, rfl⟩
      have hs_es17 : sh es17 := by rw [e_es17]; exact sh_sI hs_es2 (p := 79) (b := 29) rfl rfl
      have hT_es17 : hOK tT es17 := by rw [e_es17]; exact hOK_sI hT_es2 (p := 79) (b := 29) rfl rfl (by rw [zI_toInt (by unfold i32 iLO iHI; omega)]; exact ⟨by show (0 : Int) ≤ 1; omega, by show 1 ≤ (1 : Int); omega⟩)
      rw [← e_es17]
      refine x0 (r := (37, [some (.ref 143), some (.int (zI m)), some (.int (zI pr))], [.ref 143], es17)) i_243_36 rfl ?_
      refine x0 (r := (38, [some (.ref 143), some (.int (zI m)), some (.int (zI pr))], [.ref 143, .ref 143], es17)) i_243_37 rfl ?_
      refine x_geti (p := 79) i_243_38 hs_es17 rfl rfl ?_
      obtain ⟨v18, e_v18⟩ : ∃ z : Int, z = (gI es17 79 28).toInt := ⟨_, rfl⟩
      rw [← e_v18]
      have r_v18 : iLO ≤ v18 ∧ v18 ≤ iHI := by rw [e_v18]; exact i32_rng _
      unfold iLO iHI at r_v18
      refine x0 (r := (42, [some (.ref 143), some (.int (zI m)), some (.int (zI pr))], [.int (zI m), .int (zI v18), .ref 143], es17)) i_243_41 rfl ?_
      refine x_max i_243_42 (by unfold i32 iLO iHI; omega) (by unfold i32 iLO iHI; omega) (Nat.le_of_ble_eq_true rfl) ?_
      obtain ⟨v19, e_v19⟩ : ∃ z : Int, z = max v18 m := ⟨_, rfl⟩
      rw [← e_v19]
      refine x_puti (p := 79) (ty := .int) i_243_45 hs_es17 rfl rfl rfl (Or.inl rfl) ?_
      obtain ⟨es20, e_es20⟩ : ∃ z : PH, z = sI es17 79 28 (.int (zI v19)) := ⟨_, rfl⟩
      have hs_es20 : sh es20 := by rw [e_es20]; exact sh_sI hs_es17 (p := 79) (b := 28) rfl rfl
      have hT_es20 : hOK tT es20 := by rw [e_es20]; exact hOK_sI hT_es17 (p := 79) (b := 28) (lo := iLO) (hi := iHI) rfl rfl (i32_rng _)
      rw [← e_es20]
      refine x0 (r := (49, [some (.ref 143), some (.int (zI m)), some (.int (zI pr))], [.ref 143], es20)) i_243_48 rfl ?_
      refine x0 (r := (50, [some (.ref 143), some (.int (zI m)), some (.int (zI pr))], [.int (zI m), .ref 143], es20)) i_243_49 rfl ?_
      refine x0 (r := (51, [some (.ref 143), some (.int (zI m)), some (.int (zI pr))], [.int (zI m), .int (zI m), .ref 143], es20)) i_243_50 rfl ?_
      refine x0 (r := (52, [some (.ref 143), some (.int (zI m)), some (.int (zI pr))], [.int (zI 2), .int (zI m), .int (zI m), .ref 143], es20)) i_243_51 (by rfl) ?_
      refine x_iremn i_243_52 (by omega) (by unfold i32 iLO iHI; omega) (by unfold i32 iLO iHI; omega) (by omega) ?_
      refine x_call (vs := [.ref 143, .int (zI m), .int (zI (m % 2))]) (rs := []) i_243_53 rfl (fun _ => rfl) rfl rfl rfl rfl rfl (pCall_v (p := 79) hs_es20 rfl rfl rfl rfl rfl (by decide) rfl rfl rfl rfl rfl) ?_
      show aW _ _ _ _ _ _ (0, [some (.ref 143), some (.int (zI m)), some (.int (zI (m % 2))), none], [], es20)
      refine finds_T hs_es20 hT_es20 (by omega) (by omega) (fun es21 p_es21 => ?_)
      have hs_es21 : sh es21 := p_es21.1
      have hT_es21 : hOK tT es21 := p_es21.2.1
      show aW _ _ _ _ _ _ (56, [some (.ref 143), some (.int (zI m)), some (.int (zI pr))], [], es21)
      refine x0 (r := (57, [some (.ref 143), some (.int (zI m)), some (.int (zI pr))], [.ref 143], es21)) i_243_56 rfl ?_
      refine x0 (r := (58, [some (.ref 143), some (.int (zI m)), some (.int (zI pr))], [.int (zI m), .ref 143], es21)) i_243_57 rfl ?_
      exact K3 v1 e_v1 es2 e_es2 v3 e_v3 c4 v10 e_v10 c11 es17 e_es17 v18 e_v18 v19 e_v19 es20 e_es20 es21 p_es21

theorem s_lays61 {O : pOut} {d kc ks : Nat} {Q : pRes → Prop} {es : PH} {m pr : Int} (hs_es : sh es) (hm : 0 ≤ m ∧ m ≤ 30) (hp : 0 ≤ pr ∧ pr ≤ 22) (hf : 0 ≤ (gI es 79 37).toInt ∧ (gI es 79 37).toInt ≤ 10000) (hT_es : hOK tT es)
    (K1 : ∀ es1 : PH, meetsN m pr es es1 → ∀ v2 : Int, goP m es1 v2 → v2 = 0 → ∀ es4 : PH, es4 = sA es1 95 m.toNat (zI 1296) → Q (.inl (none), es4, kc, ks))
    (K2 : ∀ es1 : PH, meetsN m pr es es1 → ∀ v2 : Int, goP m es1 v2 → ¬ (v2 = 0) → ∀ es5 : PH, es5 = sA es1 95 m.toNat (zI 0) → Q (.inl (none), es5, kc, ks)) :
    aW O (d + 3) 243 kc ks Q (61, [some (.ref 143), some (.int (zI m)), some (.int (zI pr))], [], es) := by
  refine x0 (r := (62, [some (.ref 143), some (.int (zI m)), some (.int (zI pr))], [.ref 143], es)) i_243_61 rfl ?_
  refine x0 (r := (63, [some (.ref 143), some (.int (zI m)), some (.int (zI pr))], [.int (zI m), .ref 143], es)) i_243_62 rfl ?_
  refine x0 (r := (64, [some (.ref 143), some (.int (zI m)), some (.int (zI pr))], [.int (zI pr), .int (zI m), .ref 143], es)) i_243_63 rfl ?_
  refine x_call (vs := [.ref 143, .int (zI m), .int (zI pr)]) (rs := []) i_243_64 rfl (fun _ => rfl) rfl rfl rfl rfl rfl (pCall_v (p := 79) hs_es rfl rfl rfl rfl rfl (by decide) rfl rfl rfl rfl rfl) ?_
  show aW _ _ _ _ _ _ (0, [some (.ref 143), some (.int (zI m)), some (.int (zI pr))], [], es)
  refine meets_T hs_es hT_es (by omega) (by omega) hf (fun es1 p_es1 => ?_)
  have hs_es1 : sh es1 := p_es1.1
  have hT_es1 : hOK tT es1 := p_es1.2.1
  show aW _ _ _ _ _ _ (67, [some (.ref 143), some (.int (zI m)), some (.int (zI pr))], [], es1)
  refine x0 (r := (68, [some (.ref 143), some (.int (zI m)), some (.int (zI pr))], [.ref 143], es1)) i_243_67 rfl ?_
  refine x_getr (p := 79) (k := 159) i_243_68 hs_es1 rfl rfl ?_
  show aW _ _ _ _ _ _ (71, [some (.ref 143), some (.int (zI m)), some (.int (zI pr))], [.ref 159], es1)
  refine x0 (r := (72, [some (.ref 143), some (.int (zI m)), some (.int (zI pr))], [.int (zI m), .ref 159], es1)) i_243_71 rfl ?_
  refine x0 (r := (73, [some (.ref 143), some (.int (zI m)), some (.int (zI pr))], [.ref 143, .int (zI m), .ref 159], es1)) i_243_72 rfl ?_
  refine x0 (r := (74, [some (.ref 143), some (.int (zI m)), some (.int (zI pr))], [.int (zI m), .ref 143, .int (zI m), .ref 159], es1)) i_243_73 rfl ?_
  refine x_call (vs := [.ref 143, .int (zI m)]) (rs := [.int (zI m), .ref 159]) i_243_74 rfl (fun _ => rfl) rfl rfl rfl rfl rfl (pCall_v (p := 79) hs_es1 rfl rfl rfl rfl rfl (by decide) rfl rfl rfl rfl rfl) ?_
  show aW _ _ _ _ _ _ (0, [some (.ref 143), some (.int (zI m))], [], es1)
  refine go_spec hs_es1 hT_es1 (by omega) (fun v2 p_v2 => ?_)
  have r_v2 := p_v2.2
  show aW _ _ _ _ _ _ (77, [some (.ref 143), some (.int (zI m)), some (.int (zI pr))], [.int (zI v2), .int (zI m), .ref 159], es1)
  by_cases c3 : v2 = 0
  · refine x_ifT i_243_77 (by unfold i32 iLO iHI; omega) rfl (by simp only [zC, cR]; omega) ?_
    refine x0 (r := (87, [some (.ref 143), some (.int (zI m)), some (.int (zI pr))], [.int (zI 1296), .int (zI m), .ref 159], es1)) i_243_84 (by rfl) ?_
    refine x_iast (p := 95) i_243_87 hs_es1 rfl (by unfold i32 iLO iHI; omega) (by omega) (by omega) ?_
    obtain ⟨es4, e_es4⟩ : ∃ z : PH, z = sA es1 95 m.toNat (zI 1296) := ⟨_, rfl⟩
    have hs_es4 : sh es4 := by rw [e_es4]; exact sh_sA hs_es1
    have hT_es4 : hOK tT es4 := by rw [e_es4]; exact hOK_sA hT_es1 (p := 95) (n := 31) rfl (fun _ => by rw [zI_toInt (by unfold i32 iLO iHI; omega)]; exact ⟨by show (0 : Int) ≤ 1296; omega, by show 1296 ≤ (1296 : Int); omega⟩)
    rw [← e_es4]
    refine x_ret (v := none) i_243_88 rfl (fun _ => rfl) rfl rfl rfl ?_
    exact K1 es1 p_es1 v2 p_v2 c3 es4 e_es4
  · refine x_ifF i_243_77 (by unfold i32 iLO iHI; omega) rfl (by simp only [zC, cR]; omega) ?_
    refine x0 (r := (81, [some (.ref 143), some (.int (zI m)), some (.int (zI pr))], [.int (zI 0), .int (zI m), .ref 159], es1)) i_243_80 (by rfl) ?_
    refine x0 (r := (87, [some (.ref 143), some (.int (zI m)), some (.int (zI pr))], [.int (zI 0), .int (zI m), .ref 159], es1)) i_243_81 rfl ?_
    refine x_iast (p := 95) i_243_87 hs_es1 rfl (by unfold i32 iLO iHI; omega) (by omega) (by omega) ?_
    obtain ⟨es5, e_es5⟩ : ∃ z : PH, z = sA es1 95 m.toNat (zI 0) := ⟨_, rfl⟩
    have hs_es5 : sh es5 := by rw [e_es5]; exact sh_sA hs_es1
    have hT_es5 : hOK tT es5 := by rw [e_es5]; exact hOK_sA hT_es1 (p := 95) (n := 31) rfl (fun _ => by rw [zI_toInt (by unfold i32 iLO iHI; omega)]; exact ⟨by show (0 : Int) ≤ 0; omega, by show 0 ≤ (1296 : Int); omega⟩)
    rw [← e_es5]
    refine x_ret (v := none) i_243_88 rfl (fun _ => rfl) rfl rfl rfl ?_
    exact K2 es1 p_es1 v2 p_v2 c3 es5 e_es5

section
variable {O : pOut} {d kc ks : Nat} {Q : pRes → Prop} {es : PH}
theorem lays_T0 {m : Nat} {pr : Int} (hs : sh es) (hT : hOK tT es) (h365 : conOK O gG gInv kc_365) (hI : gInv es) (hm : m ≤ 30) (hp : 0 ≤ pr ∧ pr ≤ 22) (hf : 0 ≤ (gI es 79 37).toInt ∧ (gI es 79 37).toInt ≤ 10000) (K : ∀ es', laysN m pr es es' → Q (.inl none, es', kc, ks)) :
    ∀ es9, hOK tT es9 → fr [(79, 29, 0, 1), (79, 30, 0, 1), (79, 31, 0, 1), (88, 0, 1296 * m, 1296 * (m + 1))] es es9 → (gI es9 79 27).toInt = (gI es 79 27).toInt + 1 →
      ((gI es9 79 29).toInt = if (gI es 79 29).toInt ≠ 0 ∨ 8000 < (gI es 79 27).toInt + 1 then 1 else 0) → crow es9 m = canF (gA es 80) (brow es m) m →
      aW O (d + 6) 243 kc ks Q (58, [some (.ref 143), some (.int (zI (m : Int))), some (.int (zI pr))], [.int (zI (m : Int)), .ref 143], es9) := by
  intro es9 hT9 hf9 h27 h29 hcr
  refine x_call (vs := [.ref 143, .int (zI (m : Int))]) (rs := []) i_243_58 rfl (fun _ => rfl) rfl rfl rfl rfl rfl (pCall_v (p := 79) (sh_of hT9) rfl rfl rfl rfl rfl (by decide) rfl rfl rfl rfl rfl) ?_
  refine con_voidI (c := kc_365) h365 (by show 2 ≤ d + 5; omega) (ρ := [(m : Int)]) (vs := [.ref 143, .int (zI (m : Int))]) rfl (gE_1 (show (0 : Int) ≤ (m : Int) ∧ (m : Int) ≤ 30 from ⟨by omega, by omega⟩)) rfl ⟨⟨143, rfl, rfl⟩, gV_i (by unfold i32 iLO iHI; omega) rfl, trivial⟩ hT9 (gInv_keep hf9 rfl hT hI) rfl (by decide) (fun es10 hT10 _ hf10 => ?_)
  show aW _ _ _ _ _ _ (61, [some (.ref 143), some (.int (zI (m : Int))), some (.int (zI pr))], [], es10)
  have hf10' : fr [(85, 0, 0, 6), (101, 0, 0, 31), (86, 0, 0, 400)] es9 es10 := hf10
  have fA : fr (frM7 m) es es10 := fr_trans (fr_wk (by simp only [mAl, frM7, mHq, true_and, and_true, false_and, and_false, or_false, false_or, not_false_eq_true, Nat.reduceEqDiff] <;> (repeat' apply And.intro) <;> intros <;> omega) hf9) (fr_wk (by simp only [mAl, frM7, mHq, true_and, and_true, false_and, and_false, or_false, false_or, not_false_eq_true, Nat.reduceEqDiff] <;> (repeat' apply And.intro) <;> intros <;> omega) hf10')
  have f27 : gI es10 79 27 = gI es9 79 27 := fr_fld hf10' (sh_of hT9) (p := 79) (b := 27) rfl (by simp only [mHq, true_and, and_true, false_and, and_false, or_false, false_or, not_false_eq_true, Nat.reduceEqDiff] <;> omega)
  have f29 : gI es10 79 29 = gI es9 79 29 := fr_fld hf10' (sh_of hT9) (p := 79) (b := 29) rfl (by simp only [mHq, true_and, and_true, false_and, and_false, or_false, false_or, not_false_eq_true, Nat.reduceEqDiff] <;> omega)
  have aC : crow es10 m = crow es9 m := by
    funext i; unfold crow
    rw [fr_row hf10' (sh_of hT9) (p := 88) (t := 3) (n := 40176) rfl (by decide) (fun k => by simp only [mHq, true_and, and_true, false_and, and_false, or_false, false_or, not_false_eq_true, Nat.reduceEqDiff] <;> omega)]
  have f37 := (lays_same (pr := pr) hs fA).2.2.2.2.2.2.1
  have fin : ∀ (es1 : PH) (v : Int) (w : Int), meetsN (m : Int) pr es10 es1 → goP (m : Int) es1 v → (w = if v = 0 then 1296 else 0) → Q (.inl none, sA es1 95 m (zI w), kc, ks) := fun es1 v w p1 p2 hw =>
    K _ (lays_post hs hm hT10 fA (by rw [f27, h27]) (by rw [f29, h29]) (by rw [aC, hcr]) p1 p2 hw)
  refine s_lays61 (d := d + 3) (sh_of hT10) ⟨by omega, by omega⟩ hp (by rw [f37]; exact hf) hT10 (fun es1 p1 v2 p2 h2 es4 e4 => ?_) (fun es1 p1 v2 p2 h2 es4 e4 => ?_)
  · rw [e4, Int.toNat_natCast]
    exact fin es1 v2 1296 p1 p2 (by rw [if_pos h2])
  · rw [e4, Int.toNat_natCast]
    exact fin es1 v2 0 p1 p2 (by rw [if_neg h2])
theorem lays_T {m pr : Int} (hs : sh es) (hT : hOK tT es) (h365 : conOK O gG gInv kc_365) (hI : gInv es) (hm : 0 ≤ m ∧ m ≤ 30) (hp : 0 ≤ pr ∧ pr ≤ 22) (hq : 0 ≤ (gI es 79 27).toInt ∧ (gI es 79 27).toInt ≤ 10000) (hf : 0 ≤ (gI es 79 37).toInt ∧ (gI es 79 37).toInt ≤ 10000) (K : ∀ es', laysP m pr es es' → Q (.inl none, es', kc, ks)) :
    aW O (d + 6) 243 kc ks Q (0, [some (.ref 143), some (.int (zI m)), some (.int (zI pr))], [], es) := by
  obtain ⟨m, rfl⟩ := Int.eq_ofNat_of_zero_le hm.1
  unfold laysP at K
  rw [Int.toNat_natCast] at K
  have tail := lays_T0 (d := d) (Q := Q) (kc := kc) (ks := ks) hs hT h365 hI (m := m) (by omega) hp hf K
  -- the first part
  have pre : ∀ es2 es5 es8 es9 : PH, es2 = sI es 79 27 (.int (zI ((gI es 79 27).toInt + 1))) → ∀ x : Int, (x = if (gI es 79 29).toInt ≠ 0 ∨ 8000 < (gI es 79 27).toInt + 1 then 1 else 0) → es5 = sI es2 79 29 (.int (zI x)) → ∀ y : Int, es8 = sI es5 79 28 (.int (zI y)) → findsT (m : Int) ((m : Int) % 2) es8 es9 →
      aW O (d + 6) 243 kc ks Q (58, [some (.ref 143), some (.int (zI (m : Int))), some (.int (zI pr))], [.int (zI (m : Int)), .ref 143], es9) := by
    intro es2 es5 es8 es9 e2 x hx e5 y e8 p9
    have hT2 : hOK tT es2 := by rw [e2]; exact hOK_sI hT (p := 79) (b := 27) (lo := iLO) (hi := iHI) rfl rfl (i32_rng _)
    have hx2 : 0 ≤ x ∧ x ≤ 1 := by rw [hx]; split <;> omega
    have hzx : (zI x).toInt = x := zI_toInt (by unfold i32 iLO iHI; omega)
    have hT5 : hOK tT es5 := by rw [e5]; exact hOK_sI hT2 (p := 79) (b := 29) rfl rfl (by rw [hzx]; exact hx2)
    have hT8 : hOK tT es8 := by rw [e8]; exact hOK_sI hT5 (p := 79) (b := 28) (lo := iLO) (hi := iHI) rfl rfl (i32_rng _)
    have f8 : fr [(79, 29, 0, 1), (79, 30, 0, 1), (79, 31, 0, 1)] es es8 := by
      rw [e8, e5, e2]
      exact fr_trans (fr_sI (mIn_yes (by simp only [mHq, true_and, and_true, false_and, and_false, or_false, false_or, not_false_eq_true, Nat.reduceEqDiff] <;> omega))) (fr_trans (fr_sI (mIn_yes (by simp only [mHq, true_and, and_true, false_and, and_false, or_false, false_or, not_false_eq_true, Nat.reduceEqDiff] <;> omega))) (fr_sI (mIn_yes (by simp only [mHq, true_and, and_true, false_and, and_false, or_false, false_or, not_false_eq_true, Nat.reduceEqDiff] <;> omega))))
    obtain ⟨q1, q2, q3⟩ := p9
    have q4 : fr [(88, 0, 1296 * m, 1296 * (m + 1))] es8 es9 := by
      have := q3.2.2.1
      rw [Int.toNat_natCast] at this
      exact this
    have c27 : gI es9 79 27 = gI es8 79 27 := fr_fld q4 (sh_of hT8) (p := 79) (b := 27) rfl (by simp only [mHq, true_and, and_true, false_and, and_false, or_false, false_or, not_false_eq_true, Nat.reduceEqDiff] <;> omega)
    have c29 : gI es9 79 29 = gI es8 79 29 := fr_fld q4 (sh_of hT8) (p := 79) (b := 29) rfl (by simp only [mHq, true_and, and_true, false_and, and_false, or_false, false_or, not_false_eq_true, Nat.reduceEqDiff] <;> omega)
    refine tail es9 q2 (fr_trans (fr_wk (by simp only [mAl, mHq, true_and, and_true, false_and, and_false, or_false, false_or, not_false_eq_true, Nat.reduceEqDiff] <;> (repeat' apply And.intro) <;> intros <;> omega) f8) (fr_wk (by simp only [mAl, mHq, true_and, and_true, false_and, and_false, or_false, false_or, not_false_eq_true, Nat.reduceEqDiff] <;> (repeat' apply And.intro) <;> intros <;> omega) q4)) ?_ ?_ ?_
    · rw [c27, e8, gI_sI_ne (Or.inr (by decide)), e5, gI_sI_ne (Or.inr (by decide)), e2, gI_sI hs (p := 79) rfl (by decide), zI_toInt (by unfold i32 iLO iHI; omega)]
    · rw [c29, e8, gI_sI_ne (Or.inr (by decide)), e5, gI_sI (sh_of hT2) (p := 79) rfl (by decide), hzx, hx]
    · have q5 := q3.2.2.2
      rw [Int.toNat_natCast] at q5
      rw [q5]
      unfold canF
      have a80 : gA es8 80 = gA es 80 := fr_row f8 hs (p := 80) (t := 0) (n := 2125) (sp := tS80) rfl (by decide) (fun k => by simp only [mHq, true_and, and_true, false_and, and_false, or_false, false_or, not_false_eq_true, Nat.reduceEqDiff] <;> omega)
      have aB : brow es8 m = brow es m := by
        funext i; unfold brow
        rw [fr_row f8 hs (p := 87) (t := 0) (n := 1116) rfl (by decide) (fun k => by simp only [mHq, true_and, and_true, false_and, and_false, or_false, false_or, not_false_eq_true, Nat.reduceEqDiff] <;> omega)]
      rw [a80, aB]
  have hz : (zI ((gI es 79 27).toInt + 1)).toInt = (gI es 79 27).toInt + 1 := zI_toInt (by unfold i32 iLO iHI; omega)
  refine s_lays0 (d := d) hs hm hp hq hT (fun v1 e1 es2 e2 v3 e3 h3 es5 e5 v6 e6 v7 e7 es8 e8 es9 p9 => ?_) (fun v1 e1 es2 e2 v3 e3 h3 v10 e10 h10 es5 e5 v6 e6 v7 e7 es8 e8 es9 p9 => ?_) (fun v1 e1 es2 e2 v3 e3 h3 v10 e10 h10 es5 e5 v6 e6 v7 e7 es8 e8 es9 p9 => ?_)
  all_goals
    rw [e1] at e2
    rw [e2, gI_sI_ne (Or.inr (by decide))] at e3
  · exact pre es2 es5 es8 es9 e2 1 (by rw [if_pos (Or.inl (by rw [← e3]; exact h3))]) e5 v7 e8 p9
  · rw [e2, gI_sI hs (p := 79) rfl (by decide), hz] at e10
    exact pre es2 es5 es8 es9 e2 0 (by rw [if_neg (by omega)]) e5 v7 e8 p9
  · rw [e2, gI_sI hs (p := 79) rfl (by decide), hz] at e10
    exact pre es2 es5 es8 es9 e2 1 (by rw [if_pos (by omega)]) e5 v7 e8 p9
end
