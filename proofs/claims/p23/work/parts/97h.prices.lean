theorem s_pr12 {O : pOut} {d kc ks : Nat} {Q : pRes → Prop} {es : PH} {m b : Int} {x3 x4 : Option Value} (hs_es : sh es) (hm : 0 ≤ m ∧ m ≤ 30) (hb : 0 ≤ b ∧ b ≤ 3) (hT_es : hOK tT es)
    (K1 : ∀ v1 : Int, v1 = (gA es 80 (Int.toNat 1)).toInt → v1 ≤ b → Q (.inl (none), es, kc, ks))
    (K2 : ∀ v1 : Int, v1 = (gA es 80 (Int.toNat 1)).toInt → ¬ (v1 ≤ b) → ∀ v3 : Int, askP b es v3 → v3 ≠ 0 → ∀ es5 : PH, sumsP b m es es5 → aW O (d + 5) 234 kc ks Q (46, [some (.ref 143), some (.int (zI m)), some (.int (zI b)), some (.int (zI 1000)), some (.int (zI 0))], [], es5))
    (K3 : ∀ v1 : Int, v1 = (gA es 80 (Int.toNat 1)).toInt → ¬ (v1 ≤ b) → ∀ v3 : Int, askP b es v3 → ¬ (v3 ≠ 0) → aW O (d + 5) 234 kc ks Q (12, [some (.ref 143), some (.int (zI m)), some (.int (zI (b + 1))), x3, x4], [], es)) :
    aW O (d + 5) 234 kc ks Q (12, [some (.ref 143), some (.int (zI m)), some (.int (zI b)), x3, x4], [], es) := by
  refine x0 (r := (13, [some (.ref 143), some (.int (zI m)), some (.int (zI b)), x3, x4], [.int (zI b)], es)) i_234_12 rfl ?_
  refine x0 (r := (14, [some (.ref 143), some (.int (zI m)), some (.int (zI b)), x3, x4], [.ref 143, .int (zI b)], es)) i_234_13 rfl ?_
  refine x_getr (p := 79) (k := 144) i_234_14 hs_es rfl rfl ?_
  show aW _ _ _ _ _ _ (17, [some (.ref 143), some (.int (zI m)), some (.int (zI b)), x3, x4], [.ref 144, .int (zI b)], es)
  refine x0 (r := (18, [some (.ref 143), some (.int (zI m)), some (.int (zI b)), x3, x4], [.int (zI 1), .ref 144, .int (zI b)], es)) i_234_17 (by rfl) ?_
  refine x_iald (p := 80) i_234_18 hs_es rfl (by unfold i32 iLO iHI; omega) (by omega) (by omega) ?_
  obtain ⟨v1, e_v1⟩ : ∃ z : Int, z = (gA es 80 (Int.toNat 1)).toInt := ⟨_, rfl⟩
  rw [← e_v1]
  have r_v1 : iLO ≤ v1 ∧ v1 ≤ iHI := by rw [e_v1]; exact i32_rng _
  unfold iLO iHI at r_v1
  have b_v1 : (0 : Int) ≤ v1 ∧ v1 ≤ (3 : Int) := by rw [e_v1]; exact gA_bd hT_es (p := 80) (k := (Int.toNat 1)) rfl (by omega) (by decide)
  by_cases c2 : v1 ≤ b
  · refine x_cmpT i_234_19 (by unfold i32 iLO iHI; omega) (by unfold i32 iLO iHI; omega) rfl (by simp only [zC, cR]; omega) ?_
    refine x_ret (v := none) i_234_119 rfl (fun _ => rfl) rfl rfl rfl ?_
    exact K1 v1 e_v1 c2
  · refine x_cmpF i_234_19 (by unfold i32 iLO iHI; omega) (by unfold i32 iLO iHI; omega) rfl (by simp only [zC, cR]; omega) ?_
    refine x0 (r := (23, [some (.ref 143), some (.int (zI m)), some (.int (zI b)), x3, x4], [.ref 143], es)) i_234_22 rfl ?_
    refine x0 (r := (24, [some (.ref 143), some (.int (zI m)), some (.int (zI b)), x3, x4], [.int (zI b), .ref 143], es)) i_234_23 rfl ?_
    refine x_call (vs := [.ref 143, .int (zI b)]) (rs := []) i_234_24 rfl (fun _ => rfl) rfl rfl rfl rfl rfl (pCall_v (p := 79) hs_es rfl rfl rfl rfl rfl (by decide) rfl rfl rfl rfl rfl) ?_
    show aW _ _ _ _ _ _ (0, [some (.ref 143), some (.int (zI b))], [], es)
    refine ask_spec hs_es (by omega) (fun v3 p_v3 => ?_)
    have r_v3 := p_v3.2
    show aW _ _ _ _ _ _ (27, [some (.ref 143), some (.int (zI m)), some (.int (zI b)), x3, x4], [.int (zI v3)], es)
    by_cases c4 : v3 ≠ 0
    · refine x_ifT i_234_27 (by unfold i32 iLO iHI; omega) rfl (by simp only [zC, cR]; omega) ?_
      refine x0 (r := (34, [some (.ref 143), some (.int (zI m)), some (.int (zI b)), x3, x4], [.ref 143], es)) i_234_33 rfl ?_
      refine x0 (r := (35, [some (.ref 143), some (.int (zI m)), some (.int (zI b)), x3, x4], [.int (zI b), .ref 143], es)) i_234_34 rfl ?_
      refine x0 (r := (36, [some (.ref 143), some (.int (zI m)), some (.int (zI b)), x3, x4], [.int (zI m), .int (zI b), .ref 143], es)) i_234_35 rfl ?_
      refine x_call (vs := [.ref 143, .int (zI b), .int (zI m)]) (rs := []) i_234_36 rfl (fun _ => rfl) rfl rfl rfl rfl rfl (pCall_v (p := 79) hs_es rfl rfl rfl rfl rfl (by decide) rfl rfl rfl rfl rfl) ?_
      show aW _ _ _ _ _ _ (0, [some (.ref 143), some (.int (zI b)), some (.int (zI m)), none, none], [], es)
      refine sums_spec hs_es (by omega) (by omega) hT_es (fun es5 p_es5 => ?_)
      have hs_es5 : sh es5 := p_es5.1
      show aW _ _ _ _ _ _ (39, [some (.ref 143), some (.int (zI m)), some (.int (zI b)), x3, x4], [], es5)
      refine x0 (r := (42, [some (.ref 143), some (.int (zI m)), some (.int (zI b)), x3, x4], [.int (zI 1000)], es5)) i_234_39 (by rfl) ?_
      refine x0 (r := (43, [some (.ref 143), some (.int (zI m)), some (.int (zI b)), some (.int (zI 1000)), x4], [], es5)) i_234_42 rfl ?_
      refine x0 (r := (44, [some (.ref 143), some (.int (zI m)), some (.int (zI b)), some (.int (zI 1000)), x4], [.int (zI 0)], es5)) i_234_43 (by rfl) ?_
      refine x0 (r := (46, [some (.ref 143), some (.int (zI m)), some (.int (zI b)), some (.int (zI 1000)), some (.int (zI 0))], [], es5)) i_234_44 rfl ?_
      exact K2 v1 e_v1 c2 v3 p_v3 c4 es5 p_es5
    · refine x_ifF i_234_27 (by unfold i32 iLO iHI; omega) rfl (by simp only [zC, cR]; omega) ?_
      refine x0 (r := (113, [some (.ref 143), some (.int (zI m)), some (.int (zI b)), x3, x4], [], es)) i_234_30 rfl ?_
      refine x_iinc (x := b) i_234_113 rfl (by show 2 < 5; decide) ?_
      show aW _ _ _ _ _ _ (116, [some (.ref 143), some (.int (zI m)), some (.int (zI (b + 1))), x3, x4], [], es)
      refine x0 (r := (12, [some (.ref 143), some (.int (zI m)), some (.int (zI (b + 1))), x3, x4], [], es)) i_234_116 rfl ?_
      exact K3 v1 e_v1 c2 v3 p_v3 c4
/-! prices: soFar and whole -/
theorem rowF_congr {W po : Nat → Int32} {b m N : Nat} {pv pv' ft ft' : Nat → Int} (h1 : m ≠ 0 → ∀ n, n ≤ N → pv n = pv' n) (h2 : m ≠ 0 → ∀ n, n < N → ft n = ft' n) : ∀ n, n ≤ N → rowF W po b m pv ft n = rowF W po b m pv' ft' n
  | 0, hn => by
    rw [rowF, rowF]
    by_cases hm : m = 0
    · rw [if_pos hm, if_pos hm]
    · rw [if_neg hm, if_neg hm, h1 hm 0 hn]
  | n + 1, hn => by
    rw [rowF, rowF, rowF_congr h1 h2 n (by omega)]
    by_cases hm : m = 0
    · rw [if_pos hm, if_pos hm]
      unfold loV
      rw [if_pos hm, if_pos hm]
    · rw [if_neg hm, if_neg hm, h1 hm n (by omega), h1 hm (n + 1) hn, h2 hm n (by omega)]
def cW (W : Nat → Int32) : Nat := (W 1).toInt.toNat
def lstF (r : Nat → Int) : Nat → Int
  | 0 => 1000
  | n + 1 => min (lstF r n) (r n)
noncomputable def accF (ak : Nat → Prop) (f : Nat → Int) : Nat → Int
  | 0 => 0
  | b + 1 => accF ak f b + @ite Int (ak b) (Classical.propDecidable _) (f b) 0
def akB (es : PH) (b : Nat) : Prop := akI (gI es 79 18).toInt b = 1
def frP (m : Nat) : List aMod := [(79, 27, 0, 1), (79, 28, 0, 1), (94, 0, 25 * m, 25 * m + 25), (94, 0, 25 * (31 + m), 25 * (31 + m) + 25), (94, 0, 25 * (62 + m), 25 * (62 + m) + 25)]
def pricesN (m : Nat) (es es' : PH) : Prop := sh es' ∧ hOK tT es' ∧ fr (frP m) es es' ∧ (∀ b n, b < cW (gA es 80) → akB es b → n ≤ nW (gA es 80) b → smS es' b m n = rwS es b m n) ∧
  (gI es' 79 25).toInt = accF (akB es) (fun b => lstF (rwS es b m) (nW (gA es 80) b + 1)) (cW (gA es 80)) ∧ (gI es' 79 26).toInt = accF (akB es) (fun b => rwS es b m (nW (gA es 80) b)) (cW (gA es 80))
def pricesP (m : Int) (es es' : PH) : Prop := pricesN m.toNat es es'
theorem lstF_bd {r : Nat → Int} : ∀ n, (∀ k, k < n → 0 ≤ r k) → 0 ≤ lstF r n ∧ lstF r n ≤ 1000
  | 0, _ => by rw [lstF]; omega
  | n + 1, h => by
    have := lstF_bd n (fun k hk => h k (by omega))
    have := h n (by omega)
    rw [lstF]; omega
theorem lstF_congr {r r' : Nat → Int} : ∀ n, (∀ k, k < n → r k = r' k) → lstF r n = lstF r' n
  | 0, _ => rfl
  | n + 1, h => by rw [lstF, lstF, lstF_congr n (fun k hk => h k (by omega)), h n (by omega)]
theorem accF_congr {ak ak' : Nat → Prop} {f f' : Nat → Int} : ∀ n, (∀ b, b < n → (ak b ↔ ak' b)) → (∀ b, b < n → ak b → f b = f' b) → accF ak f n = accF ak' f' n
  | 0, _, _ => rfl
  | n + 1, h, h2 => by
    rw [accF, accF, accF_congr n (fun b hb => h b (by omega)) (fun b hb => h2 b (by omega))]
    by_cases ha : ak n
    · rw [if_pos ha, if_pos ((h n (by omega)).mp ha), h2 n (by omega) ha]
    · rw [if_neg ha, if_neg (fun hh => ha ((h n (by omega)).mpr hh))]
theorem cW_bd {es : PH} (hT : hOK tT es) : (gA es 80 1).toInt = (cW (gA es 80) : Int) ∧ cW (gA es 80) ≤ 3 := by
  have h := gA_bd hT (p := 80) (t := 0) (n := 2125) (sp := tS80) (k := 1) rfl (by omega) (by decide)
  have h' : 0 ≤ (gA es 80 1).toInt ∧ (gA es 80 1).toInt ≤ 3 := h
  unfold cW
  omega
section
variable {O : pOut} {d kc ks : Nat} {Q : pRes → Prop} {es : PH}
theorem pr46_loop {m b : Nat} (hb : b ≤ 2) (hm : m ≤ 30) (hT : hOK tT es) (hS : (gI es 79 25).toInt ≤ 1000 * b) (hW : (gI es 79 26).toInt ≤ 1000 * b)
    (K : ∀ x3 x4 : Option Value, aW O (d + 5) 234 kc ks Q (12, [some (.ref 143), some (.int (zI (m : Int))), some (.int (zI ((b : Int) + 1))), x3, x4], [], sI (sI es 79 25 (.int (zI ((gI es 79 25).toInt + lstF (smS es b m) (nW (gA es 80) b + 1))))) 79 26 (.int (zI ((gI es 79 26).toInt + smS es b m (nW (gA es 80) b)))))) :
    ∀ (j n : Nat), n + j = nW (gA es 80) b + 1 → aW O (d + 5) 234 kc ks Q (46, [some (.ref 143), some (.int (zI (m : Int))), some (.int (zI (b : Int))), some (.int (zI (lstF (smS es b m) n))), some (.int (zI (n : Int)))], [], es) := by
  have hnb := nW_bd hT hb
  have jn : ((119 + (98 * (b : Int))) + 1).toNat = 119 + 98 * b + 1 := by omega
  have hr : ∀ k, k ≤ 24 → 0 ≤ smS es b m k := fun k hk => (sum_bd hT (i := 25 * (31 * b + m) + k) (by omega)).1
  intro j
  induction j with
  | zero =>
    intro n hn
    have hl := lstF_bd (r := smS es b m) n (fun k hk => hr k (by omega))
    have hn' : n = nW (gA es 80) b + 1 := by omega
    refine s_pr46 (d := d + 3) (sh_of hT) ⟨by omega, by omega⟩ ⟨by omega, by omega⟩ hl ⟨by omega, by omega⟩ (by rw [jn]; omega) hS hT (fun v1 e1 h1 v3 e3 es4 e4 => ?_) (fun v1 e1 h1 => ?_)
    · have hb3 := gI_bd hT (p := 79) (b := 25) rfl rfl
      have hb3' : 0 ≤ (gI es 79 25).toInt ∧ (gI es 79 25).toInt ≤ 3000 := hb3
      have hT4 : hOK tT es4 := by
        rw [e4]
        exact hOK_sI hT (p := 79) (b := 25) rfl rfl (by rw [zI_toInt (by unfold i32 iLO iHI; omega)]; exact ⟨by show (0 : Int) ≤ _; omega, by show _ ≤ (3000 : Int); omega⟩)
      have a80 : gA es4 80 = gA es 80 := by rw [e4]; exact gA_sI
      have a94 : gA es4 94 = gA es 94 := by rw [e4]; exact gA_sI
      have a26 : gI es4 79 26 = gI es 79 26 := by rw [e4]; exact gI_sI_ne (Or.inr (by decide))
      refine s_pr89 (d := d + 3) (sh_of hT4) ⟨by omega, by omega⟩ ⟨by omega, by omega⟩ hl ⟨by omega, by omega⟩ (by rw [jn, a80]; omega) (by rw [a26]; exact hW) hT4 (fun w1 f1 w2 f2 w3 f3 es5 f5 => ?_)
      rw [jn, a80, hnb.1] at f2
      rw [a26] at f1
      have jx : ((25 * ((31 * (b : Int)) + (m : Int))) + w2).toNat = 25 * (31 * b + m) + nW (gA es 80) b := by omega
      rw [jx, a94] at f3
      have h := K (some (.int (zI (lstF (smS es b m) n)))) (some (.int (zI (n : Int))))
      have h5 : es5 = sI (sI es 79 25 (.int (zI ((gI es 79 25).toInt + lstF (smS es b m) (nW (gA es 80) b + 1))))) 79 26 (.int (zI ((gI es 79 26).toInt + smS es b m (nW (gA es 80) b)))) := by
        rw [f5, e4, f1, f3, e3, hn']
        rfl
      rw [h5]
      exact h
    · rw [jn] at e1
      omega
  | succ j ih =>
    intro n hn
    have hl := lstF_bd (r := smS es b m) n (fun k hk => hr k (by omega))
    have e9 : ((n + 1 : Nat) : Int) = (n : Int) + 1 := by omega
    refine s_pr46 (d := d + 3) (sh_of hT) ⟨by omega, by omega⟩ ⟨by omega, by omega⟩ hl ⟨by omega, by omega⟩ (by rw [jn]; omega) hS hT (fun v1 e1 h1 => ?_) (fun v1 e1 h1 v5 e5 v6 e6 => ?_)
    · rw [jn] at e1
      omega
    · have jx : ((25 * ((31 * (b : Int)) + (m : Int))) + (n : Int)).toNat = 25 * (31 * b + m) + n := by omega
      rw [jx] at e5
      have := ih (n + 1) (by omega)
      rw [lstF, e9] at this
      rw [e6, e5]
      exact this
theorem prices_loop {m : Nat} (hm : m ≤ 30) (hT : hOK tT es) (K : ∀ es', pricesN m es es' → Q (.inl none, es', kc, ks)) :
    ∀ (j b : Nat) (es1 : PH) (x3 x4 : Option Value), b + j = cW (gA es 80) → hOK tT es1 → fr (frP m) es es1 → (∀ b' n, b' < b → akB es b' → n ≤ nW (gA es 80) b' → smS es1 b' m n = rwS es b' m n) →
      (gI es1 79 25).toInt = accF (akB es) (fun b => lstF (rwS es b m) (nW (gA es 80) b + 1)) b → (gI es1 79 25).toInt ≤ 1000 * b → (gI es1 79 26).toInt = accF (akB es) (fun b => rwS es b m (nW (gA es 80) b)) b → (gI es1 79 26).toInt ≤ 1000 * b →
      aW O (d + 5) 234 kc ks Q (12, [some (.ref 143), some (.int (zI (m : Int))), some (.int (zI (b : Int))), x3, x4], [], es1) := by
  have hcb := cW_bd hT
  have hs0 := sh_of hT
  intro j
  induction j with
  | zero =>
    intro b es1 x3 x4 hj hT1 hf1 hr h25 g25 h26 g26
    have hW : gA es1 80 = gA es 80 := fr_row hf1 hs0 (p := 80) (t := 0) (n := 2125) (sp := tS80) rfl (by decide) (fun k => by simp only [frP, mHq, true_and, and_true, false_and, and_false, or_false, false_or, not_false_eq_true, Nat.reduceEqDiff] <;> omega)
    have hbc : b = cW (gA es 80) := by omega
    refine s_pr12 (d := d) (sh_of hT1) ⟨by omega, by omega⟩ ⟨by omega, by omega⟩ hT1 (fun v1 e1 h1 => K es1 ⟨sh_of hT1, hT1, hf1, ?_, ?_, ?_⟩) (fun v1 e1 h1 => ?_) (fun v1 e1 h1 => ?_)
    · rw [← hbc]; exact hr
    · rw [← hbc]; exact h25
    · rw [← hbc]; exact h26
    all_goals
      have e1' : v1 = (gA es1 80 1).toInt := e1
      rw [hW] at e1'
      omega
  | succ j ih =>
    intro b es1 x3 x4 hj hT1 hf1 hr h25 g25 h26 g26
    have hW : gA es1 80 = gA es 80 := fr_row hf1 hs0 (p := 80) (t := 0) (n := 2125) (sp := tS80) rfl (by decide) (fun k => by simp only [frP, mHq, true_and, and_true, false_and, and_false, or_false, false_or, not_false_eq_true, Nat.reduceEqDiff] <;> omega)
    have hP : gA es1 90 = gA es 90 := fr_row hf1 hs0 (p := 90) (t := 0) (n := 8) rfl (by decide) (fun k => by simp only [frP, mHq, true_and, and_true, false_and, and_false, or_false, false_or, not_false_eq_true, Nat.reduceEqDiff] <;> omega)
    have hF : gA es1 92 = gA es 92 := fr_row hf1 hs0 (p := 92) (t := 0) (n := 2232) rfl (by decide) (fun k => by simp only [frP, mHq, true_and, and_true, false_and, and_false, or_false, false_or, not_false_eq_true, Nat.reduceEqDiff] <;> omega)
    have hA : gI es1 79 18 = gI es 79 18 := fr_fld hf1 hs0 (p := 79) (b := 18) rfl (by simp only [frP, mHq, true_and, and_true, false_and, and_false, or_false, false_or, not_false_eq_true, Nat.reduceEqDiff] <;> omega)
    have e9 : ((b + 1 : Nat) : Int) = (b : Int) + 1 := by omega
    have hnb := nW_bd hT (b := b) (by omega)
    refine s_pr12 (d := d) (sh_of hT1) ⟨by omega, by omega⟩ ⟨by omega, by omega⟩ hT1 (fun v1 e1 h1 => ?_) (fun v1 e1 h1 v3 p3 h3 es5 p5 => ?_) (fun v1 e1 h1 v3 p3 h3 => ?_)
    · have e1' : v1 = (gA es1 80 1).toInt := e1
      rw [hW] at e1'
      omega
    · have hak : akB es b := by
        have := p3.1
        rw [hA] at this
        unfold akB
        split at this
        · assumption
        · omega
      unfold sumsP at p5
      simp only [Int.toNat_natCast] at p5
      obtain ⟨q1, q2, q3, q4⟩ := p5
      have hW5 : gA es5 80 = gA es 80 := by rw [← hW]; exact fr_row q3 (sh_of hT1) (p := 80) (t := 0) (n := 2125) (sp := tS80) rfl (by decide) (fun k => by simp only [mHq, true_and, and_true, false_and, and_false, or_false, false_or, not_false_eq_true, Nat.reduceEqDiff] <;> omega)
      have f25 : gI es5 79 25 = gI es1 79 25 := fr_fld q3 (sh_of hT1) (p := 79) (b := 25) rfl (by simp only [mHq, true_and, and_true, false_and, and_false, or_false, false_or, not_false_eq_true, Nat.reduceEqDiff] <;> omega)
      have f26 : gI es5 79 26 = gI es1 79 26 := fr_fld q3 (sh_of hT1) (p := 79) (b := 26) rfl (by simp only [mHq, true_and, and_true, false_and, and_false, or_false, false_or, not_false_eq_true, Nat.reduceEqDiff] <;> omega)
      have hrw : ∀ n, n ≤ nW (gA es 80) b → smS es5 b m n = rwS es b m n := by
        intro n hn
        rw [q4 n (by rw [hW]; exact hn)]
        unfold rwS
        rw [hW, hP]
        refine rowF_congr (N := nW (gA es 80) b) (fun hm0 k hk => ?_) (fun hm0 k hk => ?_) n hn
        · unfold smS
          rw [fr_at hf1 hs0 (p := 94) (t := 0) (n := 2325) rfl (by decide) (by simp only [frP, mHq, true_and, and_true, false_and, and_false, or_false, false_or, not_false_eq_true, Nat.reduceEqDiff] <;> omega)]
        · unfold ftS; rw [hF]
      have hl : lstF (smS es5 b m) (nW (gA es 80) b + 1) = lstF (rwS es b m) (nW (gA es 80) b + 1) := lstF_congr _ (fun k hk => hrw k (by omega))
      have hlb := lstF_bd (r := smS es5 b m) (nW (gA es 80) b + 1) (fun k hk => (sum_bd q2 (i := 25 * (31 * b + m) + k) (by omega)).1)
      have hwb : 0 ≤ smS es5 b m (nW (gA es 80) b) ∧ smS es5 b m (nW (gA es 80) b) ≤ 1000 := sum_bd q2 (i := 25 * (31 * b + m) + nW (gA es 80) b) (by omega)
      have hb25 : 0 ≤ (gI es5 79 25).toInt ∧ (gI es5 79 25).toInt ≤ 3000 := gI_bd q2 (p := 79) (b := 25) rfl rfl
      have hb26 : 0 ≤ (gI es5 79 26).toInt ∧ (gI es5 79 26).toInt ≤ 3000 := gI_bd q2 (p := 79) (b := 26) rfl rfl
      refine pr46_loop (d := d) (m := m) (b := b) (es := es5) (by omega) hm q2 (by rw [f25]; exact g25) (by rw [f26]; exact g26) (fun x3 x4 => ?_) (nW (gA es 80) b + 1) 0 (by rw [hW5]; omega)
      rw [hW5]
      have z1 : (zI ((gI es5 79 25).toInt + lstF (smS es5 b m) (nW (gA es 80) b + 1))).toInt = (gI es5 79 25).toInt + lstF (smS es5 b m) (nW (gA es 80) b + 1) := zI_toInt (by rw [f25] at *; unfold i32 iLO iHI; omega)
      have z2 : (zI ((gI es5 79 26).toInt + smS es5 b m (nW (gA es 80) b))).toInt = (gI es5 79 26).toInt + smS es5 b m (nW (gA es 80) b) := zI_toInt (by unfold i32 iLO iHI; omega)
      have hT6 : hOK tT (sI es5 79 25 (.int (zI ((gI es5 79 25).toInt + lstF (smS es5 b m) (nW (gA es 80) b + 1))))) := hOK_sI q2 (p := 79) (b := 25) rfl rfl (by rw [z1, f25]; exact ⟨by show (0 : Int) ≤ _; rw [f25] at hb25; omega, by show _ ≤ (3000 : Int); omega⟩)
      have hT7 : hOK tT (sI (sI es5 79 25 (.int (zI ((gI es5 79 25).toInt + lstF (smS es5 b m) (nW (gA es 80) b + 1))))) 79 26 (.int (zI ((gI es5 79 26).toInt + smS es5 b m (nW (gA es 80) b))))) := hOK_sI hT6 (p := 79) (b := 26) rfl rfl (by rw [z2, f26]; exact ⟨by show (0 : Int) ≤ _; rw [f26] at hb26; omega, by show _ ≤ (3000 : Int); omega⟩)
      have hfr : fr (frP m) es1 (sI (sI es5 79 25 (.int (zI ((gI es5 79 25).toInt + lstF (smS es5 b m) (nW (gA es 80) b + 1))))) 79 26 (.int (zI ((gI es5 79 26).toInt + smS es5 b m (nW (gA es 80) b))))) := by
        refine fr_trans (fr_wk ?_ q3) (fr_trans (fr_sI (mIn_yes (by simp only [frP, mHq, true_and, and_true, false_and, and_false, or_false, false_or, not_false_eq_true, Nat.reduceEqDiff] <;> omega))) (fr_sI (mIn_yes (by simp only [frP, mHq, true_and, and_true, false_and, and_false, or_false, false_or, not_false_eq_true, Nat.reduceEqDiff] <;> omega))))
        simp only [mAl, frP, mHq, true_and, and_true, false_and, and_false, or_false, false_or, not_false_eq_true, Nat.reduceEqDiff] <;> (repeat' apply And.intro) <;> intros <;> omega
      have k25 : (gI (sI (sI es5 79 25 (.int (zI ((gI es5 79 25).toInt + lstF (smS es5 b m) (nW (gA es 80) b + 1))))) 79 26 (.int (zI ((gI es5 79 26).toInt + smS es5 b m (nW (gA es 80) b))))) 79 25).toInt = (gI es1 79 25).toInt + lstF (rwS es b m) (nW (gA es 80) b + 1) := by
        rw [gI_sI_ne (Or.inr (by decide)), gI_sI q1 (p := 79) rfl (by decide), z1, f25, hl]
      have k26 : (gI (sI (sI es5 79 25 (.int (zI ((gI es5 79 25).toInt + lstF (smS es5 b m) (nW (gA es 80) b + 1))))) 79 26 (.int (zI ((gI es5 79 26).toInt + smS es5 b m (nW (gA es 80) b))))) 79 26).toInt = (gI es1 79 26).toInt + rwS es b m (nW (gA es 80) b) := by
        rw [gI_sI (sh_of hT6) (p := 79) rfl (by decide), z2, f26, hrw _ (Nat.le_refl _)]
      have := ih (b + 1) _ x3 x4 (by omega) hT7 (fr_trans hf1 hfr) (fun b' n hb' ha hn => ?_) (by rw [k25, accF, if_pos hak, h25]) (by rw [k25, ← hl]; omega) (by rw [k26, accF, if_pos hak, h26]) (by rw [k26, ← hrw _ (Nat.le_refl _)]; omega)
      · rw [e9] at this
        exact this
      · unfold smS
        rw [gA_sI, gA_sI]
        by_cases hbb : b' = b
        · subst hbb
          exact hrw n hn
        · have h24 := (nW_bd hT (b := b') (by omega)).2
          rw [fr_at q3 (sh_of hT1) (p := 94) (t := 0) (n := 2325) rfl (by decide) (by simp only [mHq, true_and, and_true, false_and, and_false, or_false, false_or, not_false_eq_true, Nat.reduceEqDiff] <;> omega)]
          exact hr b' n (by omega) ha hn
    · have hak : ¬ akB es b := by
        have := p3.1
        rw [hA] at this
        unfold akB
        split at this
        · omega
        · assumption
      have := ih (b + 1) es1 x3 x4 (by omega) hT1 hf1 (fun b' n hb' ha hn => by
        by_cases hbb : b' = b
        · subst hbb; exact absurd ha hak
        · exact hr b' n (by omega) ha hn) (by rw [accF, if_neg hak, h25]; omega) (by omega) (by rw [accF, if_neg hak, h26]; omega) (by omega)
      rw [e9] at this
      exact this
theorem prices_spec {m : Int} (hs : sh es) (hm : 0 ≤ m ∧ m ≤ 30) (hT : hOK tT es) (K : ∀ es', pricesP m es es' → Q (.inl none, es', kc, ks)) :
    aW O (d + 5) 234 kc ks Q (0, [some (.ref 143), some (.int (zI m)), none, none, none], [], es) := by
  obtain ⟨m, rfl⟩ := Int.eq_ofNat_of_zero_le hm.1
  refine s_pr0 (d := d + 5) hs hT (fun es1 e1 es2 e2 => ?_)
  have z0 : (zI 0).toInt = 0 := rfl
  have hT1 : hOK tT es1 := by rw [e1]; exact hOK_sI hT (p := 79) (b := 25) rfl rfl (by rw [z0]; exact ⟨by show (0 : Int) ≤ 0; omega, by show (0 : Int) ≤ 3000; omega⟩)
  have hT2 : hOK tT es2 := by rw [e2]; exact hOK_sI hT1 (p := 79) (b := 26) rfl rfl (by rw [z0]; exact ⟨by show (0 : Int) ≤ 0; omega, by show (0 : Int) ≤ 3000; omega⟩)
  have hf2 : fr (frP m) es es2 := by
    rw [e2, e1]
    exact fr_trans (fr_sI (mIn_yes (by simp only [frP, mHq, true_and, and_true, false_and, and_false, or_false, false_or, not_false_eq_true, Nat.reduceEqDiff] <;> omega))) (fr_sI (mIn_yes (by simp only [frP, mHq, true_and, and_true, false_and, and_false, or_false, false_or, not_false_eq_true, Nat.reduceEqDiff] <;> omega)))
  have k25 : (gI es2 79 25).toInt = 0 := by rw [e2, gI_sI_ne (Or.inr (by decide)), e1, gI_sI hs (p := 79) rfl (by decide)]; rfl
  have k26 : (gI es2 79 26).toInt = 0 := by rw [e2, gI_sI (sh_of hT1) (p := 79) rfl (by decide)]; rfl
  exact prices_loop (m := m) (by omega) hT (fun es' h => K es' (by unfold pricesP; simp only [Int.toNat_natCast]; exact h)) _ 0 es2 none none (Nat.zero_add _) hT2 hf2 (fun b' n hb' => absurd hb' (by omega)) (by rw [k25]; rfl) (by rw [k25]; omega) (by rw [k26]; rfl) (by rw [k26]; omega)
end
