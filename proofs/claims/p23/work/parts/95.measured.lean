/-! measured, and its LINES -/
theorem wf86 : ([(86, 0, 0, 400)] : List aMod).all (mFree gProt) = true := by decide
section
variable {O : pOut} {d kc ks : Nat} {Q : pRes → Prop} {es0 : PH} {k : Int}
theorem line_loop (hk : 444 ≤ k ∧ k ≤ 480) (hT0 : hOK tT es0) {H : Nat → Int} {a b : Nat} (hb : (b : Int) = (gA es0 80 (k + 3).toNat).toInt) (hb4 : b ≤ 400)
    (hH : ∀ i, a ≤ i → i < b → i < 400 → (0 ≤ (gA es0 80 (484 + 2 * i)).toInt ∧ (gA es0 80 (484 + 2 * i)).toInt ≤ 6 ∧ H (i + 1) = H i + 1) ∨ ((gA es0 80 (484 + 2 * i)).toInt = 10 ∧ 1 ≤ H i ∧ H (i + 1) = H i) ∨ (7 ≤ (gA es0 80 (484 + 2 * i)).toInt ∧ (gA es0 80 (484 + 2 * i)).toInt ≠ 10 ∧ 2 ≤ H i ∧ H (i + 1) = H i - 1))
    (K : ∀ (es' : PH) (r : Int), hOK tT es' → fr [(86, 0, 0, 400)] es0 es' → 0 ≤ r ∧ r ≤ 1 → Q (.inl (some (.int (zI r))), es', kc, ks)) :
    ∀ (m i : Nat) (h : Int) (es : PH) (x4 x5 x6 x7 : Option Value), b - i = m → hOK tT es → fr [(86, 0, 0, 400)] es0 es → a ≤ i → i ≤ 400 → h = H i → 0 ≤ h → h ≤ i →
    aW O d 247 kc ks Q (11, [some (.ref 143), some (.int (zI k)), some (.int (zI h)), some (.int (zI (i : Int))), x4, x5, x6, x7], [], es) := by
  intro m
  induction m using Nat.strongRecOn with
  | ind m ih =>
  intro i h es x4 x5 x6 x7 hm hT hf hai hi4 hh h0 h1
  have hl := hOK_len hT0
  have cell : ∀ c, gA es 80 c = gA es0 80 c := fun c => fr_cell hf (by omega) (by
    rw [← Bool.not_eq_true]
    intro hm
    unfold mIn at hm
    rw [List.any_eq_true] at hm
    obtain ⟨t, ht, h2⟩ := hm
    simp only [List.mem_cons, List.not_mem_nil, or_false] at ht
    subst ht
    simp at h2)
  refine s_line11 (sh_of hT) hk ⟨h0, by omega⟩ ⟨by omega, by omega⟩ hT (fun _ _ _ _ => K es 1 hT hf ⟨by omega, by omega⟩) (fun _ _ _ _ _ _ _ => K es 0 hT hf ⟨by omega, by omega⟩) (fun _ _ _ _ _ _ _ => K es 1 hT hf ⟨by omega, by omega⟩) (fun v1 hv1 hlt v6 hv6 => ?_)
  rw [cell, ← hb] at hv1
  have hib : i < b := by omega
  have e6 : (484 + (2 * (i : Int))).toNat = 484 + 2 * i := by omega
  rw [e6, cell] at hv6
  have nxt : ∀ (w j : Int) (h' : Int) (y4 y5 y6 y7 : Option Value) (p : Nat), h' = H (i + 1) → 0 ≤ h' → h' ≤ (i : Int) + 1 → (p < 400) → aW O d 247 kc ks Q (11, [some (.ref 143), some (.int (zI k)), some (.int (zI h')), some (.int (zI ((i : Int) + 1))), y4, y5, y6, y7], [], sA es 86 p (zI w)) := fun w j h' y4 y5 y6 y7 p g1 g2 g3 g4 => by
    have := ih (b - (i + 1)) (by omega) (i + 1) h' (sA es 86 p (zI w)) y4 y5 y6 y7 rfl (hOK_sA hT (p := 86) (n := 400) rfl (fun _ => i32_rng _)) (fr_trans hf (fr_sA (mIn_of (lo := 0) (hi := 400) (by decide) (by omega) g4))) (by omega) (by omega) g1 g2 (by omega)
    rw [show ((i + 1 : Nat) : Int) = (i : Int) + 1 by omega] at this
    exact this
  have hi399 : i ≤ 399 := by omega
  rcases hH i hai hib (by omega) with ⟨q1, q2, q3⟩ | ⟨q1, q2, q3⟩ | ⟨q1, q2, q3, q4⟩
  · rw [← hv6] at q1 q2
    exact s_lineP (sh_of hT) hk ⟨h0, by omega⟩ ⟨by omega, by omega⟩ ⟨q1, q2⟩ (fun _ v2 _ es3 he3 => by rw [he3]; exact nxt _ 0 _ _ _ _ _ _ (by omega) (by omega) (by omega) (by omega)) (fun _ v2 _ es3 he3 => by rw [he3]; exact nxt _ 0 _ _ _ _ _ _ (by omega) (by omega) (by omega) (by omega))
  · rw [← hv6] at q1
    subst q1
    exact s_lineN (sh_of hT) hk ⟨by omega, by omega⟩ ⟨by omega, by omega⟩ (fun v2 _ es3 he3 => by rw [he3]; exact nxt _ 0 _ _ _ _ _ _ (by omega) (by omega) (by omega) (by omega))
  · rw [← hv6] at q1 q2
    have r6 : v6 ≤ 2147483647 := by rw [hv6]; have := (i32_rng (gA es0 80 (484 + 2 * i))).2; unfold iHI at this; exact this
    refine s_lineB (sh_of hT) hk ⟨by omega, by omega⟩ ⟨by omega, by omega⟩ ⟨q1, r6⟩ q2 ?_ ?_ ?_ ?_ ?_ ?_ ?_ ?_ ?_ ?_ <;>
      (intros; rename_i he9; rw [he9]; exact nxt _ 0 _ _ _ _ _ _ (by omega) (by omega) (by omega) (by omega))
theorem meas_loop : ∀ (m : Nat) (n s : Int) (es0 es : PH) (x3 : Option Value), (10 - n).toNat = m → hOK tT es → gInv es → fr [(86, 0, 0, 400)] es0 es → 0 ≤ n ∧ n ≤ 10 → (∀ (es' : PH) (r : Int), hOK tT es' → gInv es' → fr [(86, 0, 0, 400)] es0 es' → Q (.inl (some (.int (zI r))), es', kc, ks)) →
    aW O (d + 1) 246 kc ks Q (4, [some (.ref 143), some (.int (zI s)), some (.int (zI n)), x3], [], es) := by
  intro m
  induction m using Nat.strongRecOn with
  | ind m ih =>
  intro n s es0 es x3 hm hT hI hf hn K
  refine s_meas4 (sh_of hT) hn hT (fun _ _ _ => K es s hT hI hf) (fun v1 hv1 hlt => ?_)
  have hb443 : 0 ≤ (gA es 80 443).toInt ∧ (gA es 80 443).toInt ≤ 10 := gA_bd hT (p := 80) (t := 0) (n := 2125) (sp := tS80) (k := 443) rfl (by omega) (by decide)
  have hv1' : v1 = (gA es 80 443).toInt := hv1
  have hn9 : n ≤ 9 := by omega
  obtain ⟨nn, hnn⟩ : ∃ nn : Nat, n = (nn : Int) := ⟨n.toNat, by omega⟩
  obtain ⟨H, hH0, hH⟩ := hI.2.1 nn (by omega) (by omega)
  refine x_call (vs := [.ref 143, .int (zI (444 + (4 * n)))]) (rs := []) i_246_26 rfl (fun _ => rfl) rfl rfl rfl rfl rfl (pCall_v (p := 79) (sh_of hT) rfl rfl rfl rfl rfl (by decide) rfl rfl rfl rfl rfl) ?_
  show aW _ _ _ _ _ _ (0, [some (.ref 143), some (.int (zI (444 + (4 * n)))), none, none, none, none, none, none], [], es)
  refine s_line0 (sh_of hT) ⟨by omega, by omega⟩ (fun a ha => ?_)
  have e2 : ((444 + (4 * n)) + 2).toNat = 444 + 4 * nn + 2 := by omega
  have e3 : ((444 + (4 * n)) + 3).toNat = 444 + 4 * nn + 3 := by omega
  have htab : ∀ q, q < 10 → tS80 (444 + 4 * q + 2) = (0, 400) ∧ tS80 (444 + 4 * q + 3) = (0, 400) ∧ tS80 (444 + 4 * q + 1) = (-1, 3) := by decide +kernel
  have hb2 := gA_bd hT (p := 80) (t := 0) (n := 2125) (sp := tS80) (k := 444 + 4 * nn + 2) rfl (by omega) (by decide)
  have hb3 := gA_bd hT (p := 80) (t := 0) (n := 2125) (sp := tS80) (k := 444 + 4 * nn + 3) rfl (by omega) (by decide)
  rw [(htab nn (by omega)).1] at hb2
  rw [(htab nn (by omega)).2.1] at hb3
  simp only at hb2 hb3
  rw [e2] at ha
  obtain ⟨aN, haN⟩ : ∃ aN : Nat, (aN : Int) = a := ⟨a.toNat, by omega⟩
  rw [← haN]
  have ea : (gA es 80 (444 + 4 * nn + 2)).toInt.toNat = aN := by omega
  rw [ea] at hH0 hH
  refine line_loop (H := H) (a := aN) (b := (gA es 80 (444 + 4 * nn + 3)).toInt.toNat) ⟨by omega, by omega⟩ hT (by rw [e3]; omega) (by omega) hH (fun es' r hT' hf' hr => ?_) _ aN 0 es _ _ _ _ rfl hT (fr_refl _ _) (Nat.le_refl _) (by omega) hH0.symm (by omega) (by omega)
  show aW _ _ _ _ _ _ (29, [some (.ref 143), some (.int (zI s)), some (.int (zI n)), some (.int (zI (444 + (4 * n))))], [.int (zI r)], es')
  have hI' := gInv_fr _ wf86 es es' hf' hI
  have hf2 := fr_trans hf hf'
  have hb1 := gA_bd hT' (p := 80) (t := 0) (n := 2125) (sp := tS80) (k := 444 + 4 * nn + 1) rfl (by omega) (by decide)
  rw [(htab nn (by omega)).2.2] at hb1
  simp only at hb1
  have e1 : ((444 + (4 * n)) + 1).toNat = 444 + 4 * nn + 1 := by omega
  have nxt : ∀ s' : Int, aW O (d + 1) 246 kc ks Q (4, [some (.ref 143), some (.int (zI s')), some (.int (zI (n + 1))), some (.int (zI (444 + (4 * n))))], [], es') := fun s' => ih (10 - (n + 1)).toNat (by omega) (n + 1) s' es0 es' _ rfl hT' hI' hf2 ⟨by omega, by omega⟩ K
  exact s_meas29 (sh_of hT') ⟨hn.1, hn9⟩ ⟨by omega, by omega⟩ hr (by rw [e1]; omega) hT' (fun _ => nxt _) (fun _ v2 _ v3 _ _ v5 _ v6 _ => nxt _) (fun _ v2 _ v3 _ _ => nxt _)
end
theorem hm_measured {O : pOut} : conOK O gG gInv kc_364 := by
  refine ⟨_, rfl, fun d hd ρ vs es hE hC hS hT hI hF => ?_⟩
  obtain ⟨v0, s0, rfl, g0, g1'⟩ := gS_cons hS
  cases gS_nil g1'
  cases arg_r g0
  have hd1 : 1 ≤ d := hd
  obtain ⟨d', rfl⟩ : ∃ d', d = d' + 1 := ⟨d - 1, by omega⟩
  refine s_meas0 (sh_of hT) ?_
  refine meas_loop _ 0 0 es es _ rfl hT hI (fr_refl _ _) ⟨by omega, by omega⟩ (fun es' r hT' hI' hf' => ?_)
  rw [← zI_id (zI r)]
  exact post_int (c := kc_364) (lo := iLO) (hi := iHI) hE hT' hI' hf' List.mem_cons_self (i32_rng _) (i32_rng _).1 (i32_rng _).2 (Nat.le_refl _) (Nat.le_refl _)
