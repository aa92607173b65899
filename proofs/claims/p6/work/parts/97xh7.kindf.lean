/-! the first wrong byte of a KIND's text, both sides -/
def wrK (R : Nat → Int32) (n : Nat) : Int := if (zKt (zR R) n).2.isSome = true then -1 else ((zKt (zR R) n).1 : Nat)
theorem wrK_n {R : Nat → Int32} {n : Nat} (h : (zKt (zR R) n).2 = none) : wrK R n = ((zKt (zR R) n).1 : Nat) := by unfold wrK; rw [if_neg (by rw [h]; decide)]
theorem wrK_y {R : Nat → Int32} {n : Nat} (h : (zKt (zR R) n).2.isSome = true) : wrK R n = -1 := by unfold wrK; rw [if_pos h]
section
variable {d : Nat} {es : PH} {R : Nat → Int32} {n : Nat} {xs : Nat → Int32} {N : Nat}
theorem fr_addK {a : Int} (hN : N ≤ 3584) (hd : 1 ≤ d) (ha : i32 a) (hT : hOK tT es) : aW (pO0 xs N) d 98 0 0 (fun o => o.1 = .inl none ∧ hOK tT o.2.1 ∧ fr kc_48.2.2.2.2.2.1 es o.2.1) (0, [some (.ref 71), some (.int (zI a)), some (.ref 67), none], [], es) := by
  have h := cp_of (c := kc_48) (ρ := [a]) (vs := [.ref 71, .int (zI a), .ref 67]) (d := d) (I := fun _ => True) (es := es) (kv_48 (aWd_T (xs := xs) hN)) rfl hd (gE_cons' ha gE_nil') rfl (gS_consr (gS_consi ha rfl (gS_consr gS_nil'))) hT trivial rfl
  refine aW_mono (Nat.le_refl _) (fun o ho => ?_) h
  obtain ⟨h1, -, h3, out, ho, τ, -, -, -, -, -, hr⟩ := ho
  rcases List.mem_cons.mp ho with rfl | ho
  · exact ⟨hr, h1, h3⟩
  · cases ho
def xkfP (R : Nat → Int32) (n : Nat) (r : Option Value ⊕ Nat) (es1 : PH) : Prop := hOK tT es1 ∧ (gI es1 0 8).toInt = wrK R n ∧ (r = .inr 0 ∨ r = .inr 1 ∨ ∃ v : Int, r = .inl (some (.int (zI v))))
theorem fnf_xkind {a : Int} (hN : N ≤ 3584) (ha : i32 a) (hT : hOK tT es) (hj : jB R n es) : aW (pO0 xs N) (d + 25) 78 0 0 (fun o => xkfP R n o.1 o.2.1) (0, [some (.ref 64), some (.int (zI a)), none], [], es) := by
  have haa := ha
  unfold i32 iLO iHI at haa
  have z0 : (zI 0).toInt = 0 := rfl
  refine s_xk0 (sh_of hT) hT ?_
  refine x_call (vs := [.ref 67, .int (zI 0)]) (rs := []) i_78_5 rfl (fun _ => rfl) rfl rfl rfl rfl rfl (pCall_v (p := 3) (sh_of hT) rfl rfl rfl rfl rfl (by decide) rfl rfl rfl rfl rfl) ?_
  show aW _ _ _ _ _ _ (0, [some (.ref 67), some (.int (zI 0)), none, none, none], [], es)
  refine aW_sh (rd_fn (d := d + 20) hT hj) (fun r es1 c1 k1 hp => ?_)
  obtain ⟨hT1, hp1⟩ : rdP R n r es1 := hp
  have hx8 : ∀ {es2 es3 : PH} {v1 : Int}, v1 = (gI es1 3 4).toInt → es2 = sI es1 0 8 (.int (zI v1)) → es3 = sI es2 1 1 (.int (zI 0)) → hOK tT es3 ∧ (gI es3 0 8).toInt = (gI es1 3 4).toInt := by
    intro es2 es3 v1 e1 e2 e3
    have hT2 : hOK tT es2 := by rw [e2]; exact hOK_sI hT1 (p := 0) (b := 8) (lo := iLO) (hi := iHI) rfl rfl (i32_rng _)
    refine ⟨by rw [e3]; exact hOK_sI hT2 (p := 1) (b := 1) (lo := iLO) (hi := iHI) rfl rfl (i32_rng _), ?_⟩
    rw [e3, gI_sI_ne (Or.inl (by decide)), e2, gI_sI (sh_of hT1) (p := 0) (b := 8) rfl (by decide), e1]
    exact zI_toInt (i32_rng _)
  rcases hp1 with ⟨rfl, g1, g2⟩ | ⟨rfl, g1, g2⟩
  · refine aK_inl ?_
    show aW _ _ _ _ _ _ (8, [some (.ref 64), some (.int (zI a)), none], [.int (zI 0)], es1)
    refine s_xk8 (d := d + 24) (sh_of hT1) haa (Or.inl rfl) hT1 (fun v1 e1 es2 e2 es3 e3 h1 => ?_) (fun v1 e1 es2 e2 es3 e3 h1 => absurd rfl h1) (fun v1 e1 es2 e2 es3 e3 h1 => absurd rfl h1) (fun v1 e1 es2 e2 es3 e3 h1 => absurd rfl h1)
    obtain ⟨a1, a2⟩ := hx8 e1 e2 e3
    exact ⟨a1, by show (gI es3 0 8).toInt = _; rw [a2, g2, wrK_n g1], Or.inl rfl⟩
  · refine aK_inl ?_
    show aW _ _ _ _ _ _ (8, [some (.ref 64), some (.int (zI a)), none], [.int (zI 1)], es1)
    have hw := wrK_y g1
    refine s_xk8 (d := d + 24) (sh_of hT1) haa (Or.inr rfl) hT1 (fun v1 e1 es2 e2 es3 e3 h1 => by omega) (fun v1 e1 es2 e2 es3 e3 h1 h2 => ?_) (fun v1 e1 es2 e2 es3 e3 h1 h2 h3 => ?_) (fun v1 e1 es2 e2 es3 e3 h1 h2 h3 => ?_)
    · obtain ⟨a1, a2⟩ := hx8 e1 e2 e3
      exact ⟨a1, by show (gI es3 0 8).toInt = _; rw [a2, g2, hw], Or.inl rfl⟩
    · obtain ⟨hT3, a2⟩ := hx8 e1 e2 e3
      refine s_xk37 (sh_of hT3) hT3 (fun v4 e4 h4 => ?_) (fun v4 e4 h4 => ⟨hT3, by show (gI es3 0 8).toInt = _; rw [a2, g2, hw], Or.inr (Or.inl rfl)⟩)
      refine x_call (vs := [.ref 71, .int (zI a), .ref 67]) (rs := []) i_78_67 rfl (fun _ => rfl) rfl rfl rfl rfl rfl (pCall_v (p := 7) (sh_of hT3) rfl rfl rfl rfl rfl (by decide) rfl rfl rfl rfl rfl) ?_
      show aW _ _ _ _ _ _ (0, [some (.ref 71), some (.int (zI a)), some (.ref 67), none], [], es3)
      refine aW_sh (fr_addK (d := d + 24) hN (by omega) ha hT3) (fun r es4 c4 k4 hp => ?_)
      obtain ⟨rfl, hT4, hf4⟩ : r = .inl none ∧ hOK tT es4 ∧ fr kc_48.2.2.2.2.2.1 es3 es4 := hp
      refine aK_nil ?_
      show aW _ _ _ _ _ _ (70, [some (.ref 64), some (.int (zI a)), some (.int (zI 1))], [], es4)
      refine s_xk70 (d := d + 24) (sh_of hT4) hT4 (fun es5 e5 es6 e6 v7 e7 => ?_)
      have hT5 : hOK tT es5 := by rw [e5]; exact hOK_sI hT4 (p := 0) (b := 10) rfl rfl (by rw [z0]; decide)
      have hT6 : hOK tT es6 := by rw [e6]; exact hOK_sI hT5 (p := 73) (b := 3) rfl rfl (by rw [z0]; decide)
      refine ⟨hT6, ?_, Or.inr (Or.inr ⟨_, rfl⟩)⟩
      show (gI es6 0 8).toInt = _
      rw [e6, gI_sI_ne (Or.inl (by decide)), e5, gI_sI_ne (Or.inr (by decide)), keepI hf4 (sh_of hT3) (p := 0) (b := 8) rfl (by decide), a2, g2, hw]
    · obtain ⟨a1, a2⟩ := hx8 e1 e2 e3
      exact ⟨a1, by show (gI es3 0 8).toInt = _; rw [a2, g2, hw], Or.inl rfl⟩
theorem fnf_ykind {a : Int} (hN : N ≤ 3584) (ha : i32 a) (hT : hOK tT es) (hj : jB R n es) : aW (pO0 xs N) (d + 26) 277 0 0 (fun o => (gI o.2.1 0 8).toInt = wrK R n) (0, [some (.ref 64), some (.int (zI a)), some (.ref 171), none], [], es) := by
  refine s_yk0 (sh_of hT) hT ?_
  refine x_call (vs := [.ref 64, .int (zI a)]) (rs := [.int (zI 0), .ref 171]) i_277_4 rfl (fun _ => rfl) rfl rfl rfl rfl rfl (pCall_v (p := 0) (sh_of hT) rfl rfl rfl rfl rfl (by decide) rfl rfl rfl rfl rfl) ?_
  show aW _ _ _ _ _ _ (0, [some (.ref 64), some (.int (zI a)), none], [], es)
  refine aW_mono (Nat.le_refl _) (fun o ho => ?_) (fnf_xkind (d := d) (xs := xs) hN ha hT hj)
  obtain ⟨r, es', kc', ks'⟩ := o
  obtain ⟨hT', hw, h⟩ : xkfP R n r es' := ho
  rcases h with rfl | rfl | ⟨v, rfl⟩
  · refine ⟨_, _, _, _, rfl, rfl, rfl, ?_⟩
    show aW _ _ _ _ _ _ (13, [some (.ref 64), some (.int (zI a)), some (.ref 171), none], [], es')
    exact s_yk13 (sh_of hT') hT' hw
  · refine ⟨_, _, _, _, rfl, rfl, rfl, ?_⟩
    show aW _ _ _ _ _ _ (16, [some (.ref 64), some (.int (zI a)), some (.ref 171), none], [], es')
    exact s_yk16 (sh_of hT') hT' hw
  · refine aK_inl ?_
    show aW _ _ _ _ _ _ (7, [some (.ref 64), some (.int (zI a)), some (.ref 171), none], [.int (zI v), .int (zI 0), .ref 171], es')
    refine s_yk7 (sh_of hT') hT' (fun es1 e_es1 => ?_)
    show (gI es1 0 8).toInt = _
    rw [e_es1, gI_sJ]
    exact hw
theorem mkf_loop {O : pOut} {kc ks : Nat} {Q : pRes → Prop} {a v t w : Int} (hv : 0 ≤ v ∧ v ≤ 6) (hq : 49 ≤ t ∧ t ≤ 105) (K : ∀ es' u, (gI es' 79 10).toInt = w → Q (.inl (some (.int (zI u))), es', kc, ks)) : ∀ (M : Nat) (k : Int) (es1 : PH), 12 - k < (M : Int) → 0 ≤ k → k ≤ 2 * v → sh es1 → (gI es1 79 10).toInt = w → aW O d 174 kc ks Q (111, [some (.ref 143), some (.int (zI a)), some (.int (zI v)), some (.int (zI t)), some (.int (zI k))], [], es1) := by
  intro M
  induction M with
  | zero => intro k es1 h; omega
  | succ M ih =>
    intro k es1 hM h0 h2v hs hw
    refine s_mk111 hs hv ⟨h0, by omega⟩ hq (fun h1 v2 e2 es3 e3 v4 e4 => K es3 _ (by rw [e3, gI_sA]; exact hw)) (fun h1 v5 e5 es6 e6 => ?_)
    exact ih (k + 1) es6 (by omega) (by omega) (by omega) (by rw [e6]; exact sh_sA hs) (by rw [e6, gI_sA]; exact hw)
theorem fnf_mkind {O : pOut} {a : Int} (ha : i32 a) (hT : hOK tT es) (hR : gA es 82 = R) (hn : (gI es 79 5).toInt = (n : Int)) : aW O (d + 5) 174 0 0 (fun o => (gI o.2.1 79 10).toInt = wrK R n) (0, [some (.ref 143), some (.int (zI a)), none, none, none], [], es) := by
  have haa := ha
  unfold i32 iLO iHI at haa
  refine s_mk0 (sh_of hT) hT (fun es1 e1 => ?_)
  have hT1 : hOK tT es1 := by rw [e1]; exact hOK_sI hT (p := 79) (b := 0) (lo := iLO) (hi := iHI) rfl rfl (i32_rng _)
  refine x_call (vs := [.ref 143, .int (zI 1)]) (rs := []) i_174_7 rfl (fun _ => rfl) rfl rfl rfl rfl rfl (pCall_v (p := 79) (sh_of hT1) rfl rfl rfl rfl rfl (by decide) rfl rfl rfl rfl rfl) ?_
  show aW _ _ _ _ _ _ (0, [some (.ref 143), some (.int (zI 1)), none], [], es1)
  refine aW_sh (ka_fn (d := d) (R := R) (n := n) (sh_of hT1) hT1 (by rw [e1, gA_sI]; exact hR) (by rw [e1, gI_sI_ne (Or.inr (by decide))]; exact hn)) (fun r es2 c1 k1 hp => ?_)
  obtain ⟨v, rfl, hT2, hf2', g1, g2⟩ : ∃ v, r = .inl (some (.int (zI v))) ∧ kaG R n es1 es2 v := hp
  refine aK_inl ?_
  show aW _ _ _ _ _ _ (10, [some (.ref 143), some (.int (zI a)), none, none, none], [.int (zI v)], es2)
  have hvk : -1 ≤ v ∧ v ≤ 6 := by
    cases hk : (zKt (zR R) n).2 with
    | none => have := (g1 hk).1; omega
    | some j => have := g2 j hk; omega
  have hyes : 0 ≤ v → wrK R n = -1 := by
    intro h
    cases hk : (zKt (zR R) n).2 with
    | none => have := (g1 hk).1; omega
    | some j => exact wrK_y (by rw [hk]; rfl)
  have hno : ¬ 0 ≤ v → wrK R n = bT es2 := by
    intro h
    cases hk : (zKt (zR R) n).2 with
    | none => rw [wrK_n hk, (g1 hk).2]
    | some j => have := g2 j hk; omega
  have fl : ∀ (w : Int) (es3 : PH), i32 w → es3 = sI es2 79 10 (.int (zI w)) → hOK tT es3 ∧ (gI es3 79 10).toInt = w := by
    intro w es3 hw e3
    refine ⟨by rw [e3]; exact hOK_sI hT2 (p := 79) (b := 10) (lo := iLO) (hi := iHI) rfl rfl (i32_rng _), ?_⟩
    rw [e3, gI_sI (sh_of hT2) (p := 79) (b := 10) rfl (by decide)]
    exact zI_toInt hw
  have im : i32 (-1) := by unfold i32 iLO iHI; omega
  refine s_mk10 (d := d + 4) (sh_of hT2) haa ⟨by omega, by omega⟩ hT2 (fun h1 es3 e3 h2 es4 e4 => ?_) (fun h1 es3 e3 h2 h3 es4 e4 => ?_) (fun h1 es3 e3 h2 h3 => ?_) (fun h1 v7 e7 es3 e3 es4 e4 => ?_)
  · show (gI es4 79 10).toInt = _
    rw [e4, gI_sI_ne (Or.inr (by decide)), (fl _ es3 im e3).2, hyes h1]
  · show (gI es4 79 10).toInt = _
    rw [e4, gI_sI_ne (Or.inr (by decide)), (fl _ es3 im e3).2, hyes h1]
  · obtain ⟨hT3, h30⟩ := fl _ es3 im e3
    have hw : (0 : Int) ≤ (gA es3 80 0).toInt ∧ (gA es3 80 0).toInt ≤ (5 : Int) := gA_bd hT3 (p := 80) (k := 0) rfl (by omega) (by decide)
    refine s_mk54 (d := d + 4) (sh_of hT3) hw hT3 (fun v4 e4 h4 => ?_) (fun v4 e4 h4 es5 e5 => ?_)
    · have hw4 : v4 = (gA es3 80 0).toInt := e4
      refine s_mk79 (sh_of hT3) ⟨by omega, by omega⟩ ⟨by omega, by omega⟩ hT3 (fun v5 e5 es6 e6 es7 e7 => ?_)
      have hw5 : v5 = (gA es3 80 0).toInt := e5
      have hs6 : sh es6 := by rw [e6]; exact sh_sA (sh_of hT3)
      refine mkf_loop (w := wrK R n) ⟨by omega, by omega⟩ ⟨by omega, by omega⟩ (fun es' u q1 => q1) 13 0 es7 (by omega) (by omega) (by omega) (by rw [e7]; exact sh_sA hs6) ?_
      rw [e7, e6, gI_sA, gI_sA, h30, hyes h1]
    · show (gI es5 79 10).toInt = _
      rw [e5, gI_sI_ne (Or.inr (by decide)), h30, hyes h1]
  · show (gI es4 79 10).toInt = _
    rw [e4, gI_sI_ne (Or.inr (by decide)), (fl v7 es3 (by rw [e7]; exact i32_rng _) e3).2, e7, hno h1]
    rfl
end
