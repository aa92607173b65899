/-! KIND of both sides: what is kept of its LINES -/
theorem okL {c : Nat → Int} {n q b : Nat} {x : Int × Int} (h : zKl c n q = (b, some x)) : (-16 ≤ x.1 ∧ x.1 ≤ -12) ∧ ((x.1 ≤ -15 ∧ x.2 = 1) ∨ (-14 ≤ x.1 ∧ 1 ≤ x.2 ∧ x.2 ≤ 5)) := by
  unfold zKl at h
  by_cases h1 : -16 ≤ zCod c n q ∧ zCod c n q ≤ -12
  · rw [if_pos h1] at h
    by_cases h2 : -14 ≤ zCod c n q
    · rw [if_pos h2] at h
      by_cases h3 : 1 ≤ zCod c n (zNx c n (zBe c n q)) ∧ zCod c n (zNx c n (zBe c n q)) ≤ 5
      · rw [if_pos h3] at h
        have hx := Option.some.inj (congrArg Prod.snd h)
        rw [← hx]
        exact ⟨h1, Or.inr ⟨h2, h3⟩⟩
      · rw [if_neg h3] at h
        cases congrArg Prod.snd h
    · rw [if_neg h2] at h
      have hx := Option.some.inj (congrArg Prod.snd h)
      rw [← hx]
      exact ⟨h1, Or.inl ⟨by show zCod c n q ≤ -15; omega, rfl⟩⟩
  · rw [if_neg h1] at h
    cases congrArg Prod.snd h
theorem okLs {c : Nat → Int} {n : Nat} : ∀ (j q i : Nat) (x : Int × Int), (zKlL c n j q)[i]? = some x → (-16 ≤ x.1 ∧ x.1 ≤ -12) ∧ ((x.1 ≤ -15 ∧ x.2 = 1) ∨ (-14 ≤ x.1 ∧ 1 ≤ x.2 ∧ x.2 ≤ 5)) := by
  intro j
  induction j with
  | zero => intro q i x h; cases h
  | succ j ih =>
    intro q i x h
    rcases hk : zKl c n q with ⟨b, _ | y⟩
    · have e : zKlL c n (j + 1) q = [] := by simp only [zKlL, hk]
      rw [e] at h
      cases h
    · rw [zKlL_yes hk] at h
      cases i with
      | zero =>
        have hy : y = x := Option.some.inj h
        rw [← hy]
        exact okL hk
      | succ i =>
        rw [List.getElem?_cons_succ] at h
        by_cases h1 : n ≤ b
        · rw [if_pos h1] at h; cases h
        · rw [if_neg h1] at h
          by_cases h2 : zCod c n b = -1059
          · rw [if_pos h2] at h; exact ih _ i x h
          · rw [if_neg h2] at h; cases h
theorem okLt {c : Nat → Int} {n i : Nat} {x : Int × Int} (h : (zKtL c n)[i]? = some x) : (-16 ≤ x.1 ∧ x.1 ≤ -12) ∧ ((x.1 ≤ -15 ∧ x.2 = 1) ∨ (-14 ≤ x.1 ∧ 1 ≤ x.2 ∧ x.2 ≤ 5)) := by
  unfold zKtL at h
  by_cases h1 : n ≤ zNx c n 0
  · rw [if_pos h1] at h; cases h
  · rw [if_neg h1] at h
    exact okLs 6 _ i x h
theorem zI_id2 {x : Int32} : zI x.toInt = x := zI_id x
section
variable {O : pOut} {d kc ks : Nat} {Q : pRes → Prop} {es : PH}
/-- a block of a row comes out of the emitted cells -/
def bkP (w m : Nat) (a0 a4 : Nat → Int32) (j : Nat) : Int32 := if 12 * w ≤ j ∧ j < 12 * w + m then a4 (j - 12 * w) else a0 j
theorem akk_loop {a : Int} {w : Nat} {a4 a9 a0 : Nat → Int32} (hw : w ≤ 4) (K : ∀ es', hOK tT es' → (gI es' 7 0).toInt = (w : Int) + 1 → gI es' 1 1 = gI es 1 1 → gA es' 9 = a9 → (∀ j, gA es' 10 j = bkP w 12 a0 a4 j) → Q (.inl none, es', kc, ks)) : ∀ (M k : Nat) (es1 : PH), k + M = 12 → hOK tT es1 → (gI es1 7 0).toInt = (w : Int) → gI es1 1 1 = gI es 1 1 → gA es1 4 = a4 → gA es1 9 = a9 → (∀ j, gA es1 10 j = bkP w k a0 a4 j) → aW O (d + 1) 98 kc ks Q (29, [some (.ref 71), some (.int (zI a)), some (.ref 67), some (.int (zI (k : Int)))], [], es1) := by
  intro M
  induction M with
  | zero =>
    intro k es1 hk hT h7 h1 h4 h9 h10
    refine s_akk29 (d := d) (k := (k : Int)) (sh_of hT) ⟨by omega, by omega⟩ ⟨by omega, by omega⟩ hT (fun _ v2 e2 es3 e3 => ?_) (fun h => absurd (by omega) h)
    refine K es3 (by rw [e3]; exact hOK_sI hT (p := 7) (b := 0) (lo := iLO) (hi := iHI) rfl rfl (i32_rng _)) ?_ ?_ ?_ (fun j => ?_)
    · rw [e3, gI_sI (sh_of hT) (p := 7) (b := 0) rfl (by decide), e2, h7, zI_toInt (by unfold i32 iLO iHI; omega)]
    · rw [e3, gI_sI_ne (Or.inl (by decide))]; exact h1
    · rw [e3, gA_sI]; exact h9
    · rw [e3, gA_sI, h10 j, show k = 12 by omega]
  | succ M ih =>
    intro k es1 hk hT h7 h1 h4 h9 h10
    refine s_akk29 (d := d) (k := (k : Int)) (sh_of hT) ⟨by omega, by omega⟩ ⟨by omega, by omega⟩ hT (fun h => absurd h (by omega)) (fun _ v4 e4 v5 e5 es6 p6 => ?_)
    obtain ⟨p61, p62, p63⟩ := p6
    have hv5 : v5 = (gA es1 4 ((k : Int)).toNat).toInt := e5
    rw [Int.toNat_natCast, h4] at hv5
    have := ih (k + 1) es6 (by omega) p62 (by rw [p63, gI_sA]; exact h7) (by rw [p63, gI_sA]; exact h1) (by rw [p63, gA_sA_ne (by decide)]; exact h4) (by rw [p63, gA_sA_ne (by decide)]; exact h9) (fun j => ?_)
    · rw [show ((k + 1 : Nat) : Int) = (k : Int) + 1 by omega] at this
      exact this
    · rw [p63, gA_sA (sh_of hT) (p := 10) (t := 0) (n := 60) rfl (by decide)]
      unfold upd
      have he : (((v4 * 6) * 2) + (k : Int)).toNat = 12 * w + k := by omega
      rw [he]
      by_cases hj : j = 12 * w + k
      · rw [if_pos hj]
        unfold bkP
        rw [if_pos ⟨by omega, by omega⟩, hj, show 12 * w + k - 12 * w = k by omega, hv5, zI_id2]
      · rw [if_neg hj, h10 j]
        unfold bkP
        by_cases hb : 12 * w ≤ j ∧ j < 12 * w + k
        · rw [if_pos hb, if_pos ⟨hb.1, by omega⟩]
        · rw [if_neg hb, if_neg (by omega)]
theorem akk_spec {a : Int} {w : Nat} (hw : w ≤ 4) (hT : hOK tT es) (h7 : (gI es 7 0).toInt = (w : Int)) (K : ∀ es', hOK tT es' → (gI es' 7 0).toInt = (w : Int) + 1 → gI es' 1 1 = gI es 1 1 → gA es' 9 = upd (gA es 9) w (gI es 3 3) → (∀ j, gA es' 10 j = bkP w 12 (gA es 10) (gA es 4) j) → Q (.inl none, es', kc, ks)) : aW O (d + 1) 98 kc ks Q (0, [some (.ref 71), some (.int (zI a)), some (.ref 67), none], [], es) := by
  refine s_akk0 (d := d) (sh_of hT) ⟨by omega, by omega⟩ hT (fun v1 e1 es2 p2 => ?_)
  obtain ⟨p21, p22, p23⟩ := p2
  have h72 : gI es2 7 0 = gI es 7 0 := by rw [p23, gI_sA]
  refine s_akk16 (d := d) p21 (by rw [h72]; exact ⟨by omega, by omega⟩) p22 (fun v2 e2 v3 e3 es4 p4 => ?_)
  obtain ⟨p41, p42, p43⟩ := p4
  have hv2 : v2.toNat = w := by rw [e2, h72]; omega
  have h33 : gI es2 3 3 = gI es 3 3 := by rw [p23, gI_sA]
  have := akk_loop (d := d) (O := O) (kc := kc) (ks := ks) (Q := Q) (es := es) (a := a) (w := w) (a4 := gA es 4) (a9 := upd (gA es 9) w (gI es 3 3)) (a0 := gA es 10) hw K 12 0 es4 (by omega) p42 (by rw [p43, gI_sA, h72]; exact h7) (by rw [p43, gI_sA, p23, gI_sA]) (by rw [p43, gA_sA_ne (by decide), p23, gA_sA_ne (by decide)]) (by
      rw [p43, gA_sA p21 (p := 9) (t := 0) (n := 5) rfl (by decide), hv2, e3, h33, zI_id2, p23, gA_sA_ne (by decide)]) (fun j => by
      rw [p43, gA_sA_ne (by decide), p23, gA_sA_ne (by decide)]
      unfold bkP
      rw [if_neg (by omega)])
  exact this
end
/-- what the class keeps of a KIND -/
def kLP (R : Nat → Int32) (n : Nat) (a : Int) (es es1 : PH) : Prop := ((badK R n a ∨ 5 ≤ (gI es 7 0).toInt) ∧ (∀ k, k < 5 → gA es1 9 k = gA es 9 k) ∧ ∀ k, k < 60 → gA es1 10 k = gA es 10 k) ∨
  ((¬ badK R n a ∧ (gI es 7 0).toInt < 5) ∧ (zKtL (zR R) n).length ≤ 6 ∧ (gA es1 9 (gI es 7 0).toInt.toNat).toInt = ((zKtL (zR R) n).length : Int) ∧ (∀ k, k < 5 → k ≠ (gI es 7 0).toInt.toNat → gA es1 9 k = gA es 9 k) ∧ (∀ k, k < 60 → ¬ (12 * (gI es 7 0).toInt.toNat ≤ k ∧ k < 12 * (gI es 7 0).toInt.toNat + 12) → gA es1 10 k = gA es 10 k) ∧
    ∀ (i : Nat) (x : Int × Int), (zKtL (zR R) n)[i]? = some x → (gA es1 10 (12 * (gI es 7 0).toInt.toNat + 2 * i)).toInt = x.1 ∧ (gA es1 10 (12 * (gI es 7 0).toInt.toNat + 2 * i + 1)).toInt = x.2)
def rdK (R : Nat → Int32) (n : Nat) (r : Option Value ⊕ Nat) (es1 : PH) : Prop := hOK tT es1 ∧ ((r = .inl (some (.int (zI 0))) ∧ (zKt (zR R) n).2 = none) ∨ (r = .inl (some (.int (zI 1))) ∧ (zKt (zR R) n).2.isSome = true ∧ eC (zKtL (zR R) n) es1 ∧ (gI es1 3 3).toInt = ((zKtL (zR R) n).length : Int) ∧ (zKtL (zR R) n).length ≤ 6))
section
variable {d : Nat} {es : PH} {R : Nat → Int32} {n : Nat} {xs : Nat → Int32} {N : Nat}
theorem rdk_fn {O : pOut} (hT : hOK tT es) (hj : jB R n es) : aW O (d + 4) 79 0 0 (fun o => rdK R n o.1 o.2.1) (0, [some (.ref 67), some (.int (zI 0)), none, none, none], [], es) :=
  rd_spec (d := d) hT hj (fun es' a b c => ⟨a, Or.inl ⟨rfl, b⟩⟩) (fun es' a b c e f g => ⟨a, Or.inr ⟨rfl, b, e, f, g⟩⟩)
theorem fnk_xkind {a : Int} (hN : N ≤ 3584) (ha : i32 a) (hT : hOK tT es) (hj : jB R n es) (h7 : 0 ≤ (gI es 7 0).toInt ∧ (gI es 7 0).toInt ≤ 5) : aW (pO0 xs N) (d + 25) 78 0 0 (fun o => (∃ r, o.1 = .inl (some (.int r)) ∨ o.1 = .inr 0 ∨ o.1 = .inr 1) ∧ hOK tT o.2.1 ∧ kLP R n a es o.2.1) (0, [some (.ref 64), some (.int (zI a)), none], [], es) := by
  have haa := ha
  unfold i32 iLO iHI at haa
  have z0 : (zI 0).toInt = 0 := rfl
  refine s_xk0 (sh_of hT) hT ?_
  refine x_call (vs := [.ref 67, .int (zI 0)]) (rs := []) i_78_5 rfl (fun _ => rfl) rfl rfl rfl rfl rfl (pCall_v (p := 3) (sh_of hT) rfl rfl rfl rfl rfl (by decide) rfl rfl rfl rfl rfl) ?_
  show aW _ _ _ _ _ _ (0, [some (.ref 67), some (.int (zI 0)), none, none, none], [], es)
  refine aW_sh (aW_and (fr_reads (d := d + 24) hN (by omega) (by unfold i32 iLO iHI; omega) hT) (rdk_fn (d := d + 20) hT hj)) (fun r es1 c1 k1 hp => ?_)
  obtain ⟨hf1, hT1, hp1⟩ : fr kc_43.2.2.2.2.2.1 es es1 ∧ rdK R n r es1 := hp
  have g7 : gI es1 7 0 = gI es 7 0 := keepI hf1 (sh_of hT) (p := 7) (b := 0) rfl (by decide)
  have g9 : ∀ k, k < 5 → gA es1 9 k = gA es 9 k := fun k hk => keepA hf1 (sh_of hT) (p := 9) (t := 0) (n := 5) rfl (by decide) (by decide) k hk
  have g10 : ∀ k, k < 60 → gA es1 10 k = gA es 10 k := fun k hk => keepA hf1 (sh_of hT) (p := 10) (t := 0) (n := 60) rfl (by decide) (by decide) k hk
  have hx8 : ∀ {es2 es3 : PH} {v1 : Int}, es2 = sI es1 0 8 (.int (zI v1)) → es3 = sI es2 1 1 (.int (zI 0)) → hOK tT es3 ∧ gI es3 7 0 = gI es 7 0 ∧ gI es3 3 2 = gI es1 3 2 ∧ gI es3 3 3 = gI es1 3 3 ∧ (∀ q, gA es3 q = gA es1 q) := by
    intro es2 es3 v1 e2 e3
    have hT2 : hOK tT es2 := by rw [e2]; exact hOK_sI hT1 (p := 0) (b := 8) (lo := iLO) (hi := iHI) rfl rfl (i32_rng _)
    refine ⟨by rw [e3]; exact hOK_sI hT2 (p := 1) (b := 1) (lo := iLO) (hi := iHI) rfl rfl (i32_rng _), ?_, ?_, ?_, fun q => by rw [e3, gA_sI, e2, gA_sI]⟩
    · rw [e3, gI_sI_ne (Or.inl (by decide)), e2, gI_sI_ne (Or.inl (by decide))]; exact g7
    · rw [e3, gI_sI_ne (Or.inl (by decide)), e2, gI_sI_ne (Or.inl (by decide))]
    · rw [e3, gI_sI_ne (Or.inl (by decide)), e2, gI_sI_ne (Or.inl (by decide))]
  have no : ∀ {es2 es3 : PH} {v1 : Int}, es2 = sI es1 0 8 (.int (zI v1)) → es3 = sI es2 1 1 (.int (zI 0)) → (badK R n a ∨ 5 ≤ (gI es 7 0).toInt) → hOK tT es3 ∧ kLP R n a es es3 := fun e2 e3 hb => by
    obtain ⟨a1, a2, a3, a4, a5⟩ := hx8 e2 e3
    exact ⟨a1, Or.inl ⟨hb, fun k hk => by rw [a5]; exact g9 k hk, fun k hk => by rw [a5]; exact g10 k hk⟩⟩
  rcases hp1 with ⟨rfl, g1⟩ | ⟨rfl, g1, g2, g3, g4⟩
  · refine aK_inl ?_
    show aW _ _ _ _ _ _ (8, [some (.ref 64), some (.int (zI a)), none], [.int (zI 0)], es1)
    have bad : badK R n a := fun h => by rw [g1] at h; cases h.1
    exact s_xk8 (d := d + 24) (sh_of hT1) haa (Or.inl rfl) hT1 (fun v1 e1 es2 e2 es3 e3 h1 => ⟨⟨0, Or.inr (Or.inl rfl)⟩, no e2 e3 (Or.inl bad)⟩) (fun v1 e1 es2 e2 es3 e3 h1 => absurd rfl h1) (fun v1 e1 es2 e2 es3 e3 h1 => absurd rfl h1) (fun v1 e1 es2 e2 es3 e3 h1 => absurd rfl h1)
  · refine aK_inl ?_
    show aW _ _ _ _ _ _ (8, [some (.ref 64), some (.int (zI a)), none], [.int (zI 1)], es1)
    refine s_xk8 (d := d + 24) (sh_of hT1) haa (Or.inr rfl) hT1 (fun v1 e1 es2 e2 es3 e3 h1 => by omega) (fun v1 e1 es2 e2 es3 e3 h1 h2 => ⟨⟨0, Or.inr (Or.inl rfl)⟩, no e2 e3 (Or.inl (fun h => by omega))⟩) (fun v1 e1 es2 e2 es3 e3 h1 h2 h3 => ?_) (fun v1 e1 es2 e2 es3 e3 h1 h2 h3 => ⟨⟨0, Or.inr (Or.inl rfl)⟩, no e2 e3 (Or.inl (fun h => by omega))⟩)
    have good : ¬ badK R n a := fun h => h ⟨g1, by omega, by omega⟩
    obtain ⟨hT3, h73, h32, h33, hq3⟩ := hx8 e2 e3
    refine s_xk37 (sh_of hT3) hT3 (fun v4 e4 h4 => ?_) (fun v4 e4 h4 => ⟨⟨0, Or.inr (Or.inr rfl)⟩, no e2 e3 (Or.inr (by rw [← h73]; omega))⟩)
    have hlt : (gI es 7 0).toInt < 5 := by rw [← h73]; omega
    obtain ⟨w, hw⟩ : ∃ w : Nat, w = (gI es 7 0).toInt.toNat := ⟨_, rfl⟩
    refine x_call (vs := [.ref 71, .int (zI a), .ref 67]) (rs := []) i_78_67 rfl (fun _ => rfl) rfl rfl rfl rfl rfl (pCall_v (p := 7) (sh_of hT3) rfl rfl rfl rfl rfl (by decide) rfl rfl rfl rfl rfl) ?_
    show aW _ _ _ _ _ _ (0, [some (.ref 71), some (.int (zI a)), some (.ref 67), none], [], es3)
    refine akk_spec (d := d + 23) (w := w) (by omega) hT3 (by rw [h73]; omega) (fun es4 hT4 h74 h41 h94 h104 => ?_)
    refine aK_nil ?_
    show aW _ _ _ _ _ _ (70, [some (.ref 64), some (.int (zI a)), some (.int (zI 1))], [], es4)
    refine s_xk70 (d := d + 24) (sh_of hT4) hT4 (fun es5 e5 es6 e6 v7 e7 => ?_)
    have hT5 : hOK tT es5 := by rw [e5]; exact hOK_sI hT4 (p := 0) (b := 10) rfl rfl (by rw [z0]; decide)
    have hT6 : hOK tT es6 := by rw [e6]; exact hOK_sI hT5 (p := 73) (b := 3) rfl rfl (by rw [z0]; decide)
    have hq6 : ∀ q, gA es6 q = gA es4 q := fun q => by rw [e6, gA_sI, e5, gA_sI]
    refine ⟨⟨_, Or.inl rfl⟩, hT6, Or.inr ⟨⟨good, hlt⟩, g4, ?_, fun k hk hne => ?_, fun k hk hne => ?_, fun i x hx => ?_⟩⟩
    · rw [← hw]
      show (gA es6 9 w).toInt = _
      rw [hq6, h94]
      unfold upd
      rw [if_pos rfl, h33]
      exact g3
    · rw [← hw] at hne
      show gA es6 9 k = gA es 9 k
      rw [hq6, h94]
      unfold upd
      rw [if_neg hne, hq3]
      exact g9 k hk
    · rw [← hw] at hne
      show gA es6 10 k = gA es 10 k
      rw [hq6, h104]
      unfold bkP
      rw [if_neg hne, hq3]
      exact g10 k hk
    · rw [← hw]
      obtain ⟨u1, u2⟩ := g2.2 i x hx
      have hi : i < (zKtL (zR R) n).length := by
        rcases Nat.lt_or_ge i (zKtL (zR R) n).length with h | h
        · exact h
        · rw [List.getElem?_eq_none h] at hx; cases hx
      show (gA es6 10 (12 * w + 2 * i)).toInt = x.1 ∧ (gA es6 10 (12 * w + 2 * i + 1)).toInt = x.2
      rw [hq6, h104, h104]
      unfold bkP
      rw [if_pos ⟨by omega, by omega⟩, if_pos ⟨by omega, by omega⟩, hq3, show 12 * w + 2 * i - 12 * w = 2 * i by omega, show 12 * w + 2 * i + 1 - 12 * w = 2 * i + 1 by omega]
      exact ⟨u1, u2⟩
theorem fnk_ykind {a : Int} (hN : N ≤ 3584) (ha : i32 a) (hT : hOK tT es) (hj : jB R n es) (h7 : 0 ≤ (gI es 7 0).toInt ∧ (gI es 7 0).toInt ≤ 5) : aW (pO0 xs N) (d + 26) 277 0 0 (fun o => kLP R n a es o.2.1) (0, [some (.ref 64), some (.int (zI a)), some (.ref 171), none], [], es) := by
  refine s_yk0 (sh_of hT) hT ?_
  refine x_call (vs := [.ref 64, .int (zI a)]) (rs := [.int (zI 0), .ref 171]) i_277_4 rfl (fun _ => rfl) rfl rfl rfl rfl rfl (pCall_v (p := 0) (sh_of hT) rfl rfl rfl rfl rfl (by decide) rfl rfl rfl rfl rfl) ?_
  show aW _ _ _ _ _ _ (0, [some (.ref 64), some (.int (zI a)), none], [], es)
  refine aW_mono (Nat.le_refl _) (fun o ho => ?_) (fnk_xkind (d := d) (xs := xs) hN ha hT hj h7)
  obtain ⟨r, es', kc', ks'⟩ := o
  obtain ⟨⟨x, hr⟩, hT', hP⟩ : (∃ r', r = .inl (some (.int r')) ∨ r = .inr 0 ∨ r = .inr 1) ∧ hOK tT es' ∧ kLP R n a es es' := ho
  rcases hr with rfl | rfl | rfl
  · refine aK_inl ?_
    rw [← zI_id2 (x := x)]
    show aW _ _ _ _ _ _ (7, [some (.ref 64), some (.int (zI a)), some (.ref 171), none], [.int (zI x.toInt), .int (zI 0), .ref 171], es')
    refine s_yk7 (sh_of hT') hT' (fun es1 e_es1 => ?_)
    have hq : ∀ q, gA es1 q = gA es' q := fun q => by rw [e_es1, gA_sJ]
    show kLP R n a es es1
    unfold kLP at hP ⊢
    rw [hq, hq]
    exact hP
  · refine ⟨_, _, _, _, rfl, rfl, rfl, ?_⟩
    show aW _ _ _ _ _ _ (13, [some (.ref 64), some (.int (zI a)), some (.ref 171), none], [], es')
    exact s_yk13 (sh_of hT') hT' hP
  · refine ⟨_, _, _, _, rfl, rfl, rfl, ?_⟩
    show aW _ _ _ _ _ _ (16, [some (.ref 64), some (.int (zI a)), some (.ref 171), none], [], es')
    exact s_yk16 (sh_of hT') hT' hP
/-- what the reference keeps of a KIND -/
def mLP (R : Nat → Int32) (n : Nat) (a : Int) (es es1 : PH) : Prop := ((badK R n a ∨ 5 ≤ (gA es 80 0).toInt) ∧ ∀ k, 13 ≤ k → k < 119 → gA es1 80 k = gA es 80 k) ∨
  ((¬ badK R n a ∧ (gA es 80 0).toInt < 5) ∧ (gA es1 80 (49 + 14 * (gA es 80 0).toInt.toNat + 1)).toInt = ((zKtL (zR R) n).length : Int) ∧ (∀ k, 13 ≤ k → k < 119 → ¬ (49 + 14 * (gA es 80 0).toInt.toNat ≤ k ∧ k < 49 + 14 * (gA es 80 0).toInt.toNat + 14) → gA es1 80 k = gA es 80 k) ∧
    ∀ (i : Nat) (x : Int × Int), (zKtL (zR R) n)[i]? = some x → (gA es1 80 (49 + 14 * (gA es 80 0).toInt.toNat + 2 + 2 * i)).toInt = -12 - x.1 ∧ (gA es1 80 (49 + 14 * (gA es 80 0).toInt.toNat + 3 + 2 * i)).toInt = zFar x)
/-- a block of the world comes out of the reference's LINES -/
def wkP (t m : Nat) (w0 a : Nat → Int32) (j : Nat) : Int32 := if t + 2 ≤ j ∧ j < t + 2 + m then a (j - (t + 2)) else w0 j
theorem mkk_loop {O : pOut} {kc ks : Nat} {Q : pRes → Prop} {a : Int} {v t : Nat} {a84 w0 : Nat → Int32} (hv : v ≤ 6) (hq : 49 ≤ t ∧ t ≤ 105) (K : ∀ es' x, (∀ j, 13 ≤ j → gA es' 80 j = wkP t (2 * v) w0 a84 j) → Q (.inl (some (.int x)), es', kc, ks)) : ∀ (M k : Nat) (es1 : PH), k + M = 2 * v → sh es1 → gA es1 84 = a84 → (∀ j, 13 ≤ j → gA es1 80 j = wkP t k w0 a84 j) → aW O d 174 kc ks Q (111, [some (.ref 143), some (.int (zI a)), some (.int (zI (v : Int))), some (.int (zI (t : Int))), some (.int (zI (k : Int)))], [], es1) := by
  intro M
  induction M with
  | zero =>
    intro k es1 hk hs h84 h80
    refine s_mk111 (v := (v : Int)) (t := (t : Int)) (k := (k : Int)) hs ⟨by omega, by omega⟩ ⟨by omega, by omega⟩ ⟨by omega, by omega⟩ (fun h1 v2 e2 es3 e3 v4 e4 => K es3 _ (fun j hj => ?_)) (fun h => absurd (by omega) h)
    rw [e3, gA_sA hs (p := 80) (t := 0) (n := 2125) (sp := tS80) rfl (by decide)]
    unfold upd
    rw [if_neg (show ¬ j = Int.toNat 0 from fun h => by have h2 : j = 0 := h; omega), h80 j hj, show k = 2 * v by omega]
  | succ M ih =>
    intro k es1 hk hs h84 h80
    refine s_mk111 (v := (v : Int)) (t := (t : Int)) (k := (k : Int)) hs ⟨by omega, by omega⟩ ⟨by omega, by omega⟩ ⟨by omega, by omega⟩ (fun h => absurd h (by omega)) (fun h1 v5 e5 es6 e6 => ?_)
    rw [Int.toNat_natCast, h84] at e5
    have := ih (k + 1) es6 (by omega) (by rw [e6]; exact sh_sA hs) (by rw [e6, gA_sA_ne (by decide)]; exact h84) (fun j hj => ?_)
    · rw [show ((k + 1 : Nat) : Int) = (k : Int) + 1 by omega] at this
      exact this
    · rw [e6, gA_sA hs (p := 80) (t := 0) (n := 2125) (sp := tS80) rfl (by decide)]
      unfold upd
      have he : (((t : Int) + 2) + (k : Int)).toNat = t + 2 + k := by omega
      rw [he]
      by_cases hjk : j = t + 2 + k
      · rw [if_pos hjk]
        unfold wkP
        rw [if_pos ⟨by omega, by omega⟩, hjk, show t + 2 + k - (t + 2) = k by omega, e5, zI_id2]
      · rw [if_neg hjk, h80 j hj]
        unfold wkP
        by_cases hb : t + 2 ≤ j ∧ j < t + 2 + k
        · rw [if_pos hb, if_pos ⟨hb.1, by omega⟩]
        · rw [if_neg hb, if_neg (by omega)]
theorem fnk_mkind {a : Int} (hN : N ≤ 3584) (ha : i32 a) (hT : hOK tT es) (hR : gA es 82 = R) (hn : (gI es 79 5).toInt = (n : Int)) : aW (pO0 xs N) (d + 5) 174 0 0 (fun o => mLP R n a es o.2.1) (0, [some (.ref 143), some (.int (zI a)), none, none, none], [], es) := by
  have haa := ha
  unfold i32 iLO iHI at haa
  refine s_mk0 (sh_of hT) hT (fun es1 e1 => ?_)
  have hT1 : hOK tT es1 := by rw [e1]; exact hOK_sI hT (p := 79) (b := 0) (lo := iLO) (hi := iHI) rfl rfl (i32_rng _)
  refine x_call (vs := [.ref 143, .int (zI 1)]) (rs := []) i_174_7 rfl (fun _ => rfl) rfl rfl rfl rfl rfl (pCall_v (p := 79) (sh_of hT1) rfl rfl rfl rfl rfl (by decide) rfl rfl rfl rfl rfl) ?_
  show aW _ _ _ _ _ _ (0, [some (.ref 143), some (.int (zI 1)), none], [], es1)
  refine aW_sh (aW_and (ra_taped (xs := xs) (d := d + 4) hN (by omega) hT1) (ka_fn (d := d) (R := R) (n := n) (sh_of hT1) hT1 (by rw [e1, gA_sI]; exact hR) (by rw [e1, gI_sI_ne (Or.inr (by decide))]; exact hn))) (fun r es2 c1 k1 hp => ?_)
  obtain ⟨⟨hf2, h75⟩, v, rfl, hT2, hf2', g1, g2⟩ : (fr kc_413.2.2.2.2.2.1 es1 es2 ∧ (gI es2 79 5).toInt = 0) ∧ ∃ v, r = .inl (some (.int (zI v))) ∧ kaG R n es1 es2 v := hp
  refine aK_inl ?_
  show aW _ _ _ _ _ _ (10, [some (.ref 143), some (.int (zI a)), none, none, none], [.int (zI v)], es2)
  have w2 : ∀ k, k < 2125 → gA es2 80 k = gA es 80 k := fun k hk => by rw [keepA hf2 (sh_of hT1) (p := 80) (t := 0) (n := 2125) (sp := tS80) rfl (by decide) (by decide) k hk, e1, gA_sI]
  have hvk : ((zKt (zR R) n).2.isSome = true ↔ 0 ≤ v) ∧ -1 ≤ v ∧ v ≤ 6 ∧ (0 ≤ v → ((zKtL (zR R) n).length : Int) = v ∧ lsR (zKtL (zR R) n) es2) := by
    cases hk : (zKt (zR R) n).2 with
    | none =>
      have := (g1 hk).1
      exact ⟨⟨fun h => absurd h (by simp), fun h => by omega⟩, by omega, by omega, fun h => by omega⟩
    | some j =>
      obtain ⟨q1, q2, q3, q4⟩ := g2 j hk
      exact ⟨⟨fun _ => by omega, fun _ => rfl⟩, by omega, by omega, fun _ => ⟨by omega, q4⟩⟩
  have no : ∀ {es3 : PH}, (∀ k, gA es3 80 k = gA es2 80 k) → (badK R n a ∨ 5 ≤ (gA es 80 0).toInt) → mLP R n a es es3 := fun h hb => Or.inl ⟨hb, fun k _ hk => by rw [h, w2 k (by omega)]⟩
  refine s_mk10 (d := d + 4) (sh_of hT2) haa ⟨by omega, by omega⟩ hT2 (fun h1 es3 e3 h2 es4 e4 => ?_) (fun h1 es3 e3 h2 h3 es4 e4 => ?_) (fun h1 es3 e3 h2 h3 => ?_) (fun h1 v7 e7 es3 e3 es4 e4 => ?_)
  · exact no (fun k => by rw [e4, gA_sI, e3, gA_sI]) (Or.inl (fun h => by omega))
  · exact no (fun k => by rw [e4, gA_sI, e3, gA_sI]) (Or.inl (fun h => by omega))
  · have hT3 : hOK tT es3 := by rw [e3]; exact hOK_sI hT2 (p := 79) (b := 10) (lo := iLO) (hi := iHI) rfl rfl (i32_rng _)
    have good : ¬ badK R n a := fun h => h ⟨hvk.1.mpr h1, by omega, by omega⟩
    have hw : (0 : Int) ≤ (gA es3 80 0).toInt ∧ (gA es3 80 0).toInt ≤ (5 : Int) := gA_bd hT3 (p := 80) (k := 0) rfl (by omega) (by decide)
    have w3 : ∀ k, k < 2125 → gA es3 80 k = gA es 80 k := fun k hk => by rw [e3, gA_sI]; exact w2 k hk
    have w30 := w3 0 (by omega)
    refine s_mk54 (d := d + 4) (sh_of hT3) hw hT3 (fun v4 e4 h4 => ?_) (fun v4 e4 h4 es5 e5 => ?_)
    · have hw4 : v4 = (gA es3 80 0).toInt := e4
      refine s_mk79 (sh_of hT3) ⟨by omega, by omega⟩ ⟨by omega, by omega⟩ hT3 (fun v5 e5 es6 e6 es7 e7 => ?_)
      have hw5 : v5 = (gA es3 80 0).toInt := e5
      have hs6 : sh es6 := by rw [e6]; exact sh_sA (sh_of hT3)
      obtain ⟨w, hww⟩ : ∃ w : Nat, w = (gA es 80 0).toInt.toNat := ⟨_, rfl⟩
      rw [w30] at hw5 hw4 hw
      obtain ⟨vN, hvN⟩ : ∃ vN : Nat, v = (vN : Int) := ⟨v.toNat, by omega⟩
      have et : 49 + (14 * v5) = ((49 + 14 * w : Nat) : Int) := by omega
      have h7 : ∀ j, gA es7 80 j = if j = 49 + 14 * w + 1 then zI v else if j = 49 + 14 * w then zI a else gA es3 80 j := fun j => by
        rw [e7, gA_sA hs6 (p := 80) (t := 0) (n := 2125) (sp := tS80) rfl (by decide)]
        unfold upd
        rw [show ((49 + (14 * v5)) + 1).toNat = 49 + 14 * w + 1 by omega, e6, gA_sA (sh_of hT3) (p := 80) (t := 0) (n := 2125) (sp := tS80) rfl (by decide)]
        unfold upd
        rw [show (49 + (14 * v5)).toNat = 49 + 14 * w by omega]
      have h84 : gA es7 84 = gA es2 84 := by rw [e7, gA_sA_ne (by decide), e6, gA_sA_ne (by decide), e3, gA_sI]
      obtain ⟨l1, l2⟩ := hvk.2.2.2 h1
      rw [et, hvN]
      refine mkk_loop (v := vN) (t := 49 + 14 * w) (a84 := gA es2 84) (w0 := gA es7 80) (by omega) ⟨by omega, by omega⟩ (fun es' x h9 => ?_) (2 * vN) 0 es7 (by omega) (by rw [e7]; exact sh_sA hs6) h84 (fun j hj => by unfold wkP; rw [if_neg (by omega)])
      refine Or.inr ⟨⟨good, by omega⟩, ?_, fun k h13 hk hne => ?_, fun i x hx => ?_⟩
      · rw [← hww]
        show (gA es' 80 (49 + 14 * w + 1)).toInt = _
        rw [h9 _ (by omega)]
        unfold wkP
        rw [if_neg (by omega), h7, if_pos rfl, zI_toInt (by unfold i32 iLO iHI; omega)]
        exact l1.symm
      · rw [← hww] at hne
        show gA es' 80 k = gA es 80 k
        rw [h9 _ h13]
        unfold wkP
        rw [if_neg (by omega), h7, if_neg (by omega), if_neg (by omega)]
        exact w3 k (by omega)
      · rw [← hww]
        obtain ⟨u1, u2⟩ := l2 i x hx
        have hi : i < (zKtL (zR R) n).length := by
          rcases Nat.lt_or_ge i (zKtL (zR R) n).length with h | h
          · exact h
          · rw [List.getElem?_eq_none h] at hx; cases hx
        show (gA es' 80 (49 + 14 * w + 2 + 2 * i)).toInt = -12 - x.1 ∧ (gA es' 80 (49 + 14 * w + 3 + 2 * i)).toInt = zFar x
        rw [h9 _ (by omega), h9 _ (by omega)]
        unfold wkP
        rw [if_pos ⟨by omega, by omega⟩, if_pos ⟨by omega, by omega⟩, show 49 + 14 * w + 2 + 2 * i - (49 + 14 * w + 2) = 2 * i by omega, show 49 + 14 * w + 3 + 2 * i - (49 + 14 * w + 2) = 2 * i + 1 by omega]
        exact ⟨u1, u2⟩
    · have hw4 : v4 = (gA es3 80 0).toInt := e4
      exact no (fun k => by rw [e5, gA_sI, e3, gA_sI]) (Or.inr (by rw [← w30]; omega))
  · exact no (fun k => by rw [e4, gA_sI, e3, gA_sI]) (Or.inl (fun h => by have := hvk.1.mp h.1; omega))
end
