/-! ONE STEP of the pure run as an action, and the rules of 'ends with' -/
abbrev pActT : Type := (pSt × Nat × Nat × Bool) ⊕ ((Option Value ⊕ Nat) ⊕ (Nat × Nat × List Value × List Value × Bool))
def pIsT (ins : Instr) (b : Nat) (st : List Value) : Bool := match ins, b, st with
  | .new _, 1, [] => true
  | _, _, _ => false
def pAct (O : pOut) (j : Nat) : pSt → Option pActT
  | (pc, L, st, es) => match pM[j]? with
    | none => none
    | some row => match pAt row.2.2.2.2.2.2 pc with
      | none => none
      | some (ins, _, q, a, b) => match pS0 ins pc L st es with
        | some r => some (.inl (r, 0, 0, false))
        | none => match pS1 O (row.1.name == "<init>" && row.2.2.2.2.1 == a) ins q a b pc L st es with
          | some r => if pIsInv ins = true ∧ 40 < pCat st then none else some (.inl (r, 0, 0, false))
          | none => match pS2 ins a b pc L st es with
            | some r => some (.inl (r, 1, pNew ins a st, false))
            | none => match pS3 ins a b pc L st es with
              | some r => some (.inl (r, 0, 0, true))
              | none => match pFin ins st row.2.2.2.1 with
                | some v => some (.inr (.inl (.inl v)))
                | none => if pIsT ins b st = true then some (.inr (.inl (.inr a))) else match pM[a]? with
                    | some ra => match pCall ins a b ra st es with
                      | none => none
                      | some (as, rest) => some (.inr (.inr (a, ra.2.2.1, as, rest, pIsV ins b)))
                    | none => none
/-- what follows a call -/
def pBack (j : Nat) (σ : pSt) (rest : List Value) (v : Bool) (K : pSt → Option pRes) : pRes → Option pRes
  | (.inl w, es1, kc, ks) => pAdd kc ks (K (σ.1 + 3, σ.2.1, w.toList ++ rest, es1))
  | (.inr x, es1, kc, ks) => match (if v = true then pHand j σ.1 x else none) with
    | none => none
    | some h => match pM[j]? with
      | none => none
      | some row => match pPut row.2.2.2.2.2.2 σ.2.1 h with
        | none => none
        | some (pc', L') => pAdd kc ks (K (pc', L', [], es1))
theorem pAdd_zero (o : Option pRes) : pAdd 0 0 o = o := by
  cases o with
  | none => rfl
  | some o => obtain ⟨r, es, c, s⟩ := o; simp [pAdd]
set_option maxHeartbeats 4000000 in
theorem pRun_act (O : pOut) (n d j : Nat) (σ : pSt) : pRun O (n + 1) d j σ = match pAct O j σ with
    | none => none
    | some (.inl (r, kc, ks, nd)) => if nd = true ∧ d = 0 then none else pAdd kc ks (pRun O n d j r)
    | some (.inr (.inl (.inl v))) => some (.inl v, σ.2.2.2, 0, 0)
    | some (.inr (.inl (.inr a))) => some (.inr a, σ.2.2.2, 1, 6)
    | some (.inr (.inr (a, nL, as, rest, v))) => match d with
      | 0 => none
      | d' + 1 => (pRun O n d' a (0, pEntry as nL, [], σ.2.2.2)).bind (pBack j σ rest v (pRun O n d j)) := by
  obtain ⟨pc, L, st, es⟩ := σ
  rw [pRun]
  unfold pAct
  cases hrow : pM[j]? with
  | none => rfl
  | some row =>
    dsimp only
    cases hat : pAt row.2.2.2.2.2.2 pc with
    | none => rfl
    | some e =>
      obtain ⟨ins, len, q, a, b⟩ := e
      dsimp only
      cases h0 : pS0 ins pc L st es with
      | some r => simp [pAdd_zero]
      | none =>
        dsimp only
        cases h1 : pS1 O (row.1.name == "<init>" && row.2.2.2.2.1 == a) ins q a b pc L st es with
        | some r =>
          dsimp only
          split
          · rfl
          · simp [pAdd_zero]
        | none =>
          dsimp only
          cases h2 : pS2 ins a b pc L st es with
          | some r => simp
          | none =>
            dsimp only
            cases h3 : pS3 ins a b pc L st es with
            | some r => cases d <;> simp [pAdd_zero]
            | none =>
              dsimp only
              cases hf : pFin ins st row.2.2.2.1 with
              | some v => rfl
              | none =>
                dsimp only
                split
                · rfl
                · rename_i hno
                  have hT : pIsT ins b st = false := by
                    unfold pIsT
                    split
                    · rename_i ix
                      exact absurd rfl (hno ix rfl rfl)
                    · rfl
                  rw [hT]
                  simp only [Bool.false_eq_true, if_false]
                  cases hra : pM[a]? with
                  | none => cases d <;> rfl
                  | some ra =>
                    cases d with
                    | zero =>
                      dsimp only
                      cases hc : pCall ins a b ra st es with
                      | none => rfl
                      | some ar => rfl
                    | succ d' =>
                      dsimp only
                      cases hc : pCall ins a b ra st es with
                      | none => rfl
                      | some ar =>
                        obtain ⟨as, rest⟩ := ar
                        dsimp only
                        cases hr : pRun O n d' a (0, pEntry as ra.2.2.1, [], es) with
                        | none => rfl
                        | some o =>
                          obtain ⟨r, es1, kc, ks⟩ := o
                          cases r with
                          | inl w => rfl
                          | inr x =>
                            simp only [Option.bind_some, pBack, hrow]
                            cases hif : (if pIsV ins b = true then pHand j pc x else none) with
                            | none => rfl
                            | some h => cases hp : pPut row.2.2.2.2.2.2 L h <;> rfl
theorem pAdd_some {kc ks : Nat} {o : Option pRes} {r : pRes} (h : pAdd kc ks o = some r) : ∃ r', o = some r' ∧ r = (r'.1, r'.2.1, kc + r'.2.2.1, ks + r'.2.2.2) := by
  cases o with
  | none => cases h
  | some o => obtain ⟨a, b, c, e⟩ := o; cases h; exact ⟨_, rfl, rfl⟩
theorem pBack_mono {j : Nat} {σ : pSt} {rest : List Value} {v : Bool} {K K' : pSt → Option pRes} (hK : ∀ s o, K s = some o → K' s = some o) {r : pRes} {o : pRes} (h : pBack j σ rest v K r = some o) : pBack j σ rest v K' r = some o := by
  obtain ⟨w, es1, kc, ks⟩ := r
  cases w with
  | inl w =>
    simp only [pBack] at h ⊢
    obtain ⟨r', h1, h2⟩ := pAdd_some h
    rw [hK _ _ h1, h2]; rfl
  | inr x =>
    simp only [pBack] at h ⊢
    split at h
    · cases h
    · split at h
      · cases h
      · split at h
        · cases h
        · obtain ⟨r', h1, h2⟩ := pAdd_some h
          rw [hK _ _ h1, h2]; rfl
/-- more fuel, more depth: the same answer -/
theorem pRun_mono (O : pOut) : ∀ (n d j : Nat) (σ : pSt) (o : pRes), pRun O n d j σ = some o → ∀ n' d', n ≤ n' → d ≤ d' → pRun O n' d' j σ = some o := by
  intro n
  induction n with
  | zero => intro d j σ o h; simp [pRun] at h
  | succ n ih =>
    intro d j σ o h n' d' hn hd
    obtain ⟨m, rfl⟩ : ∃ m, n' = m + 1 := ⟨n' - 1, by omega⟩
    have hm : n ≤ m := by omega
    rw [pRun_act] at h ⊢
    cases ha : pAct O j σ with
    | none => rw [ha] at h; cases h
    | some act =>
      rw [ha] at h
      rcases act with ⟨r, kc, ks, nd⟩ | (v | a) | ⟨a, nL, as, rest, v⟩
      · dsimp only at h ⊢
        split at h
        · cases h
        · rename_i hnd
          have hnd' : ¬ (nd = true ∧ d' = 0) := fun hh => hnd ⟨hh.1, by omega⟩
          rw [if_neg hnd']
          obtain ⟨r', h1, h2⟩ := pAdd_some h
          rw [ih _ _ _ _ h1 m d' hm hd, h2]; rfl
      · exact h
      · exact h
      · cases d with
        | zero => cases h
        | succ d0 =>
          obtain ⟨d1, rfl⟩ : ∃ d1, d' = d1 + 1 := ⟨d' - 1, by omega⟩
          dsimp only at h ⊢
          cases hr : pRun O n d0 a (0, pEntry as nL, [], σ.2.2.2) with
          | none => rw [hr] at h; cases h
          | some r =>
            rw [hr] at h
            rw [ih _ _ _ _ hr m d1 hm (by omega)]
            simp only [Option.bind_some] at h ⊢
            exact pBack_mono (K := pRun O n (d0 + 1) j) (fun s o hs => ih _ _ s o hs m (d1 + 1) hm hd) h
/-- from σ method j ends with Q, kc cells and ks slots counted in -/
def aW (O : pOut) (d j kc ks : Nat) (Q : pRes → Prop) (σ : pSt) : Prop := ∃ (n : Nat) (o : pRes), pRun O n d j σ = some o ∧ Q (o.1, o.2.1, kc + o.2.2.1, ks + o.2.2.2)
theorem aW_go {O : pOut} {d j kc ks c1 k1 : Nat} {nd : Bool} {Q : pRes → Prop} {σ r : pSt} (ha : pAct O j σ = some (.inl (r, c1, k1, nd))) (hd : nd = true → 0 < d) (h : aW O d j (kc + c1) (ks + k1) Q r) : aW O d j kc ks Q σ := by
  obtain ⟨n, o, h1, h2⟩ := h
  refine ⟨n + 1, (o.1, o.2.1, c1 + o.2.2.1, k1 + o.2.2.2), ?_, ?_⟩
  · rw [pRun_act, ha]
    dsimp only
    rw [if_neg (fun hh => by have := hd hh.1; omega), h1]
    obtain ⟨a, b, c, e⟩ := o
    rfl
  · simpa only [Nat.add_assoc] using h2
theorem aW_fin {O : pOut} {d j kc ks : Nat} {Q : pRes → Prop} {σ : pSt} {v : Option Value} (ha : pAct O j σ = some (.inr (.inl (.inl v)))) (h : Q (.inl v, σ.2.2.2, kc, ks)) : aW O d j kc ks Q σ :=
  ⟨0 + 1, (.inl v, σ.2.2.2, 0, 0), by rw [pRun_act, ha], h⟩
theorem aW_throw {O : pOut} {d j kc ks a : Nat} {Q : pRes → Prop} {σ : pSt} (ha : pAct O j σ = some (.inr (.inl (.inr a)))) (h : Q (.inr a, σ.2.2.2, kc + 1, ks + 6)) : aW O d j kc ks Q σ :=
  ⟨0 + 1, (.inr a, σ.2.2.2, 1, 6), by rw [pRun_act, ha], h⟩
/-- what must hold behind a call -/
def aK (O : pOut) (d j : Nat) (σ : pSt) (rest : List Value) (v : Bool) (Q : pRes → Prop) : pRes → Prop
  | (.inl w, es1, kc, ks) => aW O d j kc ks Q (σ.1 + 3, σ.2.1, w.toList ++ rest, es1)
  | (.inr x, es1, kc, ks) => ∃ h row pc' L', (if v = true then pHand j σ.1 x else none) = some h ∧ pM[j]? = some row ∧ pPut row.2.2.2.2.2.2 σ.2.1 h = some (pc', L') ∧ aW O d j kc ks Q (pc', L', [], es1)
theorem aW_call {O : pOut} {d j kc ks a nL : Nat} {Q : pRes → Prop} {σ : pSt} {as rest : List Value} {v : Bool} (ha : pAct O j σ = some (.inr (.inr (a, nL, as, rest, v)))) (h : aW O d a kc ks (aK O (d + 1) j σ rest v Q) (0, pEntry as nL, [], σ.2.2.2)) : aW O (d + 1) j kc ks Q σ := by
  obtain ⟨n, o, h1, h2⟩ := h
  obtain ⟨w, es1, c1, k1⟩ := o
  cases w with
  | inl w =>
    simp only [aK] at h2
    obtain ⟨n2, o2, h3, h4⟩ := h2
    refine ⟨max n n2 + 1, (o2.1, o2.2.1, c1 + o2.2.2.1, k1 + o2.2.2.2), ?_, ?_⟩
    · rw [pRun_act, ha]
      dsimp only
      rw [pRun_mono O _ _ _ _ _ h1 (max n n2) d (Nat.le_max_left _ _) (Nat.le_refl _)]
      simp only [Option.bind_some, pBack]
      rw [pRun_mono O _ _ _ _ _ h3 (max n n2) (d + 1) (Nat.le_max_right _ _) (Nat.le_refl _)]
      obtain ⟨a2, b2, c2, e2⟩ := o2
      rfl
    · simpa only [Nat.add_assoc] using h4
  | inr x =>
    simp only [aK] at h2
    obtain ⟨hh, row, pc', L', q1, q2, q3, n2, o2, h3, h4⟩ := h2
    refine ⟨max n n2 + 1, (o2.1, o2.2.1, c1 + o2.2.2.1, k1 + o2.2.2.2), ?_, ?_⟩
    · rw [pRun_act, ha]
      dsimp only
      rw [pRun_mono O _ _ _ _ _ h1 (max n n2) d (Nat.le_max_left _ _) (Nat.le_refl _)]
      simp only [Option.bind_some, pBack, q1, q2, q3]
      rw [pRun_mono O _ _ _ _ _ h3 (max n n2) (d + 1) (Nat.le_max_right _ _) (Nat.le_refl _)]
      obtain ⟨a2, b2, c2, e2⟩ := o2
      rfl
    · simpa only [Nat.add_assoc] using h4
theorem aW_mono {O : pOut} {d d' j kc ks : Nat} {Q Q' : pRes → Prop} {σ : pSt} (hd : d ≤ d') (hQ : ∀ o, Q o → Q' o) (h : aW O d j kc ks Q σ) : aW O d' j kc ks Q' σ := by
  obtain ⟨n, o, h1, h2⟩ := h
  exact ⟨n, o, pRun_mono O _ _ _ _ _ h1 n d' (Nat.le_refl _) hd, hQ _ h2⟩
