/-! the start of the law: as far as its loop, by the machine itself -/
section
variable {O0 O : pOut}
theorem pAct_le (h : pLe O0 O) {j : Nat} {σ : pSt} {r : pActT} (hr : pAct O0 j σ = some r) : pAct O j σ = some r := by
  obtain ⟨pc, L, st, es⟩ := σ
  unfold pAct at hr ⊢
  cases h1 : pM[j]? with
  | none => simp only [h1] at hr; cases hr
  | some zrw =>
    simp only [h1] at hr ⊢
    cases h2 : pAt zrw.2.2.2.2.2.2 pc with
    | none => simp only [h2] at hr; cases hr
    | some t =>
      obtain ⟨ins, len, q, a, b⟩ := t
      simp only [h2] at hr ⊢
      cases h3 : pS0 ins pc L st es with
      | some r0 => simp only [h3] at hr ⊢; exact hr
      | none =>
        simp only [h3] at hr ⊢
        obtain ⟨m1, m2⟩ := pS1_le (es := es) h (ini := (zrw.1.name == "<init>" && zrw.2.2.2.2.1 == a)) (ins := ins) (q := q) (a := a) (b := b) (pc := pc) (L := L) (st := st)
        cases h4 : pS1 O0 (zrw.1.name == "<init>" && zrw.2.2.2.2.1 == a) ins q a b pc L st es with
        | some r1 => rw [m1 _ h4]; simp only [h4] at hr; exact hr
        | none =>
          simp only [h4] at hr
          have bad : (ins = .iaload ∨ ins = .arraylength) → False := fun hi => by
            have e2 : pS2 ins a b pc L st es = none := by rcases hi with rfl | rfl <;> rfl
            have e3 : pS3 ins a b pc L st es = none := by rcases hi with rfl | rfl <;> rfl
            have e4 : pFin ins st zrw.2.2.2.1 = none := by rcases hi with rfl | rfl <;> rfl
            have e5 : pIsT ins b st = false := by rcases hi with rfl | rfl <;> rfl
            have e6 : ∀ ra, pCall ins a b ra st es = none := fun ra => by
              rcases hi with rfl | rfl <;> (unfold pCall; split <;> rfl)
            simp only [e2, e3, e4, e5, e6] at hr
            split at hr
            · rename_i hf; cases hf
            · split at hr <;> cases hr
          rcases m2 h4 with h5 | h5
          · rw [h5]; exact hr
          · exact (bad h5).elim
theorem pRun_le (hle : pLe O0 O) : ∀ (n d j : Nat) (σ : pSt) (o : pRes), pRun O0 n d j σ = some o → pRun O n d j σ = some o := by
  intro n
  induction n with
  | zero => intro d j σ o h; cases h
  | succ n ih =>
    intro d j σ o h
    rw [pRun_act] at h ⊢
    cases hA : pAct O0 j σ with
    | none => rw [hA] at h; cases h
    | some act =>
      rw [hA] at h
      rw [pAct_le hle hA]
      rcases act with ⟨r, kc, ks, nd⟩ | (v | a) | ⟨a, nL, as, rest, v⟩
      · dsimp only at h ⊢
        by_cases hc : nd = true ∧ d = 0
        · rw [if_pos hc] at h; cases h
        · rw [if_neg hc] at h ⊢
          cases hp : pRun O0 n d j r with
          | none => rw [hp] at h; cases h
          | some o1 => rw [hp] at h; rw [ih _ _ _ _ hp]; exact h
      · exact h
      · exact h
      · dsimp only at h ⊢
        cases d with
        | zero => cases h
        | succ d' =>
          dsimp only at h ⊢
          cases hp : pRun O0 n d' a (0, pEntry as nL, [], σ.2.2.2) with
          | none => rw [hp] at h; cases h
          | some o1 =>
            rw [hp] at h
            rw [ih _ _ _ _ hp]
            simp only [Option.bind_some] at h ⊢
            obtain ⟨w, es1, kc, ks⟩ := o1
            have key : ∀ (s' : pSt), pAdd kc ks (pRun O0 n (d' + 1) j s') = some o → pAdd kc ks (pRun O n (d' + 1) j s') = some o := fun s' hs => by
              cases hq : pRun O0 n (d' + 1) j s' with
              | none => rw [hq] at hs; cases hs
              | some o2 => rw [hq] at hs; rw [ih _ _ _ _ hq]; exact hs
            cases w with
            | inl w => exact key _ h
            | inr x =>
              simp only [pBack] at h ⊢
              split at h
              · cases h
              · split at h
                · cases h
                · split at h
                  · cases h
                  · exact key _ h
/-- as far as the place 'stop' of method j -/
def pUp (O : pOut) (j stop d : Nat) : Nat → pSt → Nat → Nat → Option (pSt × Nat × Nat)
  | 0, _, _, _ => none
  | n + 1, σ, kc, ks => bif Nat.beq σ.1 stop then some (σ, kc, ks) else match pAct O j σ with
    | some (.inl (r, c, k, _)) => pUp O j stop d n r (kc + c) (ks + k)
    | some (.inr (.inr (a, nL, as, rest, _))) => match pRun O n d a (0, pEntry as nL, [], σ.2.2.2) with
      | some (.inl w, es1, c, k) => pUp O j stop d n (σ.1 + 3, σ.2.1, w.toList ++ rest, es1) (kc + c) (ks + k)
      | _ => none
    | _ => none
theorem aW_up (hle : pLe O0 O) {j stop d : Nat} {Q : pRes → Prop} {σ' : pSt} {kc' ks' : Nat} (K : aW O (d + 1) j kc' ks' Q σ') : ∀ (n : Nat) (σ : pSt) (kc ks : Nat), pUp O0 j stop d n σ kc ks = some (σ', kc', ks') → aW O (d + 1) j kc ks Q σ := by
  intro n
  induction n with
  | zero => intro σ kc ks h; cases h
  | succ n ih =>
    intro σ kc ks h
    unfold pUp at h
    cases hb : Nat.beq σ.1 stop with
    | true =>
      rw [hb] at h
      simp only [cond_true, Option.some.injEq, Prod.mk.injEq] at h
      obtain ⟨rfl, rfl, rfl⟩ := h
      exact K
    | false =>
      rw [hb] at h
      simp only [cond_false] at h
      cases hA : pAct O0 j σ with
      | none => rw [hA] at h; cases h
      | some act =>
        rw [hA] at h
        have hA' := pAct_le hle hA
        rcases act with ⟨r, c, k, nd⟩ | (v | a) | ⟨a, nL, as, rest, v⟩
        · exact aW_go hA' (fun _ => Nat.succ_pos d) (ih _ _ _ h)
        · cases h
        · cases h
        · dsimp only at h
          cases hp : pRun O0 n d a (0, pEntry as nL, [], σ.2.2.2) with
          | none => rw [hp] at h; cases h
          | some o1 =>
            rw [hp] at h
            obtain ⟨w, es1, c, k⟩ := o1
            cases w with
            | inr x => cases h
            | inl w => exact aW_call hA' ⟨n, _, pRun_le hle _ _ _ _ _ hp, ih _ _ _ h⟩
end
