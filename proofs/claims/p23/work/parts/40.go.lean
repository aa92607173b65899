/-! THE RUN -/
def aEntry (as : List aV) (n : Nat) : List aV := match as.flatMap (fun a => bif a.1 == 2 then [a, aX] else [a]) with
  | l => l ++ List.replicate (n - l.length) aX
def aCall (G : aG) (ins : Instr) (a b : Nat) (row : pMrow) (st : List aV) : Option (List aV × List aV) := match aCat (st.take row.2.2.2.2.2.1), aCat (st.drop row.2.2.2.2.2.1), aCat (st.take row.2.2.2.2.2.1).reverse with
  | some m, some m', some _ => bif !(row.2.2.2.2.1 == 15) && (Nat.ble m row.2.2.1 && (Nat.ble row.2.2.2.2.2.1 st.length && Nat.ble m' 8)) then (match ins with
    | .invokestatic _ => bif (b == 0 && !(a == 21 || (a == 30 || a == 256))) || b == 3 then some ((st.take row.2.2.2.2.2.1).reverse, st.drop row.2.2.2.2.2.1) else none
    | .invokevirtual _ => bif b == 1 || b == 4 then (match (st.take row.2.2.2.2.2.1).reverse with
      | (1, r) :: _ => match aPl r with
        | some p => match G.1[p]? with
          | some (.inr (c, _)) => bif c == row.2.2.2.2.1 then some ((st.take row.2.2.2.2.2.1).reverse, st.drop row.2.2.2.2.2.1) else none
          | _ => none
        | none => none
      | _ => none) else none
    | .invokespecial _ => bif b == 2 || b == 5 then (match (st.take row.2.2.2.2.2.1).reverse with
      | (1, r) :: _ => match aPl r with
        | some _ => some ((st.take row.2.2.2.2.2.1).reverse, st.drop row.2.2.2.2.2.1)
        | none => none
      | _ => none) else none
    | _ => none) else none
  | _, _, _ => none
def aFin (ins : Instr) (st : List aV) (ret : Option FieldType) (e : aE) (cs : List aF) : Bool := match ins with
  | .ireturn => match st, ret with
    | [a], some .int => aInt a
    | [(0, f)], some .boolean => iLe 0 (pLo e cs f) && iLe (pHi e cs f) 1
    | _, _ => false
  | .lreturn => match st, ret with
    | [(2, _)], some .long => true
    | _, _ => false
  | .areturn => match st, ret with
    | [(1, _)], some (.array _) => true
    | _, _ => false
  | .return_ => match st, ret with
    | [], none => true
    | _, _ => false
  | _ => false
/-- read in place: always, or if the row's index is known to lie within -/
def aInl (G : aG) (inl : List (Nat × Bool)) (a : Nat) (as : List aV) (e : aE) (cs : List aF) : Bool := inl.any (fun q => q.1 == a && (!q.2 || (match as with
  | (1, r) :: (0, i) :: _ => (match aPl r with
    | some p => (aEnts G p e cs i).isSome
    | none => false)
  | _ => false)))
def aCatch (code : List pEnt) (A : List aV) (h : Nat) : Option (Nat × List aV) := match pAt code h with
  | some (.astore_n i, _) => bif Nat.blt (i : Nat) A.length then some (h + 1, (aKill A i).set i aX) else none
  | some (.astore i, _) => bif Nat.blt i A.length then some (h + 2, (aKill A i).set i aX) else none
  | _ => none
/-- an end of a contract, seen from the call -/
def aOutc (c : aCon) (θ : List aF) (e : aE) (cs : List aF) (F : List aFt) (o : aOut) : Option ((aE × List aF) × aV × List aFt) := match θ ++ (List.range (o.1.1.length - c.2.2.1.1.length)).map (fun i => fV (e.length + i)) with
  | θ1 => match o.1.2.map (fSub θ1) with
    | csn => match aGes (e ++ o.1.1.drop c.2.2.1.1.length) ((List.range c.2.2.1.1.length).flatMap (fun x => bif o.1.1.getD x (0, 0) == c.2.2.1.1.getD x (0, 0) then [] else [fAdd (-1) (θ.getD x (fC 0)) (fC (o.1.1.getD x (0, 0)).1), fAdd (-1) (fC (o.1.1.getD x (0, 0)).2) (θ.getD x (fC 0))]) ++ csn) with
      | none => none
      | some e2 => some ((e2, csn ++ cs), (o.2.1.2.1, fSub θ1 o.2.1.2.2), F.filter (fKp e cs c.2.2.2.2.2.1) ++ o.2.2.1.map (fun t => (t.1, t.2.1, fSub θ1 t.2.2.1, fSub θ1 t.2.2.2)))
/-- the first contract that fits -/
def aUse (Mo : List aMod) (d a : Nat) (as : List aV) (e : aE) (cs : List aF) (F : List aFt) : List aCon → Option (aCon × List aF)
  | [] => none
  | c :: r => bif c.1 == a && (Nat.ble c.2.1 d && mSub c.2.2.2.2.2.1 Mo) then (match aFit 0 c.2.2.1.1 c.2.2.1.2 c.2.2.2.1 c.2.2.2.2.1 e cs as F with
    | some θ => some (c, θ)
    | none => aUse Mo d a as e cs F r) else aUse Mo d a as e cs F r
def aRun (G : aG) (CL : List aCon) (inl : List (Nat × Bool)) (MoS Mo : List aMod) : Nat → Nat → Nat → pMrow → (Nat → Bool) → Nat → Nat → aSS → Option (List aRes)
  | 0, _, _, _, _, _, _, _ => none
  | n + 1, d, j, row, cut, kc, ks, (((e, cs), pc, A, st), F) => match pAt row.2.2.2.2.2.2 pc with
    | none => none
    | some (ins, _, q, a, b) => match aP0 ins e cs pc A st with
      | some R => aAll (fun P => bif cut P.2.1 then some [(0, (P, F), kc, ks)] else aRun G CL inl MoS Mo n d j row cut kc ks (P, F)) R
      | none => match aP1 G MoS ins q a b e cs pc A st F with
        | some S => bif cut S.1.2.1 then some [(0, S, kc, ks)] else aRun G CL inl MoS Mo n d j row cut kc ks S
        | none => match aP3 G MoS d ins a b e cs pc A st F with
          | some S => bif cut S.1.2.1 then some [(0, S, kc, ks)] else aRun G CL inl MoS Mo n d j row cut kc ks S
          | none => bif aFin ins st row.2.2.2.1 e cs then some [(1, (((e, cs), pc, A, st), F), kc, ks)] else match ins, b, st with
            | .new _, 1, [] => some [(a + 2, (((e, cs), pc, A, st), F), kc, ks)]
            | _, _, _ => match d, pM[a]? with
              | d' + 1, some ra => match aCall G ins a b ra st with
                | none => none
                | some (as, rest) => bif aInl G inl a as e cs then (match aRun G CL inl MoS Mo n d' a ra (fun _ => false) kc ks (((e, cs), 0, aEntry as ra.2.2.1, []), F) with
                  | none => none
                  | some RR => aAll (fun r => match r with
                    | (1, S1, kc1, ks1) => bif cut (pc + 3) then some [(0, ((S1.1.1, pc + 3, A, S1.1.2.2.2 ++ rest), S1.2), kc1, ks1)] else aRun G CL inl MoS Mo n d j row cut kc1 ks1 ((S1.1.1, pc + 3, A, S1.1.2.2.2 ++ rest), S1.2)
                    | _ => none) RR) else (match aUse Mo d' a as e cs F CL with
                  | none => none
                  | some (c, θ) => aAll (fun o => match aOutc c θ e cs F o with
                    | none => some []
                    | some (ec, v, F') => match o.2.1.1 with
                      | 0 => bif cut (pc + 3) then some [(0, ((ec, pc + 3, A, rest), F'), kc + o.2.2.2.1, ks + o.2.2.2.2)] else aRun G CL inl MoS Mo n d j row cut (kc + o.2.2.2.1) (ks + o.2.2.2.2) ((ec, pc + 3, A, rest), F')
                      | 1 => bif cut (pc + 3) then some [(0, ((ec, pc + 3, A, v :: rest), F'), kc + o.2.2.2.1, ks + o.2.2.2.2)] else aRun G CL inl MoS Mo n d j row cut (kc + o.2.2.2.1) (ks + o.2.2.2.2) ((ec, pc + 3, A, v :: rest), F')
                      | x + 2 => match (bif pIsV ins b then pHand j pc x else none) with
                        | none => none
                        | some h => match aCatch row.2.2.2.2.2.2 A h with
                          | none => none
                          | some (pc', A') => bif cut pc' then some [(0, ((ec, pc', A', []), F'), kc + o.2.2.2.1, ks + o.2.2.2.2)] else aRun G CL inl MoS Mo n d j row cut (kc + o.2.2.2.1) (ks + o.2.2.2.2) ((ec, pc', A', []), F')) c.2.2.2.2.2.2)
              | _, _ => none
/-- what an end is, over the pure machine -/
def aEnd (O : pOut) (j tag : Nat) (σ : pSt) : Prop := match tag with
  | 0 => True
  | 1 => ∃ v, pAct O j σ = some (.inr (.inl (.inl v))) ∧ σ.2.2.1 = v.toList
  | x + 2 => pAct O j σ = some (.inr (.inl (.inr x)))
def cPost (O : pOut) (G : aG) (I : PH → Prop) (c : aCon) (ρ : List Int) (es : PH) (o : pRes) : Prop := hOK G.1 o.2.1 ∧ I o.2.1 ∧ fr c.2.2.2.2.2.1 es o.2.1 ∧ ∃ out ∈ c.2.2.2.2.2.2, ∃ τ, gE (ρ ++ τ) out.1.1 ∧ gC (ρ ++ τ) out.1.2 ∧ gFs O (ρ ++ τ) o.2.1 out.2.2.1 ∧ o.2.2.1 ≤ out.2.2.2.1 ∧ o.2.2.2 ≤ out.2.2.2.2 ∧
  (match out.2.1.1 with
    | 0 => o.1 = .inl none
    | 1 => ∃ v, o.1 = .inl (some v) ∧ gV (ρ ++ τ) out.2.1.2 v
    | x + 2 => o.1 = .inr x)
/-- a contract that holds -/
def conOK (O : pOut) (G : aG) (I : PH → Prop) (c : aCon) : Prop := ∃ row, pM[c.1]? = some row ∧ ∀ d, c.2.1 ≤ d → ∀ ρ vs es, gE ρ c.2.2.1.1 → gC ρ c.2.2.1.2 → gS ρ c.2.2.2.1 vs → hOK G.1 es → I es → gFs O ρ es c.2.2.2.2.1 → aW O d c.1 0 0 (cPost O G I c ρ es) (0, pEntry vs row.2.2.1, [], es)
section
variable {O : pOut} {G : aG} {Mo : List aMod} {ρ : List Int} {e : aE} {cs : List aF} {A st : List aV} {F : List aFt} {pc : Nat} {L : PL} {s : List Value} {es : PH}
theorem gL_append {A B : List aV} {L M : PL} (h : gL ρ A L) (h2 : gL ρ B M) : gL ρ (A ++ B) (L ++ M) := by
  induction A generalizing L with
  | nil =>
    cases L with
    | nil => exact h2
    | cons o s => exact h.elim
  | cons a r ih =>
    cases L with
    | nil => exact h.elim
    | cons o s => exact ⟨h.1, ih h.2⟩
theorem gL_rep : ∀ n, gL ρ (List.replicate n aX) (List.replicate n none)
  | 0 => trivial
  | n + 1 => ⟨Or.inl (Nat.le_refl _), gL_rep n⟩
theorem aEntry_ok {as : List aV} {vs : List Value} {m : Nat} (h : gS ρ as vs) (hm : aCat as = some m) (n : Nat) : gL ρ (aEntry as n) (pEntry vs n) := by
  have h1 : gL ρ (as.flatMap (fun a => bif a.1 == 2 then [a, aX] else [a])) (vs.flatMap (fun v => if v.category = 2 then [some v, none] else [some v])) := by
    induction as generalizing vs m with
    | nil =>
      cases vs with
      | nil => trivial
      | cons v s => exact h.elim
    | cons a r ih =>
      cases vs with
      | nil => exact h.elim
      | cons v s =>
        simp only [aCat] at hm
        cases hr : aCat r with
        | none => rw [hr] at hm; cases hm
        | some k =>
          rw [hr] at hm
          simp only at hm
          simp only [List.flatMap_cons]
          refine gL_append ?_ (ih h.2 hr)
          cases h2 : a.1 == 2 with
          | true =>
            have h2' : a.1 = 2 := by simpa using h2
            rw [gV_cat h.1 (by omega), if_pos h2', if_pos rfl]
            exact ⟨Or.inr ⟨v, rfl, h.1⟩, Or.inl (Nat.le_refl _), trivial⟩
          | false =>
            have h2' : ¬ a.1 = 2 := by simpa using h2
            rw [h2] at hm
            simp only [cond_false] at hm
            cases h3 : Nat.blt a.1 4 with
            | false => rw [h3] at hm; cases hm
            | true =>
              rw [Nat.blt_eq] at h3
              rw [gV_cat h.1 h3, if_neg h2', if_neg (by omega)]
              exact ⟨Or.inr ⟨v, rfl, h.1⟩, trivial⟩
  unfold aEntry pEntry
  have hl := gL_len h1
  simp only
  rw [hl]
  exact gL_append h1 (gL_rep _)
theorem pAct_0 {j : Nat} {row : pMrow} {ins : Instr} {len q a b : Nat} (hrow : pM[j]? = some row) (hat : pAt row.2.2.2.2.2.2 pc = some (ins, len, q, a, b)) {r : pSt} (h : pS0 ins pc L s es = some r) : pAct O j (pc, L, s, es) = some (.inl (r, 0, 0, false)) := by
  unfold pAct
  simp only [hrow, hat, h]
theorem pAct_by {j d : Nat} {row : pMrow} {ins : Instr} {len q a b : Nat} (hrow : pM[j]? = some row) (hat : pAt row.2.2.2.2.2.2 pc = some (ins, len, q, a, b)) {r : pSt} (h : aBy O (row.1.name == "<init>" && row.2.2.2.2.1 == a) d ins q a b pc L s es r) : ∃ nd, pAct O j (pc, L, s, es) = some (.inl (r, 0, 0, nd)) ∧ (nd = true → 0 < d) := by
  obtain ⟨h0, h2, h1 | h1⟩ := h
  · refine ⟨false, ?_, fun h => by cases h⟩
    unfold pAct
    simp only [hrow, hat, h0, h1.1]
    rw [if_neg (fun hh => by have := h1.2 hh.1; omega)]
  · refine ⟨true, ?_, fun _ => h1.2.2⟩
    unfold pAct
    simp only [hrow, hat, h0, h1.1, h2, h1.2.1]
theorem aFin_ok (hc : gC ρ cs) (h : gE ρ e) (hS : gS ρ st s) {ins : Instr} {ret : Option FieldType} (hq : aFin ins st ret e cs = true) (ini : Bool) (q a b : Nat) : pS0 ins pc L s es = none ∧ pS1 O ini ins q a b pc L s es = none ∧ pS2 ins a b pc L s es = none ∧ pS3 ins a b pc L s es = none ∧ ∃ v, pFin ins s ret = some v ∧ s = v.toList := by
  unfold aFin at hq
  split at hq
  · refine ⟨rfl, rfl, rfl, rfl, ?_⟩
    split at hq
    · rename_i a'
      obtain ⟨v1, s1, rfl, hv, hs1⟩ := gS_cons hS
      cases gS_nil hs1
      obtain ⟨x, rfl⟩ := aInt_val hq hv
      exact ⟨some (.int x), rfl, rfl⟩
    · rename_i f
      obtain ⟨v1, s1, rfl, ⟨x, rfl, hx⟩, hs1⟩ := gS_cons hS
      cases gS_nil hs1
      simp only [Bool.and_eq_true, iLe_iff] at hq
      have bx : pLo e cs f ≤ x.toInt ∧ x.toInt ≤ pHi e cs f := pLo_le h hc hx
      refine ⟨some (.int x), ?_, rfl⟩
      simp only [pFin]
      have hbb : x = 0 ∨ x = 1 := i32_01 (by omega) (by omega)
      rw [if_pos hbb]
    · cases hq
  · refine ⟨rfl, rfl, rfl, rfl, ?_⟩
    split at hq
    · obtain ⟨v1, s1, rfl, ⟨x, rfl, hx⟩, hs1⟩ := gS_cons hS
      cases gS_nil hs1
      exact ⟨some (.long x), rfl, rfl⟩
    · cases hq
  · refine ⟨rfl, rfl, rfl, rfl, ?_⟩
    split at hq
    · obtain ⟨v1, s1, rfl, ⟨x, rfl, hx⟩, hs1⟩ := gS_cons hS
      cases gS_nil hs1
      exact ⟨some (.ref x), rfl, rfl⟩
    · cases hq
  · refine ⟨rfl, rfl, rfl, rfl, ?_⟩
    split at hq
    · cases gS_nil hS
      exact ⟨none, rfl, rfl⟩
    · cases hq
  · cases hq
set_option maxHeartbeats 4000000 in
theorem aCall_ok (hS : gS ρ st s) (hT : hOK G.1 es) {ins : Instr} {a b : Nat} {row : pMrow} {as rest : List aV} (hq : aCall G ins a b row st = some (as, rest)) (ini : Bool) (q : Nat) (ret : Option FieldType) :
    pS0 ins pc L s es = none ∧ pS1 O ini ins q a b pc L s es = none ∧ pS2 ins a b pc L s es = none ∧ pS3 ins a b pc L s es = none ∧ pFin ins s ret = none ∧ pIsT ins b s = false ∧ ∃ vs rs, pCall ins a b row s es = some (vs, rs) ∧ gS ρ as vs ∧ gS ρ rest rs ∧ ∃ m, aCat as = some m := by
  unfold aCall at hq
  split at hq
  · rename_i m m' m2 hm hm' hm2
    cases hb : !(row.2.2.2.2.1 == 15) && (Nat.ble m row.2.2.1 && (Nat.ble row.2.2.2.2.2.1 st.length && Nat.ble m' 8)) with
    | false => rw [hb] at hq; cases hq
    | true =>
      rw [hb] at hq
      simp only [cond_true] at hq
      simp only [Bool.and_eq_true, Bool.not_eq_true', beq_eq_false_iff_ne, ne_eq, Nat.ble_eq] at hb
      obtain ⟨b1, b2, b3, b4⟩ := hb
      obtain ⟨g1, g2⟩ := gS_take row.2.2.2.2.2.1 hS
      have c1 := aCat_ok g1 hm
      have c2 := aCat_ok g2 hm'
      have hsl := gS_len hS
      have hcond : ¬ (row.2.2.2.2.1 = 15 ∨ row.2.2.1 < pCat (s.take row.2.2.2.2.2.1) ∨ s.length < row.2.2.2.2.2.1 ∨ 8 < pCat (s.drop row.2.2.2.2.2.1)) := by
        rw [c1, c2, ← hsl]; omega
      split at hq
      · -- static
        rename_i ix
        cases hs : (b == 0 && !(a == 21 || (a == 30 || a == 256))) || b == 3 with
        | false => rw [hs] at hq; cases hq
        | true =>
          rw [hs] at hq
          simp only [cond_true, Option.some.injEq, Prod.mk.injEq] at hq
          obtain ⟨rfl, rfl⟩ := hq
          simp only [Bool.or_eq_true, Bool.and_eq_true, Bool.not_eq_true', Bool.or_eq_false_iff, beq_iff_eq, beq_eq_false_iff_ne, ne_eq] at hs
          have hb7 : ¬ b = 7 := by omega
          refine ⟨rfl, by simp only [pS1]; rw [if_neg hb7], rfl, ?_, rfl, rfl, (s.take row.2.2.2.2.2.1).reverse, s.drop row.2.2.2.2.2.1, ?_, gS_rev g1, g2, m2, hm2⟩
          · simp only [pS3]
            by_cases hb0 : b = 0
            · rw [if_pos hb0]
              split <;> first | omega | rfl
            · rw [if_neg hb0]
          · unfold pCall
            have hbb : b = 0 ∨ b = 3 := by omega
            rw [if_neg hcond]
            simp only
            rw [if_pos hbb]
      · -- virtual
        rename_i ix
        cases hs : b == 1 || b == 4 with
        | false => rw [hs] at hq; cases hq
        | true =>
          rw [hs] at hq
          simp only [cond_true] at hq
          simp only [Bool.or_eq_true, beq_iff_eq] at hs
          split at hq
          · rename_i r tl hrev
            have g3 := gS_rev g1
            rw [hrev] at g3
            obtain ⟨v1, s1, hv1, ⟨k, rfl, hk⟩, hs1⟩ := gS_cons g3
            split at hq
            · rename_i p hp
              obtain ⟨k1, k2⟩ := aPl_ok hp hk
              split at hq
              · rename_i cc ss hT1
                cases hcc : cc == row.2.2.2.2.1 with
                | false => rw [hcc] at hq; cases hq
                | true =>
                  rw [hcc] at hq
                  simp only [cond_true, Option.some.injEq, Prod.mk.injEq] at hq
                  obtain ⟨rfl, rfl⟩ := hq
                  have hcc' : cc = row.2.2.2.2.1 := by simpa using hcc
                  obtain ⟨z, hz, hz2⟩ := hOK_get hT hT1
                  obtain ⟨vs, rfl, hvs⟩ := eOK_inr hz2
                  refine ⟨rfl, rfl, rfl, ?_, rfl, rfl, .ref k :: s1, s.drop row.2.2.2.2.2.1, ?_, by rw [hrev]; exact ⟨⟨k, rfl, hk⟩, hs1⟩, g2, m2, hm2⟩
                  · simp only [pS3]
                    rcases hs with rfl | rfl <;> rfl
                  · unfold pCall
                    have hbb : b = 1 ∨ b = 4 := by omega
                    rw [if_neg hcond]
                    simp only
                    rw [if_pos hbb, hv1]
                    simp only
                    rw [if_neg k1, k2, hz]
                    simp only
                    rw [if_pos hcc']
              · cases hq
            · cases hq
          · cases hq
      · -- special
        rename_i ix
        cases hs : b == 2 || b == 5 with
        | false => rw [hs] at hq; cases hq
        | true =>
          rw [hs] at hq
          simp only [cond_true] at hq
          simp only [Bool.or_eq_true, beq_iff_eq] at hs
          split at hq
          · rename_i r tl hrev
            have g3 := gS_rev g1
            rw [hrev] at g3
            obtain ⟨v1, s1, hv1, ⟨k, rfl, hk⟩, hs1⟩ := gS_cons g3
            split at hq
            · rename_i p hp
              obtain ⟨k1, k2⟩ := aPl_ok hp hk
              simp only [Option.some.injEq, Prod.mk.injEq] at hq
              obtain ⟨rfl, rfl⟩ := hq
              have hb6 : ¬ b = 6 := by omega
              have hbb : b = 2 ∨ b = 5 := by omega
              refine ⟨rfl, by simp only [pS1]; rw [if_neg hb6], rfl, rfl, rfl, rfl, .ref k :: s1, s.drop row.2.2.2.2.2.1, ?_, by rw [hrev]; exact ⟨⟨k, rfl, hk⟩, hs1⟩, g2, m2, hm2⟩
              unfold pCall
              rw [if_neg hcond]
              simp only
              rw [if_pos hbb, hv1]
              simp only
              rw [if_neg k1]
            · cases hq
          · cases hq
      · cases hq
  · cases hq
theorem aCatch_ok {code : List pEnt} {h pc' : Nat} {A' : List aV} (hL : gL ρ A L) (hq : aCatch code A h = some (pc', A')) : ∃ L', pPut code L h = some (pc', L') ∧ gL ρ A' L' := by
  have hl := gL_len hL
  unfold aCatch at hq
  split at hq
  · rename_i i q hat
    cases hb : Nat.blt (i : Nat) A.length with
    | false => rw [hb] at hq; cases hq
    | true =>
      rw [hb] at hq
      simp only [cond_true, Option.some.injEq, Prod.mk.injEq] at hq
      obtain ⟨rfl, rfl⟩ := hq
      rw [Nat.blt_eq] at hb
      have hbb : (i : Nat) < L.length := by omega
      refine ⟨(pKill L i).set i none, ?_, gL_set (gL_kill hL i) i (Or.inl (Nat.le_refl _))⟩
      unfold pPut
      rw [hat]
      simp only
      rw [if_pos hbb]
  · rename_i i q hat
    cases hb : Nat.blt i A.length with
    | false => rw [hb] at hq; cases hq
    | true =>
      rw [hb] at hq
      simp only [cond_true, Option.some.injEq, Prod.mk.injEq] at hq
      obtain ⟨rfl, rfl⟩ := hq
      rw [Nat.blt_eq] at hb
      have hbb : (i : Nat) < L.length := by omega
      refine ⟨(pKill L i).set i none, ?_, gL_set (gL_kill hL i) i (Or.inl (Nat.le_refl _))⟩
      unfold pPut
      rw [hat]
      simp only
      rw [if_pos hbb]
  · cases hq
theorem aUse_ok {d a : Nat} {as : List aV} : ∀ {CL : List aCon} {c : aCon} {θ : List aF}, aUse Mo d a as e cs F CL = some (c, θ) → c ∈ CL ∧ c.1 = a ∧ c.2.1 ≤ d ∧ mSub c.2.2.2.2.2.1 Mo = true ∧ aFit 0 c.2.2.1.1 c.2.2.1.2 c.2.2.2.1 c.2.2.2.2.1 e cs as F = some θ
  | [], _, _, h => by cases h
  | x :: r, c, θ, h => by
    simp only [aUse] at h
    cases hb : x.1 == a && (Nat.ble x.2.1 d && mSub x.2.2.2.2.2.1 Mo) with
    | true =>
      rw [hb] at h
      simp only [cond_true] at h
      split at h
      · rename_i θ' hf
        simp only [Option.some.injEq, Prod.mk.injEq] at h
        obtain ⟨rfl, rfl⟩ := h
        simp only [Bool.and_eq_true, beq_iff_eq, Nat.ble_eq] at hb
        exact ⟨List.mem_cons_self, hb.1, hb.2.1, hb.2.2, hf⟩
      · obtain ⟨h1, h2⟩ := aUse_ok h
        exact ⟨List.mem_cons_of_mem _ h1, h2⟩
    | false =>
      rw [hb] at h
      obtain ⟨h1, h2⟩ := aUse_ok h
      exact ⟨List.mem_cons_of_mem _ h1, h2⟩
theorem aOutc_ok (h : gE ρ e) (hc : gC ρ cs) {es' : PH} (hF : gFs O ρ es F) {c : aCon} {θ : List aF} {ρ' τ : List Int} (hl : ρ'.length = θ.length) (hθ : ∀ x v, ρ'[x]? = some v → evF ρ (θ.getD x (fC 0)) = some v) (hE : gE ρ' c.2.2.1.1) {o : aOut} (o1 : gE (ρ' ++ τ) o.1.1) (o2 : gC (ρ' ++ τ) o.1.2) (o3 : gFs O (ρ' ++ τ) es' o.2.2.1) (hf : fr c.2.2.2.2.2.1 es es') :
    ∃ ec v F', aOutc c θ e cs F o = some (ec, v, F') ∧ gE (ρ ++ τ) ec.1 ∧ gC (ρ ++ τ) ec.2 ∧ gFs O (ρ ++ τ) es' F' ∧ ∀ w, gV (ρ' ++ τ) o.2.1.2 w → gV (ρ ++ τ) v w := by
  have hn : c.2.2.1.1.length = ρ'.length := hE.1.symm
  have hm : o.1.1.length = ρ'.length + τ.length := by rw [← o1.1, List.length_append]
  obtain ⟨θ1, hθ1⟩ : ∃ z, z = θ ++ (List.range (o.1.1.length - c.2.2.1.1.length)).map (fun i => fV (e.length + i)) := ⟨_, rfl⟩
  have key : ∀ x v, (ρ' ++ τ)[x]? = some v → evF (ρ ++ τ) (θ1.getD x (fC 0)) = some v := by
    intro x v hx
    rw [hθ1]
    by_cases hxl : x < ρ'.length
    · rw [List.getElem?_append_left hxl] at hx
      have h1 := hθ x v hx
      rw [List.getD_eq_getElem?_getD, List.getElem?_append_left (by omega), ← List.getD_eq_getElem?_getD]
      exact evF_app τ h1
    · rw [List.getElem?_append_right (by omega)] at hx
      have hxt : x - ρ'.length < τ.length := (List.getElem?_eq_some_iff.mp hx).1
      rw [List.getD_eq_getElem?_getD, List.getElem?_append_right (by omega), List.getElem?_map, List.getElem?_range (by omega)]
      simp only [Option.map_some, Option.getD_some]
      refine fV_ev ?_
      rw [← h.1, List.getElem?_append_right (by omega), Nat.add_sub_cancel_left, ← hl]
      exact hx
  have hcsn : gC (ρ ++ τ) (o.1.2.map (fSub θ1)) := fun f hf => by
    obtain ⟨g, hg, rfl⟩ := List.mem_map.mp hf
    obtain ⟨t, h1, h2⟩ := o2 g hg
    exact ⟨t, fSub_ev key h1, h2⟩
  have hE1 : gE (ρ ++ τ) (e ++ o.1.1.drop c.2.2.1.1.length) := by
    refine ⟨by simp [h.1, hn, hm], fun x v hx => ?_⟩
    simp only [List.getD_eq_getElem?_getD]
    by_cases hxl : x < ρ.length
    · rw [List.getElem?_append_left hxl] at hx
      rw [List.getElem?_append_left (by rw [← h.1]; exact hxl)]
      have := h.2 x v hx
      rwa [List.getD_eq_getElem?_getD] at this
    · rw [List.getElem?_append_right (by omega)] at hx
      rw [List.getElem?_append_right (by rw [← h.1]; omega), List.getElem?_drop]
      have := o1.2 (c.2.2.1.1.length + (x - e.length)) v (by
        rw [List.getElem?_append_right (by omega), hn, Nat.add_sub_cancel_left, ← h.1]
        exact hx)
      rwa [List.getD_eq_getElem?_getD] at this
  have hnar : gC (ρ ++ τ) ((List.range c.2.2.1.1.length).flatMap (fun x => bif o.1.1.getD x (0, 0) == c.2.2.1.1.getD x (0, 0) then [] else [fAdd (-1) (θ.getD x (fC 0)) (fC (o.1.1.getD x (0, 0)).1), fAdd (-1) (fC (o.1.1.getD x (0, 0)).2) (θ.getD x (fC 0))]) ++ o.1.2.map (fSub θ1)) := by
    intro f hf
    rcases List.mem_append.mp hf with hf | hf
    · obtain ⟨x, hx, hf⟩ := List.mem_flatMap.mp hf
      rw [List.mem_range] at hx
      cases hb : o.1.1.getD x (0, 0) == c.2.2.1.1.getD x (0, 0) with
      | true => rw [hb] at hf; cases hf
      | false =>
        rw [hb] at hf
        have hxr : x < ρ'.length := by omega
        have hv : ρ'[x]? = some ρ'[x] := List.getElem?_eq_getElem hxr
        have h1 := evF_app τ (hθ x _ hv)
        have h2 := o1.2 x ρ'[x] (by rw [List.getElem?_append_left hxr]; exact hv)
        simp only [cond_false, List.mem_cons, List.not_mem_nil, or_false] at hf
        rcases hf with rfl | rfl
        · exact ⟨_, fAdd_ev h1 fC_ev, by omega⟩
        · exact ⟨_, fAdd_ev fC_ev h1, by omega⟩
    · exact hcsn f hf
  obtain ⟨e2, h3, h4⟩ := aGes_sound hE1 hnar
  refine ⟨(e2, o.1.2.map (fSub θ1) ++ cs), (o.2.1.2.1, fSub θ1 o.2.1.2.2), F.filter (fKp e cs c.2.2.2.2.2.1) ++ o.2.2.1.map (fun t => (t.1, t.2.1, fSub θ1 t.2.2.1, fSub θ1 t.2.2.2)), ?_, h4, ?_, ?_, ?_⟩
  · unfold aOutc
    simp only [← hθ1, h3]
  · intro f hf
    rcases List.mem_append.mp hf with hf | hf
    · exact hcsn f hf
    · exact gC_app τ hc f hf
  · intro t ht
    rcases List.mem_append.mp ht with ht | ht
    · exact gF1_app τ (gFs_keep h hc hF hf t ht)
    · obtain ⟨u, hu, rfl⟩ := List.mem_map.mp ht
      have h9 := o3 u hu
      obtain ⟨p', kd, i', f'⟩ := u
      unfold gF1 at h9 ⊢
      simp only at h9 ⊢
      split at h9
      · obtain ⟨ty, n, g, k, q1, q2, q3⟩ := h9; exact ⟨ty, n, g, k, q1, fSub_ev key q2, fSub_ev key q3⟩
      · obtain ⟨n, g, h9⟩ := h9
        rcases h9 with ⟨q0, q1, q2⟩ | ⟨q0, q1, k, q2, q3⟩
        · exact ⟨n, g, Or.inl ⟨q0, q1, fSub_ev key q2⟩⟩
        · exact ⟨n, g, Or.inr ⟨q0, q1, k, fSub_ev key q2, fSub_ev key q3⟩⟩
      · obtain ⟨c', vs, x, q1, q2, q3⟩ := h9; exact ⟨c', vs, x, q1, q2, fSub_ev key q3⟩
  · intro w hw
    exact gV_map (fun t' h' => fSub_ev key h') hw
theorem aW_shift {d j c k : Nat} {Q' Q : pRes → Prop} {σ : pSt} (h : aW O d j 0 0 Q' σ) (hq : ∀ o : pRes, Q' o → Q (o.1, o.2.1, c + o.2.2.1, k + o.2.2.2)) : aW O d j c k Q σ := by
  obtain ⟨n, o, h1, h2⟩ := h
  refine ⟨n, o, h1, ?_⟩
  have := hq _ h2
  simpa only [Nat.zero_add] using this
theorem pAct_fin {j : Nat} {row : pMrow} {ins : Instr} {len q a b : Nat} (hrow : pM[j]? = some row) (hat : pAt row.2.2.2.2.2.2 pc = some (ins, len, q, a, b)) (h0 : pS0 ins pc L s es = none) (h1 : pS1 O (row.1.name == "<init>" && row.2.2.2.2.1 == a) ins q a b pc L s es = none) (h2 : pS2 ins a b pc L s es = none) (h3 : pS3 ins a b pc L s es = none) {v : Option Value} (h4 : pFin ins s row.2.2.2.1 = some v) : pAct O j (pc, L, s, es) = some (.inr (.inl (.inl v))) := by
  unfold pAct
  simp only [hrow, hat, h0, h1, h2, h3, h4]
theorem pAct_thr {j : Nat} {row : pMrow} {ix len q a : Nat} (hrow : pM[j]? = some row) (hat : pAt row.2.2.2.2.2.2 pc = some (.new ix, len, q, a, 1)) : pAct O j (pc, L, [], es) = some (.inr (.inl (.inr a))) := by
  unfold pAct
  simp only [hrow, hat]
  rfl
theorem pAct_call {j : Nat} {row : pMrow} {ins : Instr} {len q a b : Nat} (hrow : pM[j]? = some row) (hat : pAt row.2.2.2.2.2.2 pc = some (ins, len, q, a, b)) (h0 : pS0 ins pc L s es = none) (h1 : pS1 O (row.1.name == "<init>" && row.2.2.2.2.1 == a) ins q a b pc L s es = none) (h2 : pS2 ins a b pc L s es = none) (h3 : pS3 ins a b pc L s es = none) (h4 : pFin ins s row.2.2.2.1 = none) (h5 : pIsT ins b s = false) {ra : pMrow} (hra : pM[a]? = some ra) {vs rs : List Value} (hc : pCall ins a b ra s es = some (vs, rs)) : pAct O j (pc, L, s, es) = some (.inr (.inr (a, ra.2.2.1, vs, rs, pIsV ins b))) := by
  unfold pAct
  simp only [hrow, hat, h0, h1, h2, h3, h4, h5, hra, hc]
  rfl
end
