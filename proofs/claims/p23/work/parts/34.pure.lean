/-! THE INSTRUCTIONS THAT TOUCH STACK AND LOCALS ALONE, abstractly -/
abbrev aP : Type := (aE × List aF) × Nat × List aV × List aV
def gP (ρ : List Int) (q : aP) (r : pSt) : Prop := gE ρ q.1.1 ∧ gC ρ q.1.2 ∧ r.1 = q.2.1 ∧ gL ρ q.2.2.1 r.2.1 ∧ gS ρ q.2.2.2 r.2.2.1
theorem gC_app {ρ : List Int} (τ : List Int) {cs : List aF} (h : gC ρ cs) : gC (ρ ++ τ) cs := fun f hf => by
  obtain ⟨t, h1, h2⟩ := h f hf
  exact ⟨t, evF_app τ h1, h2⟩
def aInt (a : aV) : Bool := a.1 == 0 || a.1 == 3
theorem aInt_val {ρ : List Int} {a : aV} {v : Value} (h : aInt a = true) (hv : gV ρ a v) : ∃ x, v = .int x := by
  obtain ⟨k, f⟩ := a
  simp only [aInt, Bool.or_eq_true, beq_iff_eq] at h
  rcases h with rfl | rfl
  · obtain ⟨x, h1, -⟩ := hv; exact ⟨x, h1⟩
  · obtain ⟨x, t, h1, -⟩ := hv; exact ⟨x, h1⟩
def aOne (e : aE) (cs : List aF) (pc : Nat) (A st : List aV) : Option (List aP) := some [((e, cs), pc, A, st)]
def aLd (k : Nat) (i n : Nat) (e : aE) (cs : List aF) (pc : Nat) (A st : List aV) : Option (List aP) := match A[i]? with
  | some a => bif a.1 == k || (k == 0 && a.1 == 3) then aOne e cs (pc + n) A (a :: st) else none
  | none => none
def aSt (k : Nat) (i n : Nat) (e : aE) (cs : List aF) (pc : Nat) (A st : List aV) : Option (List aP) := match st with
  | a :: r => bif (a.1 == k || (k == 0 && a.1 == 3)) && Nat.blt i A.length then aOne e cs (pc + n) ((aKill A i).set i a) r else none
  | _ => none
def aSt2 (i n : Nat) (e : aE) (cs : List aF) (pc : Nat) (A st : List aV) : Option (List aP) := match st with
  | a :: r => bif a.1 == 2 && Nat.blt (i + 1) A.length then aOne e cs (pc + n) (((aKill A i).set i a).set (i + 1) aX) r else none
  | _ => none
def cNeg : Jvm.ClassFile.Cond → Jvm.ClassFile.Cond
  | .eq => .ne
  | .ne => .eq
  | .lt => .ge
  | .ge => .lt
  | .gt => .le
  | .le => .gt
theorem cR_neg {c : Jvm.ClassFile.Cond} {t : Int} (h : ¬ cR c t) : cR (cNeg c) t := by
  cases c <;> simp only [cR, cNeg] at h ⊢ <;> omega
theorem cR_sgn {c : Jvm.ClassFile.Cond} {t : Int} : cR c (sgn t) ↔ cR c t := by
  unfold sgn
  cases c <;> simp only [cR] <;> (split <;> (try split) <;> omega)
def aBr (c : Jvm.ClassFile.Cond) (e : aE) (cs : List aF) (d : aF) (pc : Nat) (off : Int) (A st : List aV) : Option (List aP) := match pTgt pc off with
  | none => none
  | some t => some ((match aIf c e cs d with
      | some p => [(p, t, A, st)]
      | none => []) ++ (match aIf (cNeg c) e cs d with
      | some p => [(p, pc + 3, A, st)]
      | none => []))
theorem aBr_ok {ρ : List Int} {e : aE} {cs : List aF} (h : gE ρ e) (hc : gC ρ cs) {A st : List aV} {L : PL} {s : List Value} (hL : gL ρ A L) (hS : gS ρ st s) {c : Jvm.ClassFile.Cond} {d : aF} {t : Int} (hd : evF ρ d = some t) {b : Bool} (hb : b = true ↔ cR c t) {pc : Nat} {off : Int} {R : List aP} (hr : aBr c e cs d pc off A st = some R) (es : PH) : ∃ r, pBr b pc off L s es = some r ∧ r.2.2.2 = es ∧ ∃ q ∈ R, ∃ τ, gP (ρ ++ τ) q r := by
  unfold aBr at hr
  cases ht : pTgt pc off with
  | none => rw [ht] at hr; cases hr
  | some t' =>
    rw [ht] at hr
    simp only [Option.some.injEq] at hr
    subst hr
    simp only [pBr, ht]
    cases b with
    | true =>
      obtain ⟨e', cs', h1, h2, h3⟩ := aIf_sound h hc hd (hb.mp rfl)
      refine ⟨_, rfl, rfl, ((e', cs'), t', A, st), ?_, [], ?_⟩
      · rw [h1]; simp
      · rw [List.append_nil]; exact ⟨h2, h3, rfl, hL, hS⟩
    | false =>
      obtain ⟨e', cs', h1, h2, h3⟩ := aIf_sound h hc hd (cR_neg (c := c) (fun hh => by cases hb.mpr hh))
      refine ⟨_, rfl, rfl, ((e', cs'), pc + 3, A, st), ?_, [], ?_⟩
      · rw [h1]; simp
      · rw [List.append_nil]; exact ⟨h2, h3, rfl, hL, hS⟩
def aCase (e : aE) (cs : List aF) (f : aF) (pc : Nat) (A st : List aV) : List (Int × Int) → Option (List aP)
  | [] => some []
  | (k, off) :: q => match aCase e cs f pc A st q with
    | none => none
    | some R => match aIf .eq e cs (fAdd (-1) f (fC k)) with
      | none => some R
      | some p => match pTgt pc off with
        | none => none
        | some t => some ((p, t, A, st) :: R)
theorem aCase_ok {ρ : List Int} {e : aE} {cs : List aF} (h : gE ρ e) (hc : gC ρ cs) {A st : List aV} {L : PL} {s : List Value} (hL : gL ρ A L) (hS : gS ρ st s) {f : aF} {x : Int} (hf : evF ρ f = some x) {pc : Nat} : ∀ {ps : List (Int × Int)} {R : List aP}, aCase e cs f pc A st ps = some R → ∀ {off : Int}, (x, off) ∈ ps → ∃ t, pTgt pc off = some t ∧ ∃ p, (p, t, A, st) ∈ R ∧ gE ρ p.1 ∧ gC ρ p.2
  | [], _, _, _, hm => by cases hm
  | (k, o) :: q, R, hr, off, hm => by
    simp only [aCase] at hr
    cases hq : aCase e cs f pc A st q with
    | none => rw [hq] at hr; cases hr
    | some R' =>
      rw [hq] at hr
      simp only at hr
      rcases List.mem_cons.mp hm with hm | hm
      · have e1 : x = k := congrArg Prod.fst hm
        have e2 : off = o := congrArg Prod.snd hm
        subst e1 e2
        obtain ⟨e', cs', h1, h2, h3⟩ := aIf_sound h hc (fAdd_ev (k := -1) hf (fC_ev (c := x))) (c := .eq) (by show x + -1 * x = 0; omega)
        rw [h1] at hr
        simp only at hr
        cases ht : pTgt pc off with
        | none => rw [ht] at hr; cases hr
        | some t =>
          rw [ht] at hr
          simp only [Option.some.injEq] at hr
          subst hr
          exact ⟨t, rfl, (e', cs'), List.mem_cons_self, h2, h3⟩
      · obtain ⟨t, h1, p, h2, h3⟩ := aCase_ok h hc hL hS hf hq hm
        refine ⟨t, h1, p, ?_, h3⟩
        cases hi : aIf .eq e cs (fAdd (-1) f (fC k)) with
        | none => rw [hi] at hr; simp only [Option.some.injEq] at hr; subst hr; exact h2
        | some z =>
          rw [hi] at hr
          simp only at hr
          cases ht : pTgt pc o with
          | none => rw [ht] at hr; cases hr
          | some t' =>
            rw [ht] at hr
            simp only [Option.some.injEq] at hr
            subst hr
            exact List.mem_cons_of_mem _ h2
def aSw (e : aE) (cs : List aF) (f : aF) (pc : Nat) (A st : List aV) (dflt : Int) (skip : Bool) (ps : List (Int × Int)) : Option (List aP) := match aCase e cs f pc A st ps, pTgt pc dflt with
  | some R, some t => bif skip then some R else some (((e, cs), t, A, st) :: R)
  | _, _ => none
def aL2 (e : aE) (cs : List aF) (pc : Nat) (A r : List aV) : Option (List aP) := match aNew e lLO lHI with
  | (e', f) => aOne e' cs (pc + 1) A ((2, f) :: r)
def zipK (lo : Int) : List Int → List (Int × Int)
  | [] => []
  | o :: r => (lo, o) :: zipK (lo + 1) r
theorem zipK_mem : ∀ {l : List Int} {lo : Int} {i : Nat} {o : Int}, l[i]? = some o → (lo + i, o) ∈ zipK lo l
  | [], _, _, _, h => by simp at h
  | a :: r, lo, 0, o, h => by simp at h; subst h; simp [zipK]
  | a :: r, lo, i + 1, o, h => by
    simp only [List.getElem?_cons_succ] at h
    refine List.mem_cons_of_mem _ ?_
    have := zipK_mem (lo := lo + 1) h
    have e1 : lo + 1 + (i : Int) = lo + ((i + 1 : Nat) : Int) := by omega
    rwa [e1] at this
theorem off_mem : ∀ (ps : List (Int × Int)) (d x : Int), Op.lookupswitch.offset ps d x = d ∨ (x, Op.lookupswitch.offset ps d x) ∈ ps
  | [], d, x => Or.inl rfl
  | (a, o) :: r, d, x => by
    rw [Op.lookupswitch.offset_cons]
    split
    · rename_i h
      subst h
      exact Or.inr List.mem_cons_self
    · exact (off_mem r d x).imp id (List.mem_cons_of_mem _)
def aP0 (ins : Instr) (e : aE) (cs : List aF) (pc : Nat) (A st : List aV) : Option (List aP) := match ins with
  | .iconst n => aOne e cs (pc + 1) A ((0, fC (Int32.ofInt n).toInt) :: st)
  | .bipush n => aOne e cs (pc + 2) A ((0, fC (Int8.ofInt n).toInt32.toInt) :: st)
  | .sipush n => aOne e cs (pc + 3) A ((0, fC (Int16.ofInt n).toInt32.toInt) :: st)
  | .lconst n => aOne e cs (pc + 1) A ((2, fC (Int64.ofNat (n : Nat)).toInt) :: st)
  | .iload_n k => aLd 0 k 1 e cs pc A st
  | .iload i => aLd 0 i 2 e cs pc A st
  | .lload_n k => aLd 2 k 1 e cs pc A st
  | .lload i => aLd 2 i 2 e cs pc A st
  | .aload_n k => aLd 1 k 1 e cs pc A st
  | .aload i => aLd 1 i 2 e cs pc A st
  | .istore_n k => aSt 0 k 1 e cs pc A st
  | .istore i => aSt 0 i 2 e cs pc A st
  | .lstore_n k => aSt2 k 1 e cs pc A st
  | .lstore i => aSt2 i 2 e cs pc A st
  | .astore_n k => aSt 1 k 1 e cs pc A st
  | .astore i => aSt 1 i 2 e cs pc A st
  | .iinc i n => match A[i]? with
    | some (0, f) => match aNorm e cs (fAdd 1 f (fC (Int32.ofInt n).toInt)) with
      | (e', r) => aOne e' cs (pc + 3) ((aKill A i).set i (0, r)) st
    | _ => none
  | .iadd | .isub | .imul | .iand | .ior | .idiv | .irem | .ishl | .ishr | .iushr => match st with
    | (0, g) :: (0, f) :: r => match aArith ins e cs f g with
      | some (e', v) => aOne e' cs (pc + 1) A ((0, v) :: r)
      | none => none
    | _ => none
  | .ladd | .lsub | .lmul | .land | .lor => match st with
    | (2, _) :: (2, _) :: r => aL2 e cs pc A r
    | _ => none
  | .ldiv | .lrem => match st with
    | (2, g) :: (2, _) :: r => bif iLe 1 (pLo e cs g) then aL2 e cs pc A r else none
    | _ => none
  | .lshl | .lushr => match st with
    | (0, _) :: (2, _) :: r => aL2 e cs pc A r
    | _ => none
  | .lcmp => match st with
    | (2, g) :: (2, f) :: r => aOne e cs (pc + 1) A ((3, fAdd (-1) f g) :: r)
    | _ => none
  | .i2l => match st with
    | (0, f) :: r => aOne e cs (pc + 1) A ((2, f) :: r)
    | _ => none
  | .l2i => match st with
    | (2, _) :: r => match aNew e iLO iHI with
      | (e', f) => aOne e' cs (pc + 1) A ((0, f) :: r)
    | _ => none
  | .i2b => match st with
    | (0, _) :: r => match aNew e (-128) 127 with
      | (e', f) => aOne e' cs (pc + 1) A ((0, f) :: r)
    | _ => none
  | .dup => match st with
    | a :: r => bif aInt a || a.1 == 1 then aOne e cs (pc + 1) A (a :: a :: r) else none
    | _ => none
  | .pop => match st with
    | a :: r => bif aInt a || a.1 == 1 then aOne e cs (pc + 1) A r else none
    | _ => none
  | .pop2 => match st with
    | (2, _) :: r => aOne e cs (pc + 1) A r
    | _ => none
  | .dup2 => match st with
    | (2, f) :: r => aOne e cs (pc + 1) A ((2, f) :: (2, f) :: r)
    | (0, f) :: b :: r => bif aInt b || b.1 == 1 then aOne e cs (pc + 1) A ((0, f) :: b :: (0, f) :: b :: r) else none
    | _ => none
  | .ifCond c off => match st with
    | (0, f) :: r => aBr c e cs f pc off A r
    | (3, f) :: r => aBr c e cs f pc off A r
    | _ => none
  | .if_icmp c off => match st with
    | (0, g) :: (0, f) :: r => aBr c e cs (fAdd (-1) f g) pc off A r
    | _ => none
  | .goto off => match pTgt pc off with
    | some t => aOne e cs t A st
    | none => none
  | .tableswitch dflt lo hi offs => match st with
    | (0, f) :: r => bif offs.toList.length == (hi - lo + 1).toNat then aSw e cs f pc A r dflt (iLe lo (pLo e cs f) && iLe (pHi e cs f) hi) (zipK lo offs.toList) else none
    | _ => none
  | .lookupswitch dflt ps => match st with
    | (0, f) :: r => bif (ps.toList.zip (ps.toList.drop 1)).all (fun (a, next) => a.1 < next.1) then aSw e cs f pc A r dflt false ps.toList else none
    | _ => none
  | _ => none
section
theorem aOne_ok {ρ : List Int} {τ : List Int} {e : aE} {cs : List aF} {A st : List aV} {pc : Nat} {R : List aP} (hr : aOne e cs pc A st = some R) (h : gE (ρ ++ τ) e) (hc : gC ρ cs) {L : PL} {s : List Value} (hL : gL (ρ ++ τ) A L) (hS : gS (ρ ++ τ) st s) {es : PH} {w : Option pSt} (hw : w = some (pc, L, s, es)) : ∃ r, w = some r ∧ r.2.2.2 = es ∧ ∃ q ∈ R, ∃ τ, gP (ρ ++ τ) q r := by
  cases hr
  exact ⟨_, hw, rfl, _, List.mem_cons_self, τ, h, gC_app τ hc, rfl, hL, hS⟩
theorem aOne_ok0 {ρ : List Int} {e : aE} {cs : List aF} {A st : List aV} {pc : Nat} {R : List aP} (hr : aOne e cs pc A st = some R) (h : gE ρ e) (hc : gC ρ cs) {L : PL} {s : List Value} (hL : gL ρ A L) (hS : gS ρ st s) {es : PH} {w : Option pSt} (hw : w = some (pc, L, s, es)) : ∃ r, w = some r ∧ r.2.2.2 = es ∧ ∃ q ∈ R, ∃ τ, gP (ρ ++ τ) q r :=
  aOne_ok (τ := []) hr (by simpa using h) hc (by simpa using hL) (by simpa using hS) hw
theorem aLd_val {k : Nat} {a : aV} (h : (a.1 == k || (k == 0 && a.1 == 3)) = true) : a.1 = k ∨ (k = 0 ∧ a.1 = 3) := by
  simpa [Bool.or_eq_true, Bool.and_eq_true, beq_iff_eq] using h
theorem aLd_ok {ρ : List Int} {e : aE} {cs : List aF} (h : gE ρ e) (hc : gC ρ cs) {A st : List aV} {L : PL} {s : List Value} (hL : gL ρ A L) (hS : gS ρ st s) {k i n pc : Nat} {es : PH} {R : List aP} (hr : aLd k i n e cs pc A st = some R) (hk : k < 3) :
    ∃ r, (if k = 0 then pLdI L i n pc s es else if k = 1 then pLdA L i n pc s es else pLdL L i n pc s es) = some r ∧ r.2.2.2 = es ∧ ∃ q ∈ R, ∃ τ, gP (ρ ++ τ) q r := by
  unfold aLd at hr
  split at hr
  · rename_i a ha
    cases hb : a.1 == k || (k == 0 && a.1 == 3) with
    | false => rw [hb] at hr; cases hr
    | true =>
      rw [hb] at hr
      have hk2 := aLd_val hb
      obtain ⟨v, h1, h2⟩ := gL_val hL ha (by omega)
      refine aOne_ok0 hr h hc hL (st := a :: st) (s := v :: s) ⟨h2, hS⟩ ?_
      obtain ⟨t, f⟩ := a
      simp only at hk2
      rcases hk2 with rfl | ⟨rfl, rfl⟩
      · rcases (show t = 0 ∨ t = 1 ∨ t = 2 by omega) with rfl | rfl | rfl
        · obtain ⟨x, rfl, -⟩ := h2; simp only [if_pos, pLdI, h1]
        · obtain ⟨x, rfl, -⟩ := h2; simp [pLdA, h1]
        · obtain ⟨x, rfl, -⟩ := h2; simp [pLdL, h1]
      · obtain ⟨x, t', rfl, -⟩ := h2; simp only [if_pos, pLdI, h1]
  · cases hr
theorem aSt_ok {ρ : List Int} {e : aE} {cs : List aF} (h : gE ρ e) (hc : gC ρ cs) {A st : List aV} {L : PL} {s : List Value} (hL : gL ρ A L) (hS : gS ρ st s) {k i n pc : Nat} {es : PH} {R : List aP} (hr : aSt k i n e cs pc A st = some R) (hk : k < 2) :
    ∃ r, (if k = 0 then pStI L i n pc s es else pStA L i n pc s es) = some r ∧ r.2.2.2 = es ∧ ∃ q ∈ R, ∃ τ, gP (ρ ++ τ) q r := by
  unfold aSt at hr
  split at hr
  · rename_i a r
    obtain ⟨v, s', rfl, hv, hs'⟩ := gS_cons hS
    cases hb : (a.1 == k || (k == 0 && a.1 == 3)) && Nat.blt i A.length with
    | false => rw [hb] at hr; cases hr
    | true =>
      rw [hb] at hr
      simp only [cond_true] at hr
      rw [Bool.and_eq_true] at hb
      have hk2 := aLd_val hb.1
      have hi : i < L.length := by rw [← gL_len hL]; simpa using hb.2
      refine aOne_ok0 hr h hc (gL_set (gL_kill hL i) i (Or.inr ⟨v, rfl, hv⟩)) hs' ?_
      obtain ⟨t, f⟩ := a
      simp only at hk2
      rcases hk2 with rfl | ⟨rfl, rfl⟩
      · rcases (show t = 0 ∨ t = 1 by omega) with rfl | rfl
        · obtain ⟨x, rfl, -⟩ := hv; simp only [if_pos, pStI, hi, pSto1]
        · obtain ⟨x, rfl, -⟩ := hv; simp [pStA, hi, pSto1]
      · obtain ⟨x, t', rfl, -⟩ := hv; simp only [if_pos, pStI, hi, pSto1]
  · cases hr
theorem aSt2_ok {ρ : List Int} {e : aE} {cs : List aF} (h : gE ρ e) (hc : gC ρ cs) {A st : List aV} {L : PL} {s : List Value} (hL : gL ρ A L) (hS : gS ρ st s) {i n pc : Nat} {es : PH} {R : List aP} (hr : aSt2 i n e cs pc A st = some R) :
    ∃ r, pStL L i n pc s es = some r ∧ r.2.2.2 = es ∧ ∃ q ∈ R, ∃ τ, gP (ρ ++ τ) q r := by
  unfold aSt2 at hr
  split at hr
  · rename_i a r
    obtain ⟨v, s', rfl, hv, hs'⟩ := gS_cons hS
    cases hb : a.1 == 2 && Nat.blt (i + 1) A.length with
    | false => rw [hb] at hr; cases hr
    | true =>
      rw [hb] at hr
      simp only [cond_true] at hr
      rw [Bool.and_eq_true] at hb
      have hk2 : a.1 = 2 := by simpa using hb.1
      have hi : i + 1 < L.length := by rw [← gL_len hL]; simpa using hb.2
      refine aOne_ok0 hr h hc (gL_set (gL_set (gL_kill hL i) i (Or.inr ⟨v, rfl, hv⟩)) (i + 1) (o := none) (Or.inl (Nat.le_refl _))) hs' ?_
      obtain ⟨t, f⟩ := a
      simp only at hk2
      subst hk2
      obtain ⟨x, rfl, -⟩ := hv
      simp only [pStL, hi, if_pos, pSto2]
  · cases hr
theorem aL2_ok {ρ : List Int} {e : aE} {cs : List aF} {A st : List aV} {pc : Nat} {R : List aP} (hr : aL2 e cs pc A st = some R) (h : gE ρ e) (hc : gC ρ cs) {L : PL} {s : List Value} (hL : gL ρ A L) (hS : gS ρ st s) {es : PH} (x : Int64) {w : Option pSt} (hw : w = some (pc + 1, L, .long x :: s, es)) : ∃ r, w = some r ∧ r.2.2.2 = es ∧ ∃ q ∈ R, ∃ τ, gP (ρ ++ τ) q r := by
  have h1 := aNew_ok h (i64_rng x)
  exact aOne_ok (τ := [x.toInt]) hr h1.1 hc (gL_app _ hL) (s := .long x :: s) ⟨⟨x, rfl, h1.2⟩, gS_app _ hS⟩ hw
theorem lg_cmp_sgn (x y : Int64) : (lg_cmp x y).toInt = sgn (x.toInt - y.toInt) := by
  unfold lg_cmp sgn
  simp only [gt_iff_lt, Int64.lt_iff_toInt_lt, ← Int64.toInt_inj]
  split
  · rw [if_neg (by omega), if_neg (by omega)]; decide
  · split
    · rw [if_neg (by omega), if_pos (by omega)]; decide
    · rw [if_pos (by omega)]; decide
theorem aSw_ok {ρ : List Int} {e : aE} {cs : List aF} (h : gE ρ e) (hc : gC ρ cs) {A st : List aV} {L : PL} {s : List Value} (hL : gL ρ A L) (hS : gS ρ st s) {f : aF} {x : Int} (hf : evF ρ f = some x) {pc : Nat} {dflt : Int} {skip : Bool} {ps : List (Int × Int)} {R : List aP} (hr : aSw e cs f pc A st dflt skip ps = some R) (es : PH) {off : Int} (ho : (off = dflt ∧ skip = false) ∨ (x, off) ∈ ps) : ∃ t, pTgt pc off = some t ∧ ∃ q ∈ R, ∃ τ, gP (ρ ++ τ) q (t, L, s, es) := by
  unfold aSw at hr
  split at hr
  · rename_i R' t' hq ht
    rcases ho with ⟨rfl, rfl⟩ | ho
    · simp only [cond_false, Option.some.injEq] at hr
      subst hr
      exact ⟨t', ht, _, List.mem_cons_self, [], by rw [List.append_nil]; exact ⟨h, hc, rfl, hL, hS⟩⟩
    · obtain ⟨t, h1, p, h2, h3, h4⟩ := aCase_ok h hc hL hS hf hq ho
      refine ⟨t, h1, (p, t, A, st), ?_, [], by rw [List.append_nil]; exact ⟨h3, h4, rfl, hL, hS⟩⟩
      cases skip
      · simp only [cond_false, Option.some.injEq] at hr; subst hr; exact List.mem_cons_of_mem _ h2
      · simp only [cond_true, Option.some.injEq] at hr; subst hr; exact h2
  · cases hr
theorem cat1_val {ρ : List Int} {a : aV} {v : Value} (h : (aInt a || a.1 == 1) = true) (hv : gV ρ a v) : (∃ x, v = .int x) ∨ ∃ k, v = .ref k := by
  rw [Bool.or_eq_true] at h
  rcases h with h | h
  · exact Or.inl (aInt_val h hv)
  · obtain ⟨k, f⟩ := a
    have : k = 1 := by simpa using h
    subst this
    obtain ⟨k, h1, -⟩ := hv
    exact Or.inr ⟨k, h1⟩
theorem i64_ne0 {y : Int64} (h : 0 < y.toInt) : ¬ y = 0 := fun hh => by
  rw [hh] at h
  exact absurd h (by decide)
theorem i8_rng (x : Int8) : (-128 : Int) ≤ x.toInt32.toInt ∧ x.toInt32.toInt ≤ 127 := by
  rw [Int8.toInt_toInt32]
  have h1 := Int8.le_toInt x
  have h2 := Int8.toInt_lt x
  omega
set_option maxHeartbeats 8000000 in
theorem aP0_ok {ρ : List Int} {e : aE} {cs : List aF} (h : gE ρ e) (hc : gC ρ cs) {A st : List aV} {L : PL} {s : List Value} (hL : gL ρ A L) (hS : gS ρ st s) {ins : Instr} {pc : Nat} (es : PH) {R : List aP} (hr : aP0 ins e cs pc A st = some R) : ∃ r, pS0 ins pc L s es = some r ∧ r.2.2.2 = es ∧ ∃ q ∈ R, ∃ τ, gP (ρ ++ τ) q r := by
  unfold aP0 at hr
  split at hr
  · rename_i n; exact aOne_ok0 hr h hc hL (s := .int (Int32.ofInt n) :: s) ⟨⟨_, rfl, fC_ev⟩, hS⟩ rfl
  · rename_i n; exact aOne_ok0 hr h hc hL (s := .int (Int8.ofInt n).toInt32 :: s) ⟨⟨_, rfl, fC_ev⟩, hS⟩ rfl
  · rename_i n; exact aOne_ok0 hr h hc hL (s := .int (Int16.ofInt n).toInt32 :: s) ⟨⟨_, rfl, fC_ev⟩, hS⟩ rfl
  · rename_i n; exact aOne_ok0 hr h hc hL (s := .long (Int64.ofNat (n : Nat)) :: s) ⟨⟨_, rfl, fC_ev⟩, hS⟩ rfl
  · exact aLd_ok h hc hL hS hr (by omega)
  · exact aLd_ok h hc hL hS hr (by omega)
  · exact aLd_ok h hc hL hS hr (by omega)
  · exact aLd_ok h hc hL hS hr (by omega)
  · exact aLd_ok h hc hL hS hr (by omega)
  · exact aLd_ok h hc hL hS hr (by omega)
  · exact aSt_ok h hc hL hS hr (by omega)
  · exact aSt_ok h hc hL hS hr (by omega)
  · exact aSt2_ok h hc hL hS hr
  · exact aSt2_ok h hc hL hS hr
  · exact aSt_ok h hc hL hS hr (by omega)
  · exact aSt_ok h hc hL hS hr (by omega)
  · rename_i i n
    split at hr
    · rename_i f hf
      obtain ⟨v, h1, x, rfl, h2⟩ := gL_val hL hf (Nat.le_of_ble_eq_true rfl)
      have hi : (i : Nat) < L.length := by rw [← gL_len hL]; exact (List.getElem?_eq_some_iff.mp hf).1
      obtain ⟨τ, h3, h4⟩ := aNorm_ok h hc (fAdd_ev (k := 1) h2 (fC_ev (c := (Int32.ofInt n).toInt))) (v := x + Int32.ofInt n) (by rw [Int32.toInt_add, Int.one_mul])
      refine aOne_ok hr h3 hc (gL_set (gL_kill (gL_app τ hL) i) i (Or.inr ⟨.int (x + Int32.ofInt n), rfl, x + Int32.ofInt n, rfl, h4⟩)) (gS_app τ hS) ?_
      simp only [pS0, h1, hi, if_pos, pSto1]
    · cases hr
  all_goals first
    | (split at hr
       · rename_i g f r
         obtain ⟨v1, s1, rfl, ⟨y, rfl, hy⟩, hs1⟩ := gS_cons hS
         obtain ⟨v2, s2, rfl, ⟨x, rfl, hx⟩, hs2⟩ := gS_cons hs1
         split at hr
         · rename_i e' v' ha
           obtain ⟨w, τ, q1, q2, q3⟩ := aArith_ok h hc hx hy ha
           refine aOne_ok hr q2 hc (gL_app τ hL) (s := .int w :: s2) ⟨⟨w, rfl, q3⟩, gS_app τ hs2⟩ ?_
           simp only [pS0, q1]
         · cases hr
       · cases hr)
    | (split at hr
       · rename_i f g r
         obtain ⟨v1, s1, rfl, ⟨y, rfl, hy⟩, hs1⟩ := gS_cons hS
         obtain ⟨v2, s2, rfl, ⟨x, rfl, hx⟩, hs2⟩ := gS_cons hs1
         exact aL2_ok hr h hc hL hs2 _ rfl
       · cases hr)
    | skip
  · -- ldiv
    split at hr
    · rename_i g f r
      obtain ⟨v1, s1, rfl, ⟨y, rfl, hy⟩, hs1⟩ := gS_cons hS
      obtain ⟨v2, s2, rfl, ⟨x, rfl, hx⟩, hs2⟩ := gS_cons hs1
      cases hb : iLe 1 (pLo e cs g) with
      | false => rw [hb] at hr; cases hr
      | true =>
        rw [hb] at hr
        have hy0 := i64_ne0 (Int.lt_of_lt_of_le (iLe_iff.mp hb) (pLo_le h hc hy).1)
        exact aL2_ok hr h hc hL hs2 (x / y) (by simp only [pS0, pBinL, hy0, if_false])
    · cases hr
  · -- lrem
    split at hr
    · rename_i g f r
      obtain ⟨v1, s1, rfl, ⟨y, rfl, hy⟩, hs1⟩ := gS_cons hS
      obtain ⟨v2, s2, rfl, ⟨x, rfl, hx⟩, hs2⟩ := gS_cons hs1
      cases hb : iLe 1 (pLo e cs g) with
      | false => rw [hb] at hr; cases hr
      | true =>
        rw [hb] at hr
        have hy0 := i64_ne0 (Int.lt_of_lt_of_le (iLe_iff.mp hb) (pLo_le h hc hy).1)
        exact aL2_ok hr h hc hL hs2 (x - x / y * y) (by simp only [pS0, pBinL, hy0, if_false])
    · cases hr
  · -- lcmp
    split at hr
    · rename_i g f r
      obtain ⟨v1, s1, rfl, ⟨y, rfl, hy⟩, hs1⟩ := gS_cons hS
      obtain ⟨v2, s2, rfl, ⟨x, rfl, hx⟩, hs2⟩ := gS_cons hs1
      exact aOne_ok0 hr h hc hL (s := .int (lg_cmp x y) :: s2) ⟨⟨lg_cmp x y, x.toInt + -1 * y.toInt, rfl, fAdd_ev hx hy, by rw [lg_cmp_sgn]; congr 1; omega⟩, hs2⟩ rfl
    · cases hr
  · -- i2l
    split at hr
    · rename_i f r
      obtain ⟨v1, s1, rfl, ⟨x, rfl, hx⟩, hs1⟩ := gS_cons hS
      exact aOne_ok0 hr h hc hL (s := .long x.toInt64 :: s1) ⟨⟨x.toInt64, rfl, by rw [Int32.toInt_toInt64]; exact hx⟩, hs1⟩ rfl
    · cases hr
  · -- l2i
    split at hr
    · rename_i f r
      obtain ⟨v1, s1, rfl, ⟨x, rfl, hx⟩, hs1⟩ := gS_cons hS
      have h1 := aNew_ok h (i32_rng x.toInt32)
      exact aOne_ok (τ := [x.toInt32.toInt]) hr h1.1 hc (gL_app _ hL) (s := .int x.toInt32 :: s1) ⟨⟨_, rfl, h1.2⟩, gS_app _ hs1⟩ rfl
    · cases hr
  · -- i2b
    split at hr
    · rename_i f r
      obtain ⟨v1, s1, rfl, ⟨x, rfl, hx⟩, hs1⟩ := gS_cons hS
      have h1 := aNew_ok h (i8_rng x.toInt8)
      exact aOne_ok (τ := [x.toInt8.toInt32.toInt]) hr h1.1 hc (gL_app _ hL) (s := .int x.toInt8.toInt32 :: s1) ⟨⟨_, rfl, h1.2⟩, gS_app _ hs1⟩ rfl
    · cases hr
  · -- dup
    split at hr
    · rename_i a r
      obtain ⟨v, s1, rfl, hv, hs1⟩ := gS_cons hS
      cases hb : aInt a || a.1 == 1 with
      | false => rw [hb] at hr; cases hr
      | true =>
        rw [hb] at hr
        refine aOne_ok0 hr h hc hL (s := v :: v :: s1) ⟨hv, hv, hs1⟩ ?_
        rcases cat1_val hb hv with ⟨x, rfl⟩ | ⟨k, rfl⟩ <;> rfl
    · cases hr
  · -- pop
    split at hr
    · rename_i a r
      obtain ⟨v, s1, rfl, hv, hs1⟩ := gS_cons hS
      cases hb : aInt a || a.1 == 1 with
      | false => rw [hb] at hr; cases hr
      | true =>
        rw [hb] at hr
        refine aOne_ok0 hr h hc hL (s := s1) hs1 ?_
        rcases cat1_val hb hv with ⟨x, rfl⟩ | ⟨k, rfl⟩ <;> rfl
    · cases hr
  · -- pop2
    split at hr
    · rename_i f r
      obtain ⟨v1, s1, rfl, ⟨x, rfl, hx⟩, hs1⟩ := gS_cons hS
      exact aOne_ok0 hr h hc hL (s := s1) hs1 rfl
    · cases hr
  · -- dup2
    split at hr
    · rename_i f r
      obtain ⟨v1, s1, rfl, ⟨x, rfl, hx⟩, hs1⟩ := gS_cons hS
      exact aOne_ok0 hr h hc hL (s := .long x :: .long x :: s1) ⟨⟨x, rfl, hx⟩, ⟨x, rfl, hx⟩, hs1⟩ rfl
    · rename_i f b r
      obtain ⟨v1, s1, rfl, ⟨x, rfl, hx⟩, hs1⟩ := gS_cons hS
      obtain ⟨w, s2, rfl, hw, hs2⟩ := gS_cons hs1
      cases hb : aInt b || b.1 == 1 with
      | false => rw [hb] at hr; cases hr
      | true =>
        rw [hb] at hr
        refine aOne_ok0 hr h hc hL (s := .int x :: w :: .int x :: w :: s2) ⟨⟨x, rfl, hx⟩, hw, ⟨x, rfl, hx⟩, hw, hs2⟩ ?_
        rcases cat1_val hb hw with ⟨x', rfl⟩ | ⟨k, rfl⟩ <;> rfl
    · cases hr
  · -- ifCond
    rename_i c off
    split at hr
    · rename_i f r
      obtain ⟨v1, s1, rfl, ⟨x, rfl, hx⟩, hs1⟩ := gS_cons hS
      exact aBr_ok h hc hL hs1 hx (b := pCmp c x 0) (by rw [pCmp_iff]; rw [show x.toInt - (0 : Int32).toInt = x.toInt by rw [Int32.toInt_zero]; omega]) hr es
    · rename_i f r
      obtain ⟨v1, s1, rfl, ⟨x, t, rfl, hx, hq⟩, hs1⟩ := gS_cons hS
      exact aBr_ok h hc hL hs1 hx (b := pCmp c x 0) (by rw [pCmp_iff]; rw [show x.toInt - (0 : Int32).toInt = x.toInt by rw [Int32.toInt_zero]; omega, hq]; exact cR_sgn) hr es
    · cases hr
  · -- if_icmp
    rename_i c off
    split at hr
    · rename_i g f r
      obtain ⟨v1, s1, rfl, ⟨y, rfl, hy⟩, hs1⟩ := gS_cons hS
      obtain ⟨v2, s2, rfl, ⟨x, rfl, hx⟩, hs2⟩ := gS_cons hs1
      exact aBr_ok h hc hL hs2 (fAdd_ev (k := -1) hx hy) (b := pCmp c x y) (by rw [pCmp_iff]; rw [show x.toInt - y.toInt = x.toInt + -1 * y.toInt by omega]) hr es
    · cases hr
  · -- goto
    rename_i off
    split at hr
    · rename_i t ht
      exact aOne_ok0 hr h hc hL hS (by simp only [pS0, ht])
    · cases hr
  · -- tableswitch
    rename_i dflt lo hi offs
    split at hr
    · rename_i f r
      obtain ⟨v1, s1, rfl, ⟨x, rfl, hx⟩, hs1⟩ := gS_cons hS
      cases hb : offs.toList.length == (hi - lo + 1).toNat with
      | false => rw [hb] at hr; cases hr
      | true =>
        rw [hb] at hr
        simp only [cond_true] at hr
        have hlen : offs.toList.length = (hi - lo + 1).toNat := by simpa using hb
        have hbx : pLo e cs f ≤ x.toInt ∧ x.toInt ≤ pHi e cs f := pLo_le h hc hx
        by_cases hout : x.toInt < lo ∨ hi < x.toInt
        · have hsk : (iLe lo (pLo e cs f) && iLe (pHi e cs f) hi) = false := by
            rw [Bool.and_eq_false_iff]
            rcases hout with ho | ho
            · exact Or.inl (iLe_not.mpr (by omega))
            · exact Or.inr (iLe_not.mpr (by omega))
          obtain ⟨t, h1, q, h2, τ, h3⟩ := aSw_ok h hc hL hs1 hx hr es (off := dflt) (Or.inl ⟨rfl, hsk⟩)
          exact ⟨_, by simp only [pS0, hout, if_true, h1], rfl, q, h2, τ, h3⟩
        · have hi1 : (x.toInt - lo).toNat < offs.size := by
            rw [← Array.length_toList, hlen]; omega
          have hof : offs[(x.toInt - lo).toNat]? = some offs[(x.toInt - lo).toNat] := Array.getElem?_eq_getElem hi1
          have hmem : (x.toInt, offs[(x.toInt - lo).toNat]) ∈ zipK lo offs.toList := by
            have h9 : offs.toList[(x.toInt - lo).toNat]? = some offs[(x.toInt - lo).toNat] := by rw [Array.getElem?_toList]; exact hof
            have := zipK_mem (lo := lo) h9
            have e1 : lo + (((x.toInt - lo).toNat : Nat) : Int) = x.toInt := by omega
            rwa [e1] at this
          obtain ⟨t, h1, q, h2, τ, h3⟩ := aSw_ok h hc hL hs1 hx hr es (Or.inr hmem)
          exact ⟨_, by simp only [pS0, hout, if_false, hof, h1], rfl, q, h2, τ, h3⟩
    · cases hr
  · -- lookupswitch
    rename_i dflt ps
    split at hr
    · rename_i f r
      obtain ⟨v1, s1, rfl, ⟨x, rfl, hx⟩, hs1⟩ := gS_cons hS
      cases hb : (ps.toList.zip (ps.toList.drop 1)).all (fun (a, next) => a.1 < next.1) with
      | false => rw [hb] at hr; cases hr
      | true =>
        rw [hb] at hr
        simp only [cond_true] at hr
        have hor : (Op.lookupswitch.offset ps.toList dflt x.toInt = dflt ∧ false = false) ∨ (x.toInt, Op.lookupswitch.offset ps.toList dflt x.toInt) ∈ ps.toList := (off_mem ps.toList dflt x.toInt).imp (fun z => ⟨z, rfl⟩) id
        obtain ⟨t, h1, q, h2, τ, h3⟩ := aSw_ok h hc hL hs1 hx hr es hor
        exact ⟨_, by simp only [pS0, hb, if_true, h1], rfl, q, h2, τ, h3⟩
    · cases hr
  · cases hr
end
