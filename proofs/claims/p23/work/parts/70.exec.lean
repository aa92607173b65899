/-! BY HAND: what is in the heap as functions, and a step at a time with what it gives -/
/-- the table's shape alone -/
def tWide : tE → tE
  | .inl (t, n, _) => .inl (t, n, fun _ => (iLO, iHI))
  | .inr (c, ss) => .inr (c, ss.map (fun s => match s with
    | (0, _, _) => (0, iLO, iHI)
    | s => s))
def tT0 : List tE := tT.map tWide
def sh (es : PH) : Prop := hOK tT0 es
def gA (es : PH) (p : Nat) : Nat → Int32 := match es[p]? with
  | some (.inl (_, _, .inl f)) => f
  | _ => fun _ => 0
def gJ (es : PH) (p : Nat) : Nat → Int64 := match es[p]? with
  | some (.inl (_, _, .inr f)) => f
  | _ => fun _ => 0
def gFd (es : PH) (p b : Nat) : Value := match es[p]? with
  | some (.inr (_, vs)) => vs.getD b (.int 0)
  | _ => .int 0
def gI (es : PH) (p b : Nat) : Int32 := match gFd es p b with
  | .int x => x
  | _ => 0
def sA (es : PH) (p k : Nat) (x : Int32) : PH := match es[p]? with
  | some (.inl (t, n, .inl f)) => es.set p (.inl (t, n, .inl (upd f k x)))
  | _ => es
def sJ (es : PH) (p k : Nat) (x : Int64) : PH := match es[p]? with
  | some (.inl (t, n, .inr f)) => es.set p (.inl (t, n, .inr (vp_updL f k x)))
  | _ => es
def sI (es : PH) (p b : Nat) (v : Value) : PH := match es[p]? with
  | some (.inr (c, vs)) => es.set p (.inr (c, vs.set b v))
  | _ => es
theorem sA_at (es : PH) (p k : Nat) (x : Int32) (q : Nat) : (sA es p k x)[q]? = if q = p then (match es[p]? with
    | some (.inl (t, n, .inl f)) => some (.inl (t, n, .inl (upd f k x)))
    | z => z) else es[q]? := by
  unfold sA
  cases h : es[p]? with
  | none =>
    simp only
    split
    · rename_i hq; rw [hq, h]
    · rfl
  | some e =>
    have hlt : p < es.length := (List.getElem?_eq_some_iff.mp h).1
    rcases e with ⟨t, n, f | f⟩ | ⟨c, vs⟩
    · simp only
      rw [List.getElem?_set]
      by_cases hq : q = p
      · subst hq; simp [hlt]
      · rw [if_neg (fun hh => hq hh.symm), if_neg hq]
    · simp only
      split
      · rename_i hq; rw [hq, h]
      · rfl
    · simp only
      split
      · rename_i hq; rw [hq, h]
      · rfl
theorem sJ_at (es : PH) (p k : Nat) (x : Int64) (q : Nat) : (sJ es p k x)[q]? = if q = p then (match es[p]? with
    | some (.inl (t, n, .inr f)) => some (.inl (t, n, .inr (vp_updL f k x)))
    | z => z) else es[q]? := by
  unfold sJ
  cases h : es[p]? with
  | none =>
    simp only
    split
    · rename_i hq; rw [hq, h]
    · rfl
  | some e =>
    have hlt : p < es.length := (List.getElem?_eq_some_iff.mp h).1
    rcases e with ⟨t, n, f | f⟩ | ⟨c, vs⟩
    · simp only
      split
      · rename_i hq; rw [hq, h]
      · rfl
    · simp only
      rw [List.getElem?_set]
      by_cases hq : q = p
      · subst hq; simp [hlt]
      · rw [if_neg (fun hh => hq hh.symm), if_neg hq]
    · simp only
      split
      · rename_i hq; rw [hq, h]
      · rfl
theorem sI_at (es : PH) (p b : Nat) (v : Value) (q : Nat) : (sI es p b v)[q]? = if q = p then (match es[p]? with
    | some (.inr (c, vs)) => some (.inr (c, vs.set b v))
    | z => z) else es[q]? := by
  unfold sI
  cases h : es[p]? with
  | none =>
    simp only
    split
    · rename_i hq; rw [hq, h]
    · rfl
  | some e =>
    have hlt : p < es.length := (List.getElem?_eq_some_iff.mp h).1
    rcases e with ⟨t, n, f | f⟩ | ⟨c, vs⟩
    · simp only
      split
      · rename_i hq; rw [hq, h]
      · rfl
    · simp only
      split
      · rename_i hq; rw [hq, h]
      · rfl
    · simp only
      rw [List.getElem?_set]
      by_cases hq : q = p
      · subst hq; simp [hlt]
      · rw [if_neg (fun hh => hq hh.symm), if_neg hq]
/-! what is read behind a write -/
theorem gA_sA_ne {es : PH} {p k p' : Nat} {x : Int32} (h : p' ≠ p) : gA (sA es p k x) p' = gA es p' := by
  unfold gA; rw [sA_at, if_neg h]
theorem gA_sJ {es : PH} {p k p' : Nat} {x : Int64} : gA (sJ es p k x) p' = gA es p' := by
  unfold gA; rw [sJ_at]
  by_cases hp : p' = p
  · subst hp
    rw [if_pos rfl]
    cases h : es[p']? with
    | none => rfl
    | some e => rcases e with ⟨t, n, f | f⟩ | ⟨c, vs⟩ <;> rfl
  · rw [if_neg hp]
theorem gA_sI {es : PH} {p b p' : Nat} {v : Value} : gA (sI es p b v) p' = gA es p' := by
  unfold gA; rw [sI_at]
  by_cases hp : p' = p
  · subst hp
    rw [if_pos rfl]
    cases h : es[p']? with
    | none => rfl
    | some e => rcases e with ⟨t, n, f | f⟩ | ⟨c, vs⟩ <;> rfl
  · rw [if_neg hp]
theorem gJ_sA {es : PH} {p k p' : Nat} {x : Int32} : gJ (sA es p k x) p' = gJ es p' := by
  unfold gJ; rw [sA_at]
  by_cases hp : p' = p
  · subst hp
    rw [if_pos rfl]
    cases h : es[p']? with
    | none => rfl
    | some e => rcases e with ⟨t, n, f | f⟩ | ⟨c, vs⟩ <;> rfl
  · rw [if_neg hp]
theorem gJ_sI {es : PH} {p b p' : Nat} {v : Value} : gJ (sI es p b v) p' = gJ es p' := by
  unfold gJ; rw [sI_at]
  by_cases hp : p' = p
  · subst hp
    rw [if_pos rfl]
    cases h : es[p']? with
    | none => rfl
    | some e => rcases e with ⟨t, n, f | f⟩ | ⟨c, vs⟩ <;> rfl
  · rw [if_neg hp]
theorem gJ_sJ_ne {es : PH} {p k p' : Nat} {x : Int64} (h : p' ≠ p) : gJ (sJ es p k x) p' = gJ es p' := by
  unfold gJ; rw [sJ_at, if_neg h]
theorem gFd_sA {es : PH} {p k p' b : Nat} {x : Int32} : gFd (sA es p k x) p' b = gFd es p' b := by
  unfold gFd; rw [sA_at]
  by_cases hp : p' = p
  · subst hp
    rw [if_pos rfl]
    cases h : es[p']? with
    | none => rfl
    | some e => rcases e with ⟨t, n, f | f⟩ | ⟨c, vs⟩ <;> rfl
  · rw [if_neg hp]
theorem gFd_sJ {es : PH} {p k p' b : Nat} {x : Int64} : gFd (sJ es p k x) p' b = gFd es p' b := by
  unfold gFd; rw [sJ_at]
  by_cases hp : p' = p
  · subst hp
    rw [if_pos rfl]
    cases h : es[p']? with
    | none => rfl
    | some e => rcases e with ⟨t, n, f | f⟩ | ⟨c, vs⟩ <;> rfl
  · rw [if_neg hp]
theorem gFd_sI_ne {es : PH} {p b p' b' : Nat} {v : Value} (h : p' ≠ p ∨ b' ≠ b) : gFd (sI es p b v) p' b' = gFd es p' b' := by
  unfold gFd; rw [sI_at]
  by_cases hp : p' = p
  · subst hp
    rw [if_pos rfl]
    cases he : es[p']? with
    | none => rfl
    | some e =>
      rcases e with ⟨t, n, f | f⟩ | ⟨c, vs⟩
      · rfl
      · rfl
      · simp only [List.getD_eq_getElem?_getD]
        rw [List.getElem?_set_ne (fun hh => by rcases h with h | h; exact h rfl; exact h hh.symm)]
  · rw [if_neg hp]
theorem gI_sA {es : PH} {p k p' b : Nat} {x : Int32} : gI (sA es p k x) p' b = gI es p' b := by unfold gI; rw [gFd_sA]
theorem gI_sJ {es : PH} {p k p' b : Nat} {x : Int64} : gI (sJ es p k x) p' b = gI es p' b := by unfold gI; rw [gFd_sJ]
theorem gI_sI_ne {es : PH} {p b p' b' : Nat} {v : Value} (h : p' ≠ p ∨ b' ≠ b) : gI (sI es p b v) p' b' = gI es p' b' := by unfold gI; rw [gFd_sI_ne h]
/-! the shape -/
theorem tT0_at {p : Nat} {t : tE} (h : tT[p]? = some t) : tT0[p]? = some (tWide t) := by
  unfold tT0; rw [List.getElem?_map, h]; rfl
theorem sh_len {es : PH} (h : sh es) : tT.length ≤ es.length := by
  have := h.1
  unfold tT0 at this
  rwa [List.length_map] at this
theorem fsOK_wide : ∀ {ss : List tS} {vs : List Value}, fsOK ss vs → fsOK (ss.map (fun s => match s with
    | (0, _, _) => (0, iLO, iHI)
    | s => s)) vs
  | [], [], _ => trivial
  | s :: r, v :: u, h => by
    refine ⟨?_, fsOK_wide h.2⟩
    have h1 := h.1
    obtain ⟨k, lo, hi⟩ := s
    match k with
    | 0 => obtain ⟨x, rfl, -⟩ := h1; exact ⟨x, rfl, i32_rng x⟩
    | 1 => exact h1
    | 2 => exact h1
    | k + 3 => exact h1
  | [], _ :: _, h => h.elim
  | _ :: _, [], h => h.elim
theorem eOK_wide {t : tE} {e : PE} (h : eOK t e) : eOK (tWide t) e := by
  rcases t with ⟨t, n, sp⟩ | ⟨c, ss⟩
  · rcases e with ⟨t', n', g | g⟩ | ⟨c', vs⟩
    · obtain ⟨h1, h2, h3, h4⟩ := h; exact ⟨h1, h2, h3, fun k hk => i32_rng _⟩
    · exact h
    · exact h.elim
  · rcases e with ⟨t', n', g | g⟩ | ⟨c', vs⟩
    · exact h.elim
    · exact h.elim
    · exact ⟨h.1, fsOK_wide h.2⟩
theorem sh_of {es : PH} (h : hOK tT es) : sh es := by
  refine ⟨by unfold tT0; rw [List.length_map]; exact h.1, fun i t e ht he => ?_⟩
  unfold tT0 at ht
  rw [List.getElem?_map] at ht
  cases ht0 : tT[i]? with
  | none => rw [ht0] at ht; cases ht
  | some t0 =>
    rw [ht0] at ht
    cases ht
    exact eOK_wide (h.2 i t0 e ht0 he)
/-- a row of ints, bytes or booleans at a place -/
theorem sh_arr {es : PH} (h : sh es) {p t n : Nat} {sp : Nat → Int × Int} (hp : tT[p]? = some (.inl (t, n, sp))) (ht : t ≠ 1) : es[p]? = some (.inl (t, n, .inl (gA es p))) := by
  obtain ⟨z, hz, hz2⟩ := hOK_get h (tT0_at hp)
  obtain ⟨f, rfl, -⟩ := eOK_inl hz2 ht
  unfold gA
  rw [hz]
theorem sh_arrL {es : PH} (h : sh es) {p n : Nat} {sp : Nat → Int × Int} (hp : tT[p]? = some (.inl (1, n, sp))) : es[p]? = some (.inl (1, n, .inr (gJ es p))) := by
  obtain ⟨z, hz, hz2⟩ := hOK_get h (tT0_at hp)
  obtain ⟨f, rfl⟩ := eOK_inl1 hz2
  unfold gJ
  rw [hz]
theorem gA_sA {es : PH} (h : sh es) {p t n k : Nat} {sp : Nat → Int × Int} {x : Int32} (hp : tT[p]? = some (.inl (t, n, sp))) (ht : t ≠ 1) : gA (sA es p k x) p = upd (gA es p) k x := by
  have h1 := sh_arr h hp ht
  have h2 := sA_at es p k x p
  rw [if_pos rfl, h1] at h2
  simp only at h2
  conv => lhs; unfold gA
  rw [h2]
theorem gJ_sJ {es : PH} (h : sh es) {p n k : Nat} {sp : Nat → Int × Int} {x : Int64} (hp : tT[p]? = some (.inl (1, n, sp))) : gJ (sJ es p k x) p = vp_updL (gJ es p) k x := by
  have h1 := sh_arrL h hp
  have h2 := sJ_at es p k x p
  rw [if_pos rfl, h1] at h2
  simp only at h2
  conv => lhs; unfold gJ
  rw [h2]
/-- an object at a place -/
theorem sh_obj {es : PH} (h : sh es) {p c : Nat} {ss : List tS} (hp : tT[p]? = some (.inr (c, ss))) : ∃ vs, es[p]? = some (.inr (c, vs)) ∧ vs.length = ss.length ∧ ∀ b, gFd es p b = vs.getD b (.int 0) := by
  obtain ⟨z, hz, hz2⟩ := hOK_get h (tT0_at hp)
  obtain ⟨vs, rfl, hvs⟩ := eOK_inr hz2
  refine ⟨vs, hz, by rw [← fsOK_len hvs, List.length_map], fun b => ?_⟩
  unfold gFd; rw [hz]
theorem sh_int {es : PH} (h : sh es) {p c b : Nat} {ss : List tS} {lo hi : Int} (hp : tT[p]? = some (.inr (c, ss))) (hb : ss[b]? = some (0, lo, hi)) : ∃ vs, es[p]? = some (.inr (c, vs)) ∧ vs[b]? = some (.int (gI es p b)) := by
  obtain ⟨z, hz, hz2⟩ := hOK_get h (tT0_at hp)
  obtain ⟨vs, rfl, hvs⟩ := eOK_inr hz2
  obtain ⟨v, hv, x, rfl, -⟩ := fsOK_get hvs (i := b) (s := (0, iLO, iHI)) (by rw [List.getElem?_map, hb]; rfl)
  refine ⟨vs, hz, ?_⟩
  rw [hv]
  unfold gI gFd
  rw [hz]
  simp only [List.getD_eq_getElem?_getD, hv, Option.getD_some]
theorem sh_ref {es : PH} (h : sh es) {p c b : Nat} {ss : List tS} {k hi : Int} (hp : tT[p]? = some (.inr (c, ss))) (hb : ss[b]? = some (1, k, hi)) : ∃ vs, es[p]? = some (.inr (c, vs)) ∧ vs[b]? = some (.ref k.toNat) := by
  obtain ⟨z, hz, hz2⟩ := hOK_get h (tT0_at hp)
  obtain ⟨vs, rfl, hvs⟩ := eOK_inr hz2
  obtain ⟨v, hv, kk, rfl, hk⟩ := fsOK_get hvs (i := b) (s := (1, k, hi)) (by rw [List.getElem?_map, hb]; rfl)
  refine ⟨vs, hz, ?_⟩
  have hk' : (kk : Int) = k := hk
  rw [hv, ← hk', Int.toNat_natCast]
theorem sh_sA {es : PH} (h : sh es) {p k : Nat} {x : Int32} : sh (sA es p k x) := by
  unfold sA
  split
  · rename_i t n f he
    refine hOK_set h (fun tt htt => ?_)
    have h1 := h.2 p tt _ htt he
    rcases tt with ⟨t', n', sp⟩ | ⟨c, ss⟩
    · obtain ⟨h2, h3, h4, h5⟩ := h1
      refine ⟨h2, h3, h4, fun k' hk' => ?_⟩
      unfold tT0 at htt
      rw [List.getElem?_map] at htt
      cases ht0 : tT[p]? with
      | none => rw [ht0] at htt; cases htt
      | some t0 =>
        rw [ht0] at htt
        rcases t0 with ⟨t2, n2, sp2⟩ | ⟨c2, ss2⟩
        · cases htt; exact i32_rng _
        · cases htt
    · exact h1.elim
  · exact h
theorem sh_sJ {es : PH} (h : sh es) {p k : Nat} {x : Int64} : sh (sJ es p k x) := by
  unfold sJ
  split
  · rename_i t n f he
    refine hOK_set h (fun tt htt => ?_)
    have h1 := h.2 p tt _ htt he
    rcases tt with ⟨t', n', sp⟩ | ⟨c, ss⟩
    · exact h1
    · exact h1.elim
  · exact h
theorem sh_sI {es : PH} (h : sh es) {p c b : Nat} {ss : List tS} {lo hi : Int} {x : Int32} (hp : tT[p]? = some (.inr (c, ss))) (hb : ss[b]? = some (0, lo, hi)) : sh (sI es p b (.int x)) := by
  unfold sI
  split
  · rename_i c' vs he
    refine hOK_set h (fun tt htt => ?_)
    have h1 := h.2 p tt _ htt he
    rw [tT0_at hp] at htt
    cases htt
    exact ⟨h1.1, fsOK_set h1.2 b (s := (0, iLO, iHI)) (by rw [List.getElem?_map, hb]; rfl) ⟨x, rfl, i32_rng x⟩⟩
  · exact h
theorem gI_sI {es : PH} (h : sh es) {p c b : Nat} {ss : List tS} {x : Int32} (hp : tT[p]? = some (.inr (c, ss))) (hb : b < ss.length) : gI (sI es p b (.int x)) p b = x := by
  obtain ⟨vs, h1, h2, -⟩ := sh_obj h hp
  have h3 := sI_at es p b (.int x) p
  rw [if_pos rfl, h1] at h3
  simp only at h3
  unfold gI gFd
  rw [h3]
  simp [List.getD_eq_getElem?_getD, h2, hb]
/-! ints as integers -/
def zI (a : Int) : Int32 := Int32.ofInt a
def i32 (a : Int) : Prop := iLO ≤ a ∧ a ≤ iHI
theorem zI_toInt {a : Int} (h : i32 a) : (zI a).toInt = a := by
  unfold zI
  rw [Int32.toInt_ofInt]
  exact bm32 h.1 h.2
theorem zI_id (x : Int32) : zI x.toInt = x := Int32.ofInt_toInt x
theorem zI_add (a b : Int) : zI a + zI b = zI (a + b) := (Int32.ofInt_add a b).symm
theorem zI_sub (a b : Int) : zI a - zI b = zI (a - b) := (Int32.ofInt_sub a b).symm
theorem zI_mul (a b : Int) : zI a * zI b = zI (a * b) := (Int32.ofInt_mul a b).symm
theorem zI_div {a b : Int} (ha : i32 a) (hb : i32 b) (h0 : 0 < b) : zI a / zI b = zI (a.tdiv b) := by
  apply Int32.toInt_inj.mp
  rw [i32_div (by rw [zI_toInt hb]; exact h0), zI_toInt ha, zI_toInt hb, zI_toInt]
  have h2 := tdiv_within (a := a) h0
  unfold i32 at *
  unfold iLO iHI at *
  rcases Int.le_total 0 a with h | h
  · have h3 := h2.1 h; omega
  · have h3 := h2.2 h; omega
theorem zI_rem {a b : Int} (ha : i32 a) (hb : i32 b) (h0 : 0 < b) : zI a - zI a / zI b * zI b = zI (a.tmod b) := by
  apply Int32.toInt_inj.mp
  rw [i32_rem (by rw [zI_toInt hb]; exact h0), zI_toInt ha, zI_toInt hb, zI_toInt]
  have h1 : a.tmod b < b := Int.tmod_lt_of_pos _ h0
  have h2 : -b < a.tmod b := by
    have := Int.tmod_lt_of_pos (-a) h0
    rw [Int.neg_tmod] at this; omega
  unfold i32 at *
  unfold iLO iHI at *
  omega
def zC (c : Jvm.ClassFile.Cond) (a b : Int) : Prop := cR c (a - b)
theorem zC_cmp {c : Jvm.ClassFile.Cond} {a b : Int} (ha : i32 a) (hb : i32 b) : pCmp c (zI a) (zI b) = true ↔ zC c a b := by
  rw [pCmp_iff, zI_toInt ha, zI_toInt hb]; rfl
/-! the code -/
def iRow (j pc : Nat) : Option (Instr × Nat × Nat × Nat × Option FieldType) := match pM[j]? with
  | none => none
  | some row => match pAt row.2.2.2.2.2.2 pc with
    | none => none
    | some (ins, _, q, a, b) => some (ins, q, a, b, row.2.2.2.1)
theorem iRow_at {j pc : Nat} {ins : Instr} {q a b : Nat} {ret : Option FieldType} (h : iRow j pc = some (ins, q, a, b, ret)) : ∃ row len, pM[j]? = some row ∧ pAt row.2.2.2.2.2.2 pc = some (ins, len, q, a, b) ∧ row.2.2.2.1 = ret := by
  unfold iRow at h
  split at h
  · cases h
  · rename_i row hrow
    split at h
    · cases h
    · rename_i hat
      simp only [Option.some.injEq, Prod.mk.injEq] at h
      obtain ⟨rfl, rfl, rfl, rfl, rfl⟩ := h
      exact ⟨row, _, hrow, hat, rfl⟩
section
variable {O : pOut} {d j kc ks pc q a b : Nat} {Q : pRes → Prop} {L : PL} {s : List Value} {es : PH} {ins : Instr} {ret : Option FieldType} {r : pSt}
theorem x0 (hi : iRow j pc = some (ins, q, a, b, ret)) (h : pS0 ins pc L s es = some r) (K : aW O d j kc ks Q r) : aW O d j kc ks Q (pc, L, s, es) := by
  obtain ⟨row, len, h1, h2, -⟩ := iRow_at hi
  exact aW_go (pAct_0 h1 h2 h) (fun h => by cases h) K
theorem x1 (hi : iRow j pc = some (ins, q, a, b, ret)) (h0 : pS0 ins pc L s es = none) (h : ∀ ini, pS1 O ini ins q a b pc L s es = some r) (hv : pIsInv ins = false) (K : aW O d j kc ks Q r) : aW O d j kc ks Q (pc, L, s, es) := by
  obtain ⟨row, len, h1, h2, -⟩ := iRow_at hi
  refine aW_go (c1 := 0) (k1 := 0) (nd := false) ?_ (fun h => by cases h) K
  unfold pAct
  simp only [h1, h2, h0, h]
  rw [if_neg (fun hh => by rw [hv] at hh; cases hh.1)]
theorem x_iadd {x y : Int} (hi : iRow j pc = some (.iadd, q, a, b, ret)) (K : aW O d j kc ks Q (pc + 1, L, .int (zI (x + y)) :: s, es)) : aW O d j kc ks Q (pc, L, .int (zI y) :: .int (zI x) :: s, es) :=
  x0 hi (by simp only [pS0, pBin, zI_add]) K
theorem x_isub {x y : Int} (hi : iRow j pc = some (.isub, q, a, b, ret)) (K : aW O d j kc ks Q (pc + 1, L, .int (zI (x - y)) :: s, es)) : aW O d j kc ks Q (pc, L, .int (zI y) :: .int (zI x) :: s, es) :=
  x0 hi (by simp only [pS0, pBin, zI_sub]) K
theorem x_imul {x y : Int} (hi : iRow j pc = some (.imul, q, a, b, ret)) (K : aW O d j kc ks Q (pc + 1, L, .int (zI (x * y)) :: s, es)) : aW O d j kc ks Q (pc, L, .int (zI y) :: .int (zI x) :: s, es) :=
  x0 hi (by simp only [pS0, pBin, zI_mul]) K
theorem zI_ne0 {y : Int} (hy : i32 y) (h : 0 < y) : ¬ zI y = 0 := fun hh => by
  have := congrArg Int32.toInt hh
  rw [zI_toInt hy, Int32.toInt_zero] at this
  omega
theorem x_idiv {x y : Int} (hi : iRow j pc = some (.idiv, q, a, b, ret)) (hx : i32 x) (hy : i32 y) (h0 : 0 < y) (K : aW O d j kc ks Q (pc + 1, L, .int (zI (x.tdiv y)) :: s, es)) : aW O d j kc ks Q (pc, L, .int (zI y) :: .int (zI x) :: s, es) :=
  x0 hi (by simp only [pS0, pBin, zI_ne0 hy h0, if_false, zI_div hx hy h0]) K
theorem x_irem {x y : Int} (hi : iRow j pc = some (.irem, q, a, b, ret)) (hx : i32 x) (hy : i32 y) (h0 : 0 < y) (K : aW O d j kc ks Q (pc + 1, L, .int (zI (x.tmod y)) :: s, es)) : aW O d j kc ks Q (pc, L, .int (zI y) :: .int (zI x) :: s, es) :=
  x0 hi (by simp only [pS0, pBin, zI_ne0 hy h0, if_false, zI_rem hx hy h0]) K
theorem x_iinc {i : Nat} {n x : Int} (hi : iRow j pc = some (.iinc i n, q, a, b, ret)) (hl : pGetL L i = some (.int (zI x))) (hn : i < L.length) (K : aW O d j kc ks Q (pc + 3, pSto1 L i (.int (zI (x + n))), s, es)) : aW O d j kc ks Q (pc, L, s, es) :=
  x0 hi (by simp only [pS0, hl, hn, if_true]; rw [show Int32.ofInt n = zI n from rfl, zI_add]) K
/-- a branch on one int -/
theorem x_ifT {c : Jvm.ClassFile.Cond} {off : Int} {t : Nat} {x : Int} (hi : iRow j pc = some (.ifCond c off, q, a, b, ret)) (hx : i32 x) (ht : pTgt pc off = some t) (h : zC c x 0) (K : aW O d j kc ks Q (t, L, s, es)) : aW O d j kc ks Q (pc, L, .int (zI x) :: s, es) := by
  refine x0 hi ?_ K
  have h1 : pCmp c (zI x) 0 = true := (zC_cmp hx (b := 0) (by unfold i32 iLO iHI; omega)).mpr h
  simp only [pS0, pBr, ht, h1, if_true]
theorem x_ifF {c : Jvm.ClassFile.Cond} {off : Int} {t : Nat} {x : Int} (hi : iRow j pc = some (.ifCond c off, q, a, b, ret)) (hx : i32 x) (ht : pTgt pc off = some t) (h : ¬ zC c x 0) (K : aW O d j kc ks Q (pc + 3, L, s, es)) : aW O d j kc ks Q (pc, L, .int (zI x) :: s, es) := by
  refine x0 hi ?_ K
  have h1 : ¬ pCmp c (zI x) 0 = true := fun hh => h ((zC_cmp hx (b := 0) (by unfold i32 iLO iHI; omega)).mp hh)
  simp only [pS0, pBr, ht, h1]
  rfl
theorem x_cmpT {c : Jvm.ClassFile.Cond} {off : Int} {t : Nat} {x y : Int} (hi : iRow j pc = some (.if_icmp c off, q, a, b, ret)) (hx : i32 x) (hy : i32 y) (ht : pTgt pc off = some t) (h : zC c x y) (K : aW O d j kc ks Q (t, L, s, es)) : aW O d j kc ks Q (pc, L, .int (zI y) :: .int (zI x) :: s, es) := by
  refine x0 hi ?_ K
  have h1 : pCmp c (zI x) (zI y) = true := (zC_cmp hx hy).mpr h
  simp only [pS0, pBr, ht, h1, if_true]
theorem x_cmpF {c : Jvm.ClassFile.Cond} {off : Int} {t : Nat} {x y : Int} (hi : iRow j pc = some (.if_icmp c off, q, a, b, ret)) (hx : i32 x) (hy : i32 y) (ht : pTgt pc off = some t) (h : ¬ zC c x y) (K : aW O d j kc ks Q (pc + 3, L, s, es)) : aW O d j kc ks Q (pc, L, .int (zI y) :: .int (zI x) :: s, es) := by
  refine x0 hi ?_ K
  have h1 : ¬ pCmp c (zI x) (zI y) = true := fun hh => h ((zC_cmp hx hy).mp hh)
  simp only [pS0, pBr, ht, h1]
  rfl
/-- fields -/
theorem x_geti {f p : Nat} {c : Nat} {ss : List tS} {lo hi : Int} (hi' : iRow j pc = some (.getfield f, q, c, b, ret)) (hs : sh es) (hp : tT[p]? = some (.inr (c, ss))) (hb : ss[b]? = some (0, lo, hi)) (K : aW O d j kc ks Q (pc + 3, L, .int (zI (gI es p b).toInt) :: s, es)) : aW O d j kc ks Q (pc, L, .ref (64 + p) :: s, es) := by
  obtain ⟨vs, h1, h2⟩ := sh_int hs hp hb
  rw [zI_id] at K
  refine x1 hi' rfl (fun ini => ?_) rfl K
  simp only [pS1]
  have h64 : ¬ 64 + p < 64 := by omega
  rw [if_neg h64, show 64 + p - 64 = p by omega, h1]
  simp only [if_true, h2]
theorem x_getr {f p : Nat} {c : Nat} {ss : List tS} {k hi : Int} (hi' : iRow j pc = some (.getfield f, q, c, b, ret)) (hs : sh es) (hp : tT[p]? = some (.inr (c, ss))) (hb : ss[b]? = some (1, k, hi)) (K : aW O d j kc ks Q (pc + 3, L, .ref k.toNat :: s, es)) : aW O d j kc ks Q (pc, L, .ref (64 + p) :: s, es) := by
  obtain ⟨vs, h1, h2⟩ := sh_ref hs hp hb
  refine x1 hi' rfl (fun ini => ?_) rfl K
  simp only [pS1]
  have h64 : ¬ 64 + p < 64 := by omega
  rw [if_neg h64, show 64 + p - 64 = p by omega, h1]
  simp only [if_true, h2]
theorem x_puti {f p : Nat} {c : Nat} {ss : List tS} {lo hi : Int} {x : Int} {ty : FieldType} (hi' : iRow j pc = some (.putfield f, q, c, b, ret)) (hs : sh es) (hp : tT[p]? = some (.inr (c, ss))) (hb : ss[b]? = some (0, lo, hi)) (hty : pFty c b = some (ty, false)) (hx : ty = .int ∨ (ty = .boolean ∧ (x = 0 ∨ x = 1))) (K : aW O d j kc ks Q (pc + 3, L, s, sI es p b (.int (zI x)))) : aW O d j kc ks Q (pc, L, .int (zI x) :: .ref (64 + p) :: s, es) := by
  obtain ⟨vs, h1, h2⟩ := sh_int hs hp hb
  have hlt := (List.getElem?_eq_some_iff.mp h2).1
  have hfit : pFit ty (.int (zI x)) = true := by
    rcases hx with rfl | ⟨rfl, rfl | rfl⟩ <;> rfl
  refine x1 hi' rfl (fun ini => ?_) rfl K
  simp only [pS1]
  have h64 : ¬ 64 + p < 64 := by omega
  rw [if_neg h64, show 64 + p - 64 = p by omega, h1]
  simp only [if_true, hty, hfit, hlt, decide_true, Bool.not_false, Bool.true_or, Bool.and_self]
  unfold sI
  rw [h1]
/-- rows -/
theorem x_iald {p n : Nat} {sp : Nat → Int × Int} {x : Int} (hi' : iRow j pc = some (.iaload, q, a, b, ret)) (hs : sh es) (hp : tT[p]? = some (.inl (0, n, sp))) (hx : i32 x) (h0 : 0 ≤ x) (h1 : x < n) (K : aW O d j kc ks Q (pc + 1, L, .int (zI (gA es p x.toNat).toInt) :: s, es)) : aW O d j kc ks Q (pc, L, .int (zI x) :: .ref (64 + p) :: s, es) := by
  have h2 := sh_arr hs hp (by decide)
  obtain ⟨c1, c2⟩ := pIn_of (i := zI x) (n := n) (by rw [zI_toInt hx]; exact h0) (by rw [zI_toInt hx]; exact h1)
  have c3 : (zI x).toNatClampNeg = x.toNat := by
    rw [zI_toInt hx] at c2; omega
  rw [zI_id] at K
  refine x1 hi' rfl (fun ini => ?_) rfl K
  simp only [pS1, pArrI]
  have h64 : ¬ 64 + p < 64 := by omega
  rw [if_neg h64, show 64 + p - 64 = p by omega, h2]
  simp only [c1, if_true, c3]
theorem x_bald {p t n : Nat} {sp : Nat → Int × Int} {x : Int} (hi' : iRow j pc = some (.baload, q, a, b, ret)) (hs : sh es) (hp : tT[p]? = some (.inl (t, n, sp))) (ht : t = 2 ∨ t = 3) (hx : i32 x) (h0 : 0 ≤ x) (h1 : x < n) (K : aW O d j kc ks Q (pc + 1, L, .int (zI (gA es p x.toNat).toInt) :: s, es)) : aW O d j kc ks Q (pc, L, .int (zI x) :: .ref (64 + p) :: s, es) := by
  have h2 := sh_arr hs hp (by omega)
  obtain ⟨c1, c2⟩ := pIn_of (i := zI x) (n := n) (by rw [zI_toInt hx]; exact h0) (by rw [zI_toInt hx]; exact h1)
  have c3 : (zI x).toNatClampNeg = x.toNat := by
    rw [zI_toInt hx] at c2; omega
  rw [zI_id] at K
  refine x1 hi' rfl (fun ini => ?_) rfl K
  simp only [pS1]
  have h64 : ¬ 64 + p < 64 := by omega
  rw [if_neg h64, show 64 + p - 64 = p by omega, h2]
  simp only [c1, c3, ht, and_self, if_true]
theorem x_iast {p n : Nat} {sp : Nat → Int × Int} {x v : Int} (hi' : iRow j pc = some (.iastore, q, a, b, ret)) (hs : sh es) (hp : tT[p]? = some (.inl (0, n, sp))) (hx : i32 x) (h0 : 0 ≤ x) (h1 : x < n) (K : aW O d j kc ks Q (pc + 1, L, s, sA es p x.toNat (zI v))) : aW O d j kc ks Q (pc, L, .int (zI v) :: .int (zI x) :: .ref (64 + p) :: s, es) := by
  have h2 := sh_arr hs hp (by decide)
  obtain ⟨c1, c2⟩ := pIn_of (i := zI x) (n := n) (by rw [zI_toInt hx]; exact h0) (by rw [zI_toInt hx]; exact h1)
  have c3 : (zI x).toNatClampNeg = x.toNat := by
    rw [zI_toInt hx] at c2; omega
  refine x1 hi' rfl (fun ini => ?_) rfl K
  simp only [pS1]
  have h64 : ¬ 64 + p < 64 := by omega
  rw [if_neg h64, show 64 + p - 64 = p by omega, h2]
  simp only [c1, if_true, c3]
  unfold sA
  rw [h2]
/-- calls and ends -/
theorem x_call {ra : pMrow} {vs rs : List Value} (hi : iRow j pc = some (ins, q, a, b, ret)) (h0 : pS0 ins pc L s es = none) (h1 : ∀ ini, pS1 O ini ins q a b pc L s es = none) (h2 : pS2 ins a b pc L s es = none) (h3 : pS3 ins a b pc L s es = none) (h4 : pFin ins s ret = none) (h5 : pIsT ins b s = false) (hra : pM[a]? = some ra) (hc : pCall ins a b ra s es = some (vs, rs)) (K : aW O d a kc ks (aK O (d + 1) j (pc, L, s, es) rs (pIsV ins b) Q) (0, pEntry vs ra.2.2.1, [], es)) : aW O (d + 1) j kc ks Q (pc, L, s, es) := by
  obtain ⟨row, len, r1, r2, r3⟩ := iRow_at hi
  subst r3
  exact aW_call (pAct_call r1 r2 h0 (h1 _) h2 h3 h4 h5 hra hc) K
theorem x_ret {v : Option Value} (hi : iRow j pc = some (ins, q, a, b, ret)) (h0 : pS0 ins pc L s es = none) (h1 : ∀ ini, pS1 O ini ins q a b pc L s es = none) (h2 : pS2 ins a b pc L s es = none) (h3 : pS3 ins a b pc L s es = none) (h4 : pFin ins s ret = some v) (K : Q (.inl v, es, kc, ks)) : aW O d j kc ks Q (pc, L, s, es) := by
  obtain ⟨row, len, r1, r2, r3⟩ := iRow_at hi
  subst r3
  exact aW_fin (pAct_fin r1 r2 h0 (h1 _) h2 h3 h4) K
theorem x_idivn {x y : Int} (hi : iRow j pc = some (.idiv, q, a, b, ret)) (hn : 0 ≤ x) (hx : i32 x) (hy : i32 y) (h0 : 0 < y) (K : aW O d j kc ks Q (pc + 1, L, .int (zI (x / y)) :: s, es)) : aW O d j kc ks Q (pc, L, .int (zI y) :: .int (zI x) :: s, es) := by
  rw [← Int.tdiv_eq_ediv_of_nonneg hn] at K
  exact x_idiv hi hx hy h0 K
theorem x_iremn {x y : Int} (hi : iRow j pc = some (.irem, q, a, b, ret)) (hn : 0 ≤ x) (hx : i32 x) (hy : i32 y) (h0 : 0 < y) (K : aW O d j kc ks Q (pc + 1, L, .int (zI (x % y)) :: s, es)) : aW O d j kc ks Q (pc, L, .int (zI y) :: .int (zI x) :: s, es) := by
  rw [← Int.tmod_eq_emod_of_nonneg hn] at K
  exact x_irem hi hx hy h0 K
theorem x_op {x y : Int} {w : Int32} (hi : iRow j pc = some (ins, q, a, b, ret)) (h : pBin ins (zI x) (zI y) = some w) (h2 : pS0 ins pc L (.int (zI y) :: .int (zI x) :: s) es = (match pBin ins (zI x) (zI y) with
    | some v => some (pc + 1, L, .int v :: s, es)
    | none => none)) (K : aW O d j kc ks Q (pc + 1, L, .int (zI w.toInt) :: s, es)) : aW O d j kc ks Q (pc, L, .int (zI y) :: .int (zI x) :: s, es) := by
  rw [zI_id] at K
  exact x0 hi (by rw [h2, h]) K
theorem x_s3 (hi : iRow j pc = some (ins, q, a, b, ret)) (h0 : pS0 ins pc L s es = none) (h1 : ∀ ini, pS1 O ini ins q a b pc L s es = none) (h2 : pS2 ins a b pc L s es = none) (h3 : pS3 ins a b pc L s es = some r) (hd : 0 < d) (K : aW O d j kc ks Q r) : aW O d j kc ks Q (pc, L, s, es) := by
  obtain ⟨row, len, r1, r2, r3⟩ := iRow_at hi
  refine aW_go (c1 := 0) (k1 := 0) (nd := true) ?_ (fun _ => hd) K
  unfold pAct
  simp only [r1, r2, h0, h1, h2, h3]
theorem zI_lt {x y : Int} (hx : i32 x) (hy : i32 y) : zI x < zI y ↔ x < y := by
  rw [Int32.lt_iff_toInt_lt, zI_toInt hx, zI_toInt hy]
theorem x_min {x y : Int} {ix : Nat} (hi : iRow j pc = some (.invokestatic ix, q, 21, 0, ret)) (hx : i32 x) (hy : i32 y) (hc : pCat s ≤ 40) (K : aW O (d + 1) j kc ks Q (pc + 3, L, .int (zI (min x y)) :: s, es)) : aW O (d + 1) j kc ks Q (pc, L, .int (zI y) :: .int (zI x) :: s, es) := by
  refine x_s3 hi rfl (fun _ => rfl) rfl ?_ (Nat.succ_pos d) K
  have h40 : ¬ 40 < pCat s := by omega
  simp only [pS3, if_true]
  rw [if_neg h40]
  have e1 : (if zI y < zI x then zI y else zI x) = zI (min x y) := by
    by_cases h : y < x
    · rw [if_pos ((zI_lt hy hx).mpr h), Int.min_eq_right (by omega)]
    · rw [if_neg (fun hh => h ((zI_lt hy hx).mp hh)), Int.min_eq_left (by omega)]
  rw [e1]
theorem x_max {x y : Int} {ix : Nat} (hi : iRow j pc = some (.invokestatic ix, q, 30, 0, ret)) (hx : i32 x) (hy : i32 y) (hc : pCat s ≤ 40) (K : aW O (d + 1) j kc ks Q (pc + 3, L, .int (zI (max x y)) :: s, es)) : aW O (d + 1) j kc ks Q (pc, L, .int (zI y) :: .int (zI x) :: s, es) := by
  refine x_s3 hi rfl (fun _ => rfl) rfl ?_ (Nat.succ_pos d) K
  have h40 : ¬ 40 < pCat s := by omega
  simp only [pS3, if_true]
  rw [if_neg h40]
  have e1 : (if zI x < zI y then zI y else zI x) = zI (max x y) := by
    by_cases h : x < y
    · rw [if_pos ((zI_lt hx hy).mpr h), Int.max_eq_right (by omega)]
    · rw [if_neg (fun hh => h ((zI_lt hx hy).mp hh)), Int.max_eq_left (by omega)]
  rw [e1]
theorem x_abs {x : Int} {ix : Nat} (hi : iRow j pc = some (.invokestatic ix, q, 256, 0, ret)) (hx : i32 x) (hc : pCat s ≤ 40) (K : aW O (d + 1) j kc ks Q (pc + 3, L, .int (zI (if 0 ≤ x then x else -x)) :: s, es)) : aW O (d + 1) j kc ks Q (pc, L, .int (zI x) :: s, es) := by
  refine x_s3 hi rfl (fun _ => rfl) rfl ?_ (Nat.succ_pos d) K
  have h40 : ¬ 40 < pCat s := by omega
  simp only [pS3, if_true]
  rw [if_neg h40]
  have e1 : (if (0 : Int32) ≤ zI x then zI x else 0 - zI x) = zI (if 0 ≤ x then x else -x) := by
    have h0 : (0 : Int32) ≤ zI x ↔ 0 ≤ x := by rw [Int32.le_iff_toInt_le, zI_toInt hx, Int32.toInt_zero]
    by_cases h : 0 ≤ x
    · rw [if_pos (h0.mpr h), if_pos h]
    · rw [if_neg (fun hh => h (h0.mp hh)), if_neg h]
      have := zI_sub 0 x
      rw [show zI 0 = (0 : Int32) from rfl] at this
      rw [this, Int.zero_sub]
  rw [e1]
theorem x_alen {p t n : Nat} {sp : Nat → Int × Int} (hi' : iRow j pc = some (.arraylength, q, a, b, ret)) (hs : sh es) (hp : tT[p]? = some (.inl (t, n, sp))) (K : aW O d j kc ks Q (pc + 1, L, .int (zI n) :: s, es)) : aW O d j kc ks Q (pc, L, .ref (64 + p) :: s, es) := by
  have hz : ∃ w, es[p]? = some (.inl (t, n, w)) := by
    by_cases ht : t = 1
    · subst ht; exact ⟨_, sh_arrL hs hp⟩
    · exact ⟨_, sh_arr hs hp ht⟩
  obtain ⟨w, hw⟩ := hz
  refine x1 hi' rfl (fun ini => ?_) rfl K
  simp only [pS1, pLenA]
  have h64 : ¬ 64 + p < 64 := by omega
  rw [if_neg h64, show 64 + p - 64 = p by omega, hw]
  rfl
theorem x_bast3 {p n : Nat} {sp : Nat → Int × Int} {x v : Int} (hi' : iRow j pc = some (.bastore, q, a, b, ret)) (hs : sh es) (hp : tT[p]? = some (.inl (3, n, sp))) (hx : i32 x) (h0 : 0 ≤ x) (h1 : x < n) (hv : v = 0 ∨ v = 1) (K : aW O d j kc ks Q (pc + 1, L, s, sA es p x.toNat (zI v))) : aW O d j kc ks Q (pc, L, .int (zI v) :: .int (zI x) :: .ref (64 + p) :: s, es) := by
  have h2 := sh_arr hs hp (by decide)
  obtain ⟨c1, c2⟩ := pIn_of (i := zI x) (n := n) (by rw [zI_toInt hx]; exact h0) (by rw [zI_toInt hx]; exact h1)
  have c3 : (zI x).toNatClampNeg = x.toNat := by
    rw [zI_toInt hx] at c2; omega
  have c4 : vp_nar .boolean (zI v) = zI v := vp_nar_bool (by rcases hv with rfl | rfl <;> first | exact Or.inl rfl | exact Or.inr rfl)
  refine x1 hi' rfl (fun ini => ?_) rfl K
  simp only [pS1]
  have h64 : ¬ 64 + p < 64 := by omega
  rw [if_neg h64, show 64 + p - 64 = p by omega, h2]
  simp only [c1, if_true, c3, c4]
  unfold sA
  rw [h2]
theorem x_tsw {x dflt lo hi off : Int} {offs : Array Int} {t : Nat} (hi' : iRow j pc = some (.tableswitch dflt lo hi offs, q, a, b, ret)) (hx : i32 x) (hr : lo ≤ x ∧ x ≤ hi) (ho : offs[(x - lo).toNat]? = some off) (ht : pTgt pc off = some t) (K : aW O d j kc ks Q (t, L, s, es)) : aW O d j kc ks Q (pc, L, .int (zI x) :: s, es) := by
  refine x0 hi' ?_ K
  have hn : ¬ (x < lo ∨ hi < x) := by omega
  simp only [pS0, zI_toInt hx]
  rw [if_neg hn, ho]
  simp only [ht]
theorem x_tswd {x dflt lo hi : Int} {offs : Array Int} {t : Nat} (hi' : iRow j pc = some (.tableswitch dflt lo hi offs, q, a, b, ret)) (hx : i32 x) (hr : x < lo ∨ hi < x) (ht : pTgt pc dflt = some t) (K : aW O d j kc ks Q (t, L, s, es)) : aW O d j kc ks Q (pc, L, .int (zI x) :: s, es) := by
  refine x0 hi' ?_ K
  simp only [pS0, zI_toInt hx]
  rw [if_pos hr, ht]
theorem pFin_b {x : Int} (h : x = 0 ∨ x = 1) : pFin .ireturn [.int (zI x)] (some .boolean) = some (some (.int (zI x))) := by
  rcases h with rfl | rfl <;> rfl
theorem pCall_v {p c n ix : Nat} {ss : List tS} {row : pMrow} {st vs rs tl : List Value} (hs : sh es) (hp : tT[p]? = some (.inr (c, ss))) (hn : row.2.2.2.2.2.1 = n) (hv : (st.take n).reverse = vs) (hr : st.drop n = rs) (hv2 : vs = .ref (64 + p) :: tl) (hb : b = 1 ∨ b = 4) (h15 : (row.2.2.2.2.1 == 15) = false) (hl : Nat.ble (pCat (st.take n)) row.2.2.1 = true) (hn2 : Nat.ble n st.length = true) (h8 : Nat.ble (pCat (st.drop n)) 8 = true) (hc : c = row.2.2.2.2.1) : pCall (.invokevirtual ix) a b row st es = some (vs, rs) := by
  obtain ⟨ws, h1, -, -⟩ := sh_obj hs hp
  have h15' : ¬ row.2.2.2.2.1 = 15 := by simpa using h15
  rw [Nat.ble_eq] at hl hn2 h8
  have hcond : ¬ (row.2.2.2.2.1 = 15 ∨ row.2.2.1 < pCat (st.take n) ∨ st.length < n ∨ 8 < pCat (st.drop n)) := by omega
  have h64 : ¬ 64 + p < 64 := by omega
  unfold pCall
  rw [hn, if_neg hcond]
  simp only
  rw [if_pos hb, hv, hv2]
  simp only
  rw [if_neg h64, show 64 + p - 64 = p by omega, h1]
  simp only
  rw [if_pos hc, hr]
end
/-- what the table says of a cell -/
theorem gA_bd {es : PH} (h : hOK tT es) {p t n k : Nat} {sp : Nat → Int × Int} (hp : tT[p]? = some (.inl (t, n, sp))) (hk : k < n) (ht : t ≠ 1) : (sp k).1 ≤ (gA es p k).toInt ∧ (gA es p k).toInt ≤ (sp k).2 := by
  obtain ⟨z, hz, hz2⟩ := hOK_get h hp
  obtain ⟨f, rfl, hf⟩ := eOK_inl hz2 ht
  unfold gA
  rw [hz]
  exact hf k hk
theorem gI_bd {es : PH} (h : hOK tT es) {p c b : Nat} {ss : List tS} {lo hi : Int} (hp : tT[p]? = some (.inr (c, ss))) (hb : ss[b]? = some (0, lo, hi)) : lo ≤ (gI es p b).toInt ∧ (gI es p b).toInt ≤ hi := by
  obtain ⟨z, hz, hz2⟩ := hOK_get h hp
  obtain ⟨vs, rfl, hvs⟩ := eOK_inr hz2
  obtain ⟨v, hv, x, rfl, h1, h2⟩ := fsOK_get hvs hb
  unfold gI gFd
  rw [hz]
  simp only [List.getD_eq_getElem?_getD, hv, Option.getD_some]
  exact ⟨h1, h2⟩
theorem hOK_sA {es : PH} (h : hOK tT es) {p t n k : Nat} {sp : Nat → Int × Int} {x : Int32} (hp : tT[p]? = some (.inl (t, n, sp))) (hv : k < n → (sp k).1 ≤ x.toInt ∧ x.toInt ≤ (sp k).2) : hOK tT (sA es p k x) := by
  unfold sA
  split
  · rename_i t' n' f he
    refine hOK_set h (fun tt htt => ?_)
    rw [hp] at htt
    cases htt
    obtain ⟨h1, h2, h3, h4⟩ := h.2 p _ _ hp he
    refine ⟨h1, h2, h3, fun j hj => ?_⟩
    unfold upd
    split
    · rename_i hjk; subst hjk; exact hv hj
    · exact h4 j hj
  · exact h
theorem hOK_sJ {es : PH} (h : hOK tT es) {p k : Nat} {x : Int64} : hOK tT (sJ es p k x) := by
  unfold sJ
  split
  · rename_i t n f he
    refine hOK_set h (fun tt htt => ?_)
    have h1 := h.2 p tt _ htt he
    rcases tt with ⟨t', n', sp⟩ | ⟨c, ss⟩
    · exact h1
    · exact h1.elim
  · exact h
theorem hOK_sI {es : PH} (h : hOK tT es) {p c b : Nat} {ss : List tS} {lo hi : Int} {x : Int32} (hp : tT[p]? = some (.inr (c, ss))) (hb : ss[b]? = some (0, lo, hi)) (hv : lo ≤ x.toInt ∧ x.toInt ≤ hi) : hOK tT (sI es p b (.int x)) := by
  unfold sI
  split
  · rename_i c' vs he
    refine hOK_set h (fun tt htt => ?_)
    rw [hp] at htt
    cases htt
    have h1 := h.2 p _ _ hp he
    exact ⟨h1.1, fsOK_set h1.2 b hb ⟨x, rfl, hv⟩⟩
  · exact h
theorem fr_sA {Mo : List aMod} {es : PH} {p k : Nat} {x : Int32} (hm : mIn Mo p 0 k = true) : fr Mo es (sA es p k x) := by
  unfold sA
  split
  · rename_i t n f he
    refine fr_set he ⟨rfl, rfl, fun i hi => ?_⟩
    unfold upd
    rw [if_neg (fun hh => by rw [hh, hm] at hi; cases hi)]
  · exact fr_refl _ _
theorem fr_sJ {Mo : List aMod} {es : PH} {p k : Nat} {x : Int64} (hm : mIn Mo p 0 k = true) : fr Mo es (sJ es p k x) := by
  unfold sJ
  split
  · rename_i t n f he
    refine fr_set he ⟨rfl, rfl, fun i hi => ?_⟩
    unfold vp_updL
    rw [if_neg (fun hh => by rw [hh, hm] at hi; cases hi)]
  · exact fr_refl _ _
theorem fr_sI {Mo : List aMod} {es : PH} {p b : Nat} {v : Value} (hm : mIn Mo p (b + 2) 0 = true) : fr Mo es (sI es p b v) := by
  unfold sI
  split
  · rename_i c vs he
    exact fr_set he (frE_put hm)
  · exact fr_refl _ _
/-- what does not change -/
theorem fr_gA {Mo : List aMod} {es es' : PH} (h : fr Mo es es') (hs : sh es) {p t n k : Nat} {sp : Nat → Int × Int} (hp : tT[p]? = some (.inl (t, n, sp))) (ht : t ≠ 1) (hm : mIn Mo p 0 k = false) : gA es' p k = gA es p k := by
  obtain ⟨e', h1, h2⟩ := h.2 p _ (sh_arr hs hp ht)
  rcases e' with ⟨t', n', f | f⟩ | ⟨c, vs⟩
  · have h3 := h2.2.2 k hm
    conv => lhs; unfold gA
    rw [h1]
    exact h3
  · exact h2.elim
  · exact h2.elim
theorem fr_gI {Mo : List aMod} {es es' : PH} (h : fr Mo es es') (hs : sh es) {p c b : Nat} {ss : List tS} (hp : tT[p]? = some (.inr (c, ss))) (hm : mIn Mo p (b + 2) 0 = false) : gI es' p b = gI es p b := by
  obtain ⟨vs, g1, g2, g3⟩ := sh_obj hs hp
  obtain ⟨e', h1, h2⟩ := h.2 p _ g1
  rcases e' with ⟨t', n', f | f⟩ | ⟨c', vs'⟩
  · exact h2.elim
  · exact h2.elim
  · have h3 := h2.2.2 b hm
    unfold gI gFd
    rw [h1, g1]
    simp only [List.getD_eq_getElem?_getD, h3]
