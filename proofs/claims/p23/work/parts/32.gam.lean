/-! WHAT AN ABSTRACT STATE MEANS -/
/-- a value: 0 an int, 1 a reference, 2 a long, 3 the answer of a compare of longs, from 4 on anything -/
abbrev aV : Type := Nat × aF
def sgn (t : Int) : Int := if t < 0 then -1 else if t = 0 then 0 else 1
def gV (ρ : List Int) (a : aV) (v : Value) : Prop := match a.1 with
  | 0 => ∃ x : Int32, v = .int x ∧ evF ρ a.2 = some x.toInt
  | 1 => ∃ k : Nat, v = .ref k ∧ evF ρ a.2 = some (k : Int)
  | 2 => ∃ x : Int64, v = .long x ∧ evF ρ a.2 = some x.toInt
  | 3 => ∃ (x : Int32) (t : Int), v = .int x ∧ evF ρ a.2 = some t ∧ x.toInt = sgn t
  | _ => True
theorem gV_app {ρ : List Int} (τ : List Int) {a : aV} {v : Value} (h : gV ρ a v) : gV (ρ ++ τ) a v := by
  obtain ⟨k, f⟩ := a
  unfold gV at h ⊢
  split at h <;> rename_i hk <;> simp only at hk
  · obtain ⟨x, h1, h2⟩ := h; exact ⟨x, h1, evF_app τ h2⟩
  · obtain ⟨x, h1, h2⟩ := h; exact ⟨x, h1, evF_app τ h2⟩
  · obtain ⟨x, h1, h2⟩ := h; exact ⟨x, h1, evF_app τ h2⟩
  · obtain ⟨x, t, h1, h2, h3⟩ := h; exact ⟨x, t, h1, evF_app τ h2, h3⟩
  · trivial
def gS (ρ : List Int) : List aV → List Value → Prop
  | [], [] => True
  | a :: r, v :: s => gV ρ a v ∧ gS ρ r s
  | _, _ => False
theorem gS_app {ρ : List Int} (τ : List Int) : ∀ {A : List aV} {st : List Value}, gS ρ A st → gS (ρ ++ τ) A st
  | [], [], _ => trivial
  | a :: r, v :: s, h => ⟨gV_app τ h.1, gS_app τ h.2⟩
  | [], _ :: _, h => h.elim
  | _ :: _, [], h => h.elim
theorem gS_cons {ρ : List Int} {a : aV} {r : List aV} {st : List Value} (h : gS ρ (a :: r) st) : ∃ v s, st = v :: s ∧ gV ρ a v ∧ gS ρ r s := by
  cases st with
  | nil => exact h.elim
  | cons v s => exact ⟨v, s, rfl, h.1, h.2⟩
theorem gS_nil {ρ : List Int} {st : List Value} (h : gS ρ [] st) : st = [] := by
  cases st with
  | nil => rfl
  | cons v s => exact h.elim
theorem gS_len {ρ : List Int} : ∀ {A : List aV} {st : List Value}, gS ρ A st → A.length = st.length
  | [], [], _ => rfl
  | a :: r, v :: s, h => by simp only [List.length_cons, gS_len h.2]
  | [], _ :: _, h => h.elim
  | _ :: _, [], h => h.elim
theorem gS_append {ρ : List Int} : ∀ {A B : List aV} {s t : List Value}, gS ρ A s → gS ρ B t → gS ρ (A ++ B) (s ++ t)
  | [], _, [], _, _, h => h
  | a :: r, _, v :: s, _, h, h2 => ⟨h.1, gS_append h.2 h2⟩
  | [], _, _ :: _, _, h, _ => h.elim
  | _ :: _, _, [], _, h, _ => h.elim
theorem gS_take {ρ : List Int} : ∀ (n : Nat) {A : List aV} {s : List Value}, gS ρ A s → gS ρ (A.take n) (s.take n) ∧ gS ρ (A.drop n) (s.drop n)
  | 0, _, _, h => ⟨by simp [gS], by simpa using h⟩
  | n + 1, [], [], _ => ⟨trivial, trivial⟩
  | n + 1, a :: r, v :: s, h => by
    obtain ⟨h1, h2⟩ := gS_take n h.2
    exact ⟨⟨h.1, h1⟩, h2⟩
  | _ + 1, [], _ :: _, h => h.elim
  | _ + 1, _ :: _, [], h => h.elim
theorem gS_rev {ρ : List Int} : ∀ {A : List aV} {s : List Value}, gS ρ A s → gS ρ A.reverse s.reverse
  | [], [], _ => trivial
  | a :: r, v :: s, h => by
    rw [List.reverse_cons, List.reverse_cons]
    exact gS_append (gS_rev h.2) ⟨h.1, trivial⟩
  | [], _ :: _, h => h.elim
  | _ :: _, [], h => h.elim
/-- a local -/
def gO (ρ : List Int) (a : aV) (o : Option Value) : Prop := 4 ≤ a.1 ∨ ∃ v, o = some v ∧ gV ρ a v
theorem gO_app {ρ : List Int} (τ : List Int) {a : aV} {o : Option Value} (h : gO ρ a o) : gO (ρ ++ τ) a o := h.imp id fun ⟨v, h1, h2⟩ => ⟨v, h1, gV_app τ h2⟩
def gL (ρ : List Int) : List aV → PL → Prop
  | [], [] => True
  | a :: r, o :: s => gO ρ a o ∧ gL ρ r s
  | _, _ => False
theorem gL_app {ρ : List Int} (τ : List Int) : ∀ {A : List aV} {L : PL}, gL ρ A L → gL (ρ ++ τ) A L
  | [], [], _ => trivial
  | a :: r, v :: s, h => ⟨gO_app τ h.1, gL_app τ h.2⟩
  | [], _ :: _, h => h.elim
  | _ :: _, [], h => h.elim
theorem gL_len {ρ : List Int} : ∀ {A : List aV} {L : PL}, gL ρ A L → A.length = L.length
  | [], [], _ => rfl
  | a :: r, v :: s, h => by simp only [List.length_cons, gL_len h.2]
  | [], _ :: _, h => h.elim
  | _ :: _, [], h => h.elim
theorem gL_get {ρ : List Int} : ∀ {A : List aV} {L : PL}, gL ρ A L → ∀ {i : Nat} {a : aV}, A[i]? = some a → ∃ o, L[i]? = some o ∧ gO ρ a o
  | [], [], _, i, a, h => by simp at h
  | a :: r, v :: s, h, 0, b, hb => by simp at hb; subst hb; exact ⟨v, rfl, h.1⟩
  | a :: r, v :: s, h, i + 1, b, hb => by
    simp only [List.getElem?_cons_succ] at hb ⊢
    exact gL_get h.2 hb
  | [], _ :: _, h, _, _, _ => h.elim
  | _ :: _, [], h, _, _, _ => h.elim
theorem gL_set {ρ : List Int} : ∀ {A : List aV} {L : PL}, gL ρ A L → ∀ (i : Nat) {a : aV} {o : Option Value}, gO ρ a o → gL ρ (A.set i a) (L.set i o)
  | [], [], _, _, _, _, _ => trivial
  | a :: r, v :: s, h, 0, b, o, hb => ⟨hb, h.2⟩
  | a :: r, v :: s, h, i + 1, b, o, hb => ⟨h.1, gL_set h.2 i hb⟩
  | [], _ :: _, h, _, _, _, _ => h.elim
  | _ :: _, [], h, _, _, _, _ => h.elim
/-- the value of a local that is known -/
theorem gL_val {ρ : List Int} {A : List aV} {L : PL} (h : gL ρ A L) {i : Nat} {a : aV} (ha : A[i]? = some a) (hk : a.1 < 4) : ∃ v, pGetL L i = some v ∧ gV ρ a v := by
  obtain ⟨o, h1, h2⟩ := gL_get h ha
  rcases h2 with h2 | ⟨v, rfl, h2⟩
  · omega
  · exact ⟨v, by simp only [pGetL, h1], h2⟩
def aX : aV := (4, fC 0)
def aKill (A : List aV) : Nat → List aV
  | 0 => A
  | i + 1 => match A[i]? with
    | some (0, _) => A
    | some (1, _) => A
    | some (3, _) => A
    | _ => A.set i aX
theorem list_set_same {α : Type} : ∀ (L : List α) (i : Nat) (o : α), L[i]? = some o → L.set i o = L
  | [], _, _, h => by simp at h
  | x :: r, 0, o, h => by simp at h; subst h; rfl
  | x :: r, i + 1, o, h => by
    simp only [List.getElem?_cons_succ] at h
    simp only [List.set_cons_succ, list_set_same r i o h]
theorem gL_kill {ρ : List Int} {A : List aV} {L : PL} (h : gL ρ A L) : ∀ i, gL ρ (aKill A i) (pKill L i)
  | 0 => h
  | i + 1 => by
    have hX : ∀ o : Option Value, gO ρ aX o := fun o => Or.inl (Nat.le_refl _)
    have hY : ∀ (A' : List aV), gL ρ A' L → gL ρ (A'.set i aX) (pKill L (i + 1)) := fun A' h' => by
      simp only [pKill]
      split
      · exact gL_set h' i (hX _)
      · exact gL_set h' i (hX _)
      · cases hl : L[i]? with
        | none =>
          have hlen := gL_len h'
          have : A'.set i aX = A' := List.set_eq_of_length_le (by rw [hlen]; exact List.getElem?_eq_none_iff.mp hl)
          rw [this]; exact h'
        | some o =>
          have := gL_set h' i (hX o)
          rwa [list_set_same _ _ _ hl] at this
    simp only [aKill]
    split
    · rename_i f hf
      obtain ⟨v, h1, x, rfl, -⟩ := gL_val h hf (Nat.le_of_ble_eq_true rfl)
      simp only [pKill, h1]; exact h
    · rename_i f hf
      obtain ⟨v, h1, x, rfl, -⟩ := gL_val h hf (Nat.le_of_ble_eq_true rfl)
      simp only [pKill, h1]; exact h
    · rename_i f hf
      obtain ⟨v, h1, x, t, rfl, -⟩ := gL_val h hf (Nat.le_of_ble_eq_true rfl)
      simp only [pKill, h1]; exact h
    · exact hY A h
/-- a field's row of the table: 0 an int within, 1 the reference, 2 a long, else anything -/
abbrev tS : Type := Nat × Int × Int
abbrev tE : Type := (Nat × Nat × (Nat → Int × Int)) ⊕ (Nat × List tS)
def fOK (s : tS) (v : Value) : Prop := match s.1 with
  | 0 => ∃ x : Int32, v = .int x ∧ s.2.1 ≤ x.toInt ∧ x.toInt ≤ s.2.2
  | 1 => ∃ k : Nat, v = .ref k ∧ (k : Int) = s.2.1
  | 2 => ∃ x : Int64, v = .long x
  | _ => True
def fsOK : List tS → List Value → Prop
  | [], [] => True
  | s :: r, v :: u => fOK s v ∧ fsOK r u
  | _, _ => False
theorem fsOK_get : ∀ {ss : List tS} {vs : List Value}, fsOK ss vs → ∀ {i : Nat} {s : tS}, ss[i]? = some s → ∃ v, vs[i]? = some v ∧ fOK s v
  | [], [], _, i, s, h => by simp at h
  | a :: r, v :: u, h, 0, b, hb => by simp at hb; subst hb; exact ⟨v, rfl, h.1⟩
  | a :: r, v :: u, h, i + 1, b, hb => by
    simp only [List.getElem?_cons_succ] at hb ⊢
    exact fsOK_get h.2 hb
  | [], _ :: _, h, _, _, _ => h.elim
  | _ :: _, [], h, _, _, _ => h.elim
theorem fsOK_set : ∀ {ss : List tS} {vs : List Value}, fsOK ss vs → ∀ (i : Nat) {s : tS} {v : Value}, ss[i]? = some s → fOK s v → fsOK ss (vs.set i v)
  | [], [], _, _, _, _, h, _ => by simp at h
  | a :: r, v :: u, h, 0, s, w, hs, hv => by simp at hs; subst hs; exact ⟨hv, h.2⟩
  | a :: r, v :: u, h, i + 1, s, w, hs, hv => by
    simp only [List.getElem?_cons_succ] at hs
    exact ⟨h.1, fsOK_set h.2 i hs hv⟩
  | [], _ :: _, h, _, _, _, _, _ => h.elim
  | _ :: _, [], h, _, _, _, _, _ => h.elim
theorem fsOK_set2 : ∀ {ss : List tS} {vs : List Value}, fsOK ss vs → ∀ (i : Nat) {s : tS} {v : Value}, fOK s v → fsOK (ss.set i s) (vs.set i v)
  | [], [], _, _, _, _, _ => trivial
  | a :: r, v :: u, h, 0, s, w, hv => ⟨hv, h.2⟩
  | a :: r, v :: u, h, i + 1, s, w, hv => ⟨h.1, fsOK_set2 h.2 i hv⟩
  | [], _ :: _, h, _, _, _, _ => h.elim
  | _ :: _, [], h, _, _, _, _ => h.elim
theorem fsOK_len : ∀ {ss : List tS} {vs : List Value}, fsOK ss vs → ss.length = vs.length
  | [], [], _ => rfl
  | a :: r, v :: s, h => by simp only [List.length_cons, fsOK_len h.2]
  | [], _ :: _, h => h.elim
  | _ :: _, [], h => h.elim
def eOK : tE → PE → Prop
  | .inl (t, n, sp), .inl (t', n', .inl f) => t' = t ∧ n' = n ∧ t ≠ 1 ∧ ∀ k, k < n → (sp k).1 ≤ (f k).toInt ∧ (f k).toInt ≤ (sp k).2
  | .inl (t, n, _), .inl (t', n', .inr _) => t' = t ∧ n' = n ∧ t = 1
  | .inr (c, ss), .inr (c', vs) => c' = c ∧ fsOK ss vs
  | _, _ => False
def hOK (T : List tE) (es : PH) : Prop := T.length ≤ es.length ∧ ∀ (i : Nat) (t : tE) (e : PE), T[i]? = some t → es[i]? = some e → eOK t e
theorem hOK_get {T : List tE} {es : PH} (h : hOK T es) {i : Nat} {t : tE} (ht : T[i]? = some t) : ∃ e, es[i]? = some e ∧ eOK t e := by
  have h1 : i < T.length := (List.getElem?_eq_some_iff.mp ht).1
  have h2 : i < es.length := Nat.lt_of_lt_of_le h1 h.1
  exact ⟨es[i], List.getElem?_eq_getElem h2, h.2 i t _ ht (List.getElem?_eq_getElem h2)⟩
theorem hOK_set {T : List tE} {es : PH} (h : hOK T es) {i : Nat} {e : PE} (he : ∀ t, T[i]? = some t → eOK t e) : hOK T (es.set i e) := by
  refine ⟨by rw [List.length_set]; exact h.1, fun k t e' ht he' => ?_⟩
  rw [List.getElem?_set] at he'
  split at he'
  · rename_i hik
    subst hik
    split at he'
    · cases he'; exact he t ht
    · cases he'
  · exact h.2 k t e' ht he'
theorem hOK_push {T : List tE} {es : PH} (h : hOK T es) (e : PE) : hOK T (es ++ [e]) := by
  refine ⟨by rw [List.length_append]; exact Nat.le_trans h.1 (Nat.le_add_right _ _), fun k t e' ht he' => ?_⟩
  have h1 : k < T.length := (List.getElem?_eq_some_iff.mp ht).1
  rw [List.getElem?_append_left (Nat.lt_of_lt_of_le h1 h.1)] at he'
  exact h.2 k t e' ht he'
/-- rows of cells of an array: a base and strides with counts -/
def cellIn : Int → List (Nat × Nat) → Int → Prop
  | b, [], k => k = b
  | b, (s, n) :: r, k => ∃ q : Nat, q < n ∧ cellIn (b + (s : Int) * q) r k
/-- an entry: base, strides, what is read there lies within, what is written there must lie within (if the last interval isn't empty) -/
abbrev aEnt : Type := Nat × List (Nat × Nat) × (Int × Int) × (Int × Int)
def entOK (n : Nat) (sp : Nat → Int × Int) (en : aEnt) : Prop := ∀ k : Int, cellIn en.1 en.2.1 k → 0 ≤ k ∧ k.toNat < n ∧ en.2.2.1.1 ≤ (sp k.toNat).1 ∧ (sp k.toNat).2 ≤ en.2.2.1.2 ∧ (en.2.2.2.1 ≤ en.2.2.2.2 → (sp k.toNat).1 ≤ en.2.2.2.1 ∧ en.2.2.2.2 ≤ (sp k.toNat).2)
def entCk (n : Nat) (sp : Nat → Int × Int) (r w : Int × Int) : Nat → List (Nat × Nat) → Bool
  | b, [] => Nat.blt b n && (iLe r.1 (sp b).1 && (iLe (sp b).2 r.2 && (!(iLe w.1 w.2) || (iLe (sp b).1 w.1 && iLe w.2 (sp b).2))))
  | b, (s, m) :: q => (List.range m).all (fun k => entCk n sp r w (b + s * k) q)
theorem entCk_ok {n : Nat} {sp : Nat → Int × Int} {r w : Int × Int} : ∀ (st : List (Nat × Nat)) (b : Nat), entCk n sp r w b st = true → ∀ k : Int, cellIn b st k → 0 ≤ k ∧ k.toNat < n ∧ r.1 ≤ (sp k.toNat).1 ∧ (sp k.toNat).2 ≤ r.2 ∧ (w.1 ≤ w.2 → (sp k.toNat).1 ≤ w.1 ∧ w.2 ≤ (sp k.toNat).2)
  | [], b, h, k, hk => by
    have hk' : k = (b : Int) := hk
    subst hk'
    simp only [entCk, Bool.and_eq_true, Bool.or_eq_true, Bool.not_eq_true', iLe_iff, iLe_not] at h
    obtain ⟨h1, h2, h3, h4⟩ := h
    rw [Int.toNat_natCast]
    refine ⟨Int.natCast_nonneg _, by simpa using h1, h2, h3, fun hw => ?_⟩
    rcases h4 with h4 | h4
    · omega
    · exact h4
  | (s, m) :: q, b, h, k, hk => by
    obtain ⟨z, hz, h2⟩ := hk
    simp only [entCk, List.all_eq_true, List.mem_range] at h
    refine entCk_ok q (b + s * z) (h z hz) k ?_
    rw [Int.natCast_add, Int.natCast_mul]; exact h2
def takeT (s : Int) : List (Int × Nat) → Option (Nat × List (Int × Nat))
  | [] => none
  | (a, x) :: r => bif a == s then some (x, r) else match takeT s r with
    | some (y, r') => some (y, (a, x) :: r')
    | none => none
theorem takeT_ev {ρ : List Int} {s : Int} : ∀ {ts : List (Int × Nat)} {u : Int} {x : Nat} {r : List (Int × Nat)}, takeT s ts = some (x, r) → evT ρ ts = some u → ∃ v w, ρ[x]? = some v ∧ evT ρ r = some w ∧ u = s * v + w
  | [], _, _, _, h, _ => by cases h
  | (a, y) :: q, u, x, r, h, hu => by
    obtain ⟨v, w, h1, h2, h3⟩ := evT_cons.mp hu
    simp only [takeT] at h
    cases ha : a == s with
    | true =>
      have : a = s := by simpa using ha
      subst this
      rw [ha] at h
      simp only [cond_true, Option.some.injEq, Prod.mk.injEq] at h
      obtain ⟨rfl, rfl⟩ := h
      exact ⟨v, w, h1, h2, h3⟩
    | false =>
      rw [ha] at h
      simp only [cond_false] at h
      cases ht : takeT s q with
      | none => rw [ht] at h; cases h
      | some p =>
        obtain ⟨z, r'⟩ := p
        rw [ht] at h
        simp only [Option.some.injEq, Prod.mk.injEq] at h
        obtain ⟨rfl, rfl⟩ := h
        obtain ⟨v', w', q1, q2, q3⟩ := takeT_ev ht h2
        exact ⟨v', _, q1, evT_cons.mpr ⟨v, w', h1, q2, rfl⟩, by omega⟩
/-- the form's cells are the entry's -/
def mEnt (e : aE) : Int → List (Int × Nat) → List (Nat × Nat) → Bool
  | c, ts, [] => c == 0 && ts.isEmpty
  | c, ts, (s, n) :: r => match takeT s ts with
    | some (x, ts') => match e.getD x (0, 0), c / (s : Int) with
      | p, q => (iLe 0 (p.1 + q) && (iLe (p.2 + q) ((n : Int) - 1) && mEnt e (c - s * q) ts' r)) || (iLe 0 (p.1 + (q + 1)) && (iLe (p.2 + (q + 1)) ((n : Int) - 1) && mEnt e (c - s * (q + 1)) ts' r))
    | none => match c / (s : Int) with
      | q => (iLe 0 q && (iLe q ((n : Int) - 1) && mEnt e (c - s * q) ts r)) || (iLe 0 (q + 1) && (iLe (q + 1) ((n : Int) - 1) && mEnt e (c - s * (q + 1)) ts r))
theorem mEnt_ok {ρ : List Int} {e : aE} (h : gE ρ e) : ∀ (st : List (Nat × Nat)) (c : Int) (ts : List (Int × Nat)) (b u : Int), mEnt e c ts st = true → evT ρ ts = some u → cellIn b st (b + c + u)
  | [], c, ts, b, u, hm, hu => by
    simp only [mEnt, Bool.and_eq_true, beq_iff_eq, List.isEmpty_iff] at hm
    obtain ⟨rfl, rfl⟩ := hm
    rw [evT_nil] at hu
    subst hu
    show b + 0 + 0 = b
    omega
  | (s, n) :: r, c, ts, b, u, hm, hu => by
    have key : ∀ (q : Int) (ts' : List (Int × Nat)) (w z : Int), 0 ≤ z → z ≤ (n : Int) - 1 → mEnt e (c - s * q) ts' r = true → evT ρ ts' = some w → u = s * (z - q) + w → cellIn b ((s, n) :: r) (b + c + u) := fun q ts' w z h1 h2 h3 h4 h5 => by
      refine ⟨z.toNat, by omega, ?_⟩
      have := mEnt_ok h r (c - s * q) ts' (b + s * z) w h3 h4
      rw [Int.toNat_of_nonneg h1]
      have e1 : b + s * z + (c - s * q) + w = b + c + u := by
        rw [h5, Int.mul_sub]; omega
      rw [← e1]; exact this
    simp only [mEnt] at hm
    cases ht : takeT s ts with
    | some p =>
      obtain ⟨x, ts'⟩ := p
      rw [ht] at hm
      simp only [Bool.or_eq_true, Bool.and_eq_true, iLe_iff] at hm
      obtain ⟨v, w, h1, h2, h3⟩ := takeT_ev ht hu
      have hv := h.2 x v h1
      rcases hm with ⟨m1, m2, m3⟩ | ⟨m1, m2, m3⟩
      · refine key _ ts' w (v + c / s) (by omega) (by omega) m3 h2 ?_
        rw [h3]
        have : v + c / (s : Int) - c / s = v := by omega
        rw [this]
      · refine key _ ts' w (v + (c / s + 1)) (by omega) (by omega) m3 h2 ?_
        rw [h3]
        have : v + (c / (s : Int) + 1) - (c / s + 1) = v := by omega
        rw [this]
    | none =>
      rw [ht] at hm
      simp only [Bool.or_eq_true, Bool.and_eq_true, iLe_iff] at hm
      rcases hm with ⟨m1, m2, m3⟩ | ⟨m1, m2, m3⟩
      · exact key _ ts u _ m1 m2 m3 hu (by rw [Int.sub_self]; simp)
      · exact key _ ts u _ m1 m2 m3 hu (by rw [Int.sub_self]; simp)
/-- variables of one value are folded away -/
def fFold (e : aE) (f : aF) : aF := (f.2.foldr (fun t g => match e.getD t.2 (0, 0) with
  | p => bif p.1 == p.2 then (g.1 + t.1 * p.1, g.2) else (g.1, t :: g.2)) (f.1, []))
theorem fFold_ev {ρ : List Int} {e : aE} (h : gE ρ e) {c : Int} : ∀ {A : List (Int × Nat)} {s : Int}, evT ρ A = some s → evF ρ (fFold e (c, A)) = some (c + s)
  | [], s, hs => by rw [evT_nil] at hs; subst hs; simp [fFold, evF, evT]
  | (a, x) :: r, s, hs => by
    obtain ⟨v, w, h1, h2, h3⟩ := evT_cons.mp hs
    have ih := fFold_ev (c := c) h h2
    have hv := h.2 x v h1
    simp only [fFold, List.foldr_cons] at ih ⊢
    generalize hg : r.foldr _ (c, []) = g at ih ⊢
    obtain ⟨u, q1, q2⟩ := evF_iff.mp ih
    cases hp : (e.getD x (0, 0)).1 == (e.getD x (0, 0)).2 with
    | true =>
      have hp' : (e.getD x (0, 0)).1 = (e.getD x (0, 0)).2 := by simpa using hp
      simp only [cond_true]
      have hve : v = (e.getD x (0, 0)).1 := by omega
      refine evF_iff.mpr ⟨u, q1, ?_⟩
      rw [h3, ← hve]; simp only; omega
    | false =>
      simp only [cond_false]
      refine evF_iff.mpr ⟨a * v + u, evT_cons.mpr ⟨v, u, h1, q1, rfl⟩, ?_⟩
      rw [h3]; simp only; omega
theorem fFold_evF {ρ : List Int} {e : aE} (h : gE ρ e) {f : aF} {t : Int} (hf : evF ρ f = some t) : evF ρ (fFold e f) = some t := by
  obtain ⟨s, h1, rfl⟩ := evF_iff.mp hf
  exact fFold_ev h h1
/-- the first entry that has the form's cells -/
def aHas (e : aE) (cs : List aF) (f : aF) (en : aEnt) : Bool := match en.2.1 with
  | [(1, n)] => iLe en.1 (pLo e cs f) && iLe (pHi e cs f) ((en.1 : Int) + n - 1)
  | st => mEnt e ((fFold e f).1 - en.1) (fFold e f).2 st
theorem aHas_ok {ρ : List Int} {e : aE} {cs : List aF} (h : gE ρ e) (hc : gC ρ cs) {f : aF} {t : Int} (hf : evF ρ f = some t) {en : aEnt} (hh : aHas e cs f en = true) : cellIn en.1 en.2.1 t := by
  obtain ⟨b, st, r, w⟩ := en
  unfold aHas at hh
  split at hh
  · rename_i n hn
    simp only at hn
    subst hn
    simp only [Bool.and_eq_true, iLe_iff] at hh
    have := pLo_le h hc hf
    refine ⟨(t - b).toNat, by omega, ?_⟩
    show t = _
    rw [Int.toNat_of_nonneg (by omega)]
    show t = (b : Int) + ((1 : Nat) : Int) * (t - b)
    omega
  · obtain ⟨u, h1, h2⟩ := evF_iff.mp (fFold_evF h hf)
    have := mEnt_ok h st _ _ (b : Int) u hh h1
    have e1 : (b : Int) + ((fFold e f).1 - b) + u = t := by omega
    rwa [e1] at this
