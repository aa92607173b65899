/-! FORMS: c + Σ a * x over variables with intervals -/
abbrev aF : Type := Int × List (Int × Nat)
abbrev aE : Type := List (Int × Int)
def iLe (a b : Int) : Bool := match b - a with
  | .ofNat _ => true
  | .negSucc _ => false
theorem iLe_iff {a b : Int} : iLe a b = true ↔ a ≤ b := by
  unfold iLe
  split
  · rename_i n h
    have h1 : b - a = (n : Int) := h
    simp only [true_iff]; omega
  · rename_i n h
    have h1 : b - a = Int.negSucc n := h
    rw [Int.negSucc_eq] at h1
    simp only [Bool.false_eq_true, false_iff]; omega
theorem iLe_not {a b : Int} : iLe a b = false ↔ b < a := by
  rw [← Bool.not_eq_true, iLe_iff]; omega
def iMax (a b : Int) : Int := bif iLe a b then b else a
def iMin (a b : Int) : Int := bif iLe a b then a else b
theorem iMax_le {a b c : Int} (h1 : a ≤ c) (h2 : b ≤ c) : iMax a b ≤ c := by
  unfold iMax; cases iLe a b <;> assumption
theorem le_iMin {a b c : Int} (h1 : c ≤ a) (h2 : c ≤ b) : c ≤ iMin a b := by
  unfold iMin; cases iLe a b <;> assumption
def evT (ρ : List Int) : List (Int × Nat) → Option Int
  | [] => some 0
  | (a, x) :: r => match ρ[x]?, evT ρ r with
    | some v, some s => some (a * v + s)
    | _, _ => none
def evF (ρ : List Int) (f : aF) : Option Int := match evT ρ f.2 with
  | some s => some (f.1 + s)
  | none => none
theorem evF_iff {ρ : List Int} {f : aF} {t : Int} : evF ρ f = some t ↔ ∃ s, evT ρ f.2 = some s ∧ t = f.1 + s := by
  unfold evF
  cases h : evT ρ f.2 with
  | none => simp
  | some s =>
    simp only [Option.some.injEq]
    exact ⟨fun h => ⟨s, rfl, h.symm⟩, fun ⟨s', h1, h2⟩ => by rw [h2, h1]⟩
theorem evT_cons {ρ : List Int} {a : Int} {x : Nat} {r : List (Int × Nat)} {t : Int} : evT ρ ((a, x) :: r) = some t ↔ ∃ v s, ρ[x]? = some v ∧ evT ρ r = some s ∧ t = a * v + s := by
  simp only [evT]
  cases h : ρ[x]? with
  | none => simp
  | some v =>
    cases h2 : evT ρ r with
    | none => simp
    | some s =>
      simp only [Option.some.injEq]
      exact ⟨fun h => ⟨v, s, rfl, rfl, h.symm⟩, fun ⟨v', s', h1, h2, h3⟩ => by rw [h3, h1, h2]⟩
theorem evT_nil {ρ : List Int} {t : Int} : evT ρ [] = some t ↔ t = 0 := by
  simp only [evT, Option.some.injEq]; exact eq_comm
def fIns (a : Int) (x : Nat) : List (Int × Nat) → List (Int × Nat)
  | [] => bif a == 0 then [] else [(a, x)]
  | (b, y) :: r => bif Nat.blt x y then (bif a == 0 then (b, y) :: r else (a, x) :: (b, y) :: r) else bif x == y then (bif a + b == 0 then r else (a + b, x) :: r) else (b, y) :: fIns a x r
theorem fIns_ev {ρ : List Int} {a v : Int} {x : Nat} (hx : ρ[x]? = some v) : ∀ {A : List (Int × Nat)} {s : Int}, evT ρ A = some s → evT ρ (fIns a x A) = some (a * v + s)
  | [], s, h => by
    rw [evT_nil] at h
    subst h
    simp only [fIns]
    cases h0 : a == 0 with
    | true =>
      have : a = 0 := by simpa using h0
      subst this; simp [evT]
    | false => exact evT_cons.mpr ⟨v, 0, hx, rfl, rfl⟩
  | (b, y) :: r, s, h => by
    obtain ⟨w, s', h1, h2, h3⟩ := evT_cons.mp h
    subst h3
    simp only [fIns]
    cases hb : Nat.blt x y with
    | true =>
      cases h0 : a == 0 with
      | true =>
        have : a = 0 := by simpa using h0
        subst this; simpa using h
      | false => exact evT_cons.mpr ⟨v, _, hx, h, rfl⟩
    | false =>
      simp only [cond_false]
      cases he : x == y with
      | true =>
        have : x = y := by simpa using he
        subst this
        rw [hx] at h1
        cases h1
        simp only [cond_true]
        cases hz : a + b == 0 with
        | true =>
          have hz' : a + b = 0 := by simpa using hz
          simp only [cond_true]
          rw [h2]
          have : a * v + (b * v + s') = (a + b) * v + s' := by rw [Int.add_mul]; omega
          rw [this, hz']; simp
        | false =>
          refine evT_cons.mpr ⟨v, s', hx, h2, ?_⟩
          rw [Int.add_mul]; omega
      | false =>
        refine evT_cons.mpr ⟨w, _, h1, fIns_ev hx h2, ?_⟩
        omega
def fAddT (k : Int) : List (Int × Nat) → List (Int × Nat) → List (Int × Nat)
  | A, [] => A
  | A, (b, x) :: r => fAddT k (fIns (k * b) x A) r
theorem fAddT_ev {ρ : List Int} {k : Int} : ∀ {B A : List (Int × Nat)} {s t : Int}, evT ρ A = some s → evT ρ B = some t → evT ρ (fAddT k A B) = some (s + k * t)
  | [], A, s, t, hA, hB => by
    rw [evT_nil] at hB
    subst hB; simpa [fAddT] using hA
  | (b, x) :: r, A, s, t, hA, hB => by
    obtain ⟨v, s', h1, h2, h3⟩ := evT_cons.mp hB
    subst h3
    simp only [fAddT]
    rw [fAddT_ev (fIns_ev h1 hA) h2]
    congr 1
    rw [Int.mul_add, Int.mul_assoc]; omega
def fAdd (k : Int) (f g : aF) : aF := (f.1 + k * g.1, fAddT k f.2 g.2)
theorem fAdd_ev {ρ : List Int} {k : Int} {f g : aF} {s t : Int} (hf : evF ρ f = some s) (hg : evF ρ g = some t) : evF ρ (fAdd k f g) = some (s + k * t) := by
  obtain ⟨u, h1, rfl⟩ := evF_iff.mp hf
  obtain ⟨v, h2, rfl⟩ := evF_iff.mp hg
  refine evF_iff.mpr ⟨_, fAddT_ev h1 h2, ?_⟩
  simp only [fAdd, Int.mul_add]; omega
def fC (c : Int) : aF := (c, [])
def fV (x : Nat) : aF := (0, [(1, x)])
theorem fC_ev {ρ : List Int} {c : Int} : evF ρ (fC c) = some c := by simp [evF, evT, fC]
theorem fV_ev {ρ : List Int} {x : Nat} {v : Int} (h : ρ[x]? = some v) : evF ρ (fV x) = some v := by simp [evF, evT, fV, h]
def fScale (k : Int) (f : aF) : aF := fAdd k (fC 0) f
theorem fScale_ev {ρ : List Int} {k : Int} {f : aF} {t : Int} (hf : evF ρ f = some t) : evF ρ (fScale k f) = some (k * t) := by
  rw [fScale, fAdd_ev fC_ev hf]; simp
theorem evT_app {ρ : List Int} (τ : List Int) : ∀ {A : List (Int × Nat)} {s : Int}, evT ρ A = some s → evT (ρ ++ τ) A = some s
  | [], s, h => h
  | (b, x) :: r, s, h => by
    obtain ⟨v, s', h1, h2, h3⟩ := evT_cons.mp h
    refine evT_cons.mpr ⟨v, s', ?_, evT_app τ h2, h3⟩
    rw [List.getElem?_append_left (List.getElem?_eq_some_iff.mp h1).1]; exact h1
theorem evF_app {ρ : List Int} (τ : List Int) {f : aF} {t : Int} (h : evF ρ f = some t) : evF (ρ ++ τ) f = some t := by
  obtain ⟨s, h1, h2⟩ := evF_iff.mp h
  exact evF_iff.mpr ⟨s, evT_app τ h1, h2⟩
/-- the valuation keeps the intervals -/
def gE (ρ : List Int) (e : aE) : Prop := ρ.length = e.length ∧ ∀ x v, ρ[x]? = some v → (e.getD x (0, 0)).1 ≤ v ∧ v ≤ (e.getD x (0, 0)).2
def tLo (e : aE) (a : Int) (x : Nat) : Int := bif iLe 0 a then a * (e.getD x (0, 0)).1 else a * (e.getD x (0, 0)).2
def tHi (e : aE) (a : Int) (x : Nat) : Int := bif iLe 0 a then a * (e.getD x (0, 0)).2 else a * (e.getD x (0, 0)).1
def bLo (e : aE) : List (Int × Nat) → Int
  | [] => 0
  | (a, x) :: r => tLo e a x + bLo e r
def bHi (e : aE) : List (Int × Nat) → Int
  | [] => 0
  | (a, x) :: r => tHi e a x + bHi e r
theorem tLo_le {ρ : List Int} {e : aE} (h : gE ρ e) {a v : Int} {x : Nat} (hx : ρ[x]? = some v) : tLo e a x ≤ a * v ∧ a * v ≤ tHi e a x := by
  obtain ⟨h1, h2⟩ := h.2 x v hx
  unfold tLo tHi
  cases ha : iLe 0 a with
  | true => exact ⟨Int.mul_le_mul_of_nonneg_left h1 (iLe_iff.mp ha), Int.mul_le_mul_of_nonneg_left h2 (iLe_iff.mp ha)⟩
  | false =>
    have ha' : a ≤ 0 := Int.le_of_lt (iLe_not.mp ha)
    exact ⟨Int.mul_le_mul_of_nonpos_left ha' h2, Int.mul_le_mul_of_nonpos_left ha' h1⟩
theorem bLo_le {ρ : List Int} {e : aE} (h : gE ρ e) : ∀ {A : List (Int × Nat)} {s : Int}, evT ρ A = some s → bLo e A ≤ s ∧ s ≤ bHi e A
  | [], s, hs => by rw [evT_nil] at hs; subst hs; exact ⟨Int.le_refl _, Int.le_refl _⟩
  | (a, x) :: r, s, hs => by
    obtain ⟨v, s', h1, h2, h3⟩ := evT_cons.mp hs
    have t1 := tLo_le h (a := a) h1
    have t2 := bLo_le h h2
    simp only [bLo, bHi]; omega
/-- one term's room is within the whole's -/
theorem bHi_room {ρ : List Int} {e : aE} (h : gE ρ e) : ∀ {A : List (Int × Nat)} {s : Int}, evT ρ A = some s → ∀ q ∈ A, ∃ v, ρ[q.2]? = some v ∧ tHi e q.1 q.2 - q.1 * v ≤ bHi e A - s
  | [], s, hs, q, hq => by cases hq
  | (a, x) :: r, s, hs, q, hq => by
    obtain ⟨v, s', h1, h2, h3⟩ := evT_cons.mp hs
    have t1 := tLo_le h (a := a) h1
    have t2 := bLo_le h h2
    rcases List.mem_cons.mp hq with rfl | hq
    · exact ⟨v, h1, by simp only [bHi]; omega⟩
    · obtain ⟨w, h4, h5⟩ := bHi_room h h2 q hq
      exact ⟨w, h4, by simp only [bHi]; omega⟩
def fLo (e : aE) (f : aF) : Int := f.1 + bLo e f.2
def fHi (e : aE) (f : aF) : Int := f.1 + bHi e f.2
theorem fLo_le {ρ : List Int} {e : aE} (h : gE ρ e) {f : aF} {t : Int} (hf : evF ρ f = some t) : fLo e f ≤ t ∧ t ≤ fHi e f := by
  obtain ⟨s, h1, rfl⟩ := evF_iff.mp hf
  have := bLo_le h h1
  unfold fLo fHi; omega
/-- the constraints hold -/
def gC (ρ : List Int) (cs : List aF) : Prop := ∀ f ∈ cs, ∃ t, evF ρ f = some t ∧ 0 ≤ t
def pLo (e : aE) (cs : List aF) (f : aF) : Int := cs.foldl (fun m k => iMax m (fLo e (fAdd (-1) f k))) (fLo e f)
def pHi (e : aE) (cs : List aF) (f : aF) : Int := cs.foldl (fun m k => iMin m (fHi e (fAdd 1 f k))) (fHi e f)
theorem pLo_aux {ρ : List Int} {e : aE} (h : gE ρ e) {f : aF} {t : Int} (hf : evF ρ f = some t) : ∀ (cs : List aF) (m : Int), gC ρ cs → m ≤ t → cs.foldl (fun m k => iMax m (fLo e (fAdd (-1) f k))) m ≤ t
  | [], m, _, hm => hm
  | k :: cs, m, hc, hm => by
    simp only [List.foldl_cons]
    refine pLo_aux h hf cs _ (fun g hg => hc g (List.mem_cons_of_mem _ hg)) (iMax_le hm ?_)
    obtain ⟨u, h1, h2⟩ := hc k List.mem_cons_self
    have := (fLo_le h (fAdd_ev (k := -1) hf h1)).1
    omega
theorem pHi_aux {ρ : List Int} {e : aE} (h : gE ρ e) {f : aF} {t : Int} (hf : evF ρ f = some t) : ∀ (cs : List aF) (m : Int), gC ρ cs → t ≤ m → t ≤ cs.foldl (fun m k => iMin m (fHi e (fAdd 1 f k))) m
  | [], m, _, hm => hm
  | k :: cs, m, hc, hm => by
    simp only [List.foldl_cons]
    refine pHi_aux h hf cs _ (fun g hg => hc g (List.mem_cons_of_mem _ hg)) (le_iMin hm ?_)
    obtain ⟨u, h1, h2⟩ := hc k List.mem_cons_self
    have := (fLo_le h (fAdd_ev (k := 1) hf h1)).2
    omega
theorem pLo_le {ρ : List Int} {e : aE} {cs : List aF} (h : gE ρ e) (hc : gC ρ cs) {f : aF} {t : Int} (hf : evF ρ f = some t) : pLo e cs f ≤ t ∧ t ≤ pHi e cs f :=
  ⟨pLo_aux h hf cs _ hc (fLo_le h hf).1, pHi_aux h hf cs _ hc (fLo_le h hf).2⟩
theorem getD_set {e : aE} {x y : Nat} {q : Int × Int} (hx : x < e.length) : (e.set x q).getD y (0, 0) = if x = y then q else e.getD y (0, 0) := by
  simp only [List.getD_eq_getElem?_getD, List.getElem?_set]
  split
  · rename_i h
    subst h
    simp [hx]
  · rfl
theorem gE_set {ρ : List Int} {e : aE} (h : gE ρ e) {x : Nat} {v : Int} {q : Int × Int} (hx : ρ[x]? = some v) (hq : q.1 ≤ v ∧ v ≤ q.2) : gE ρ (e.set x q) := by
  have hl : x < e.length := by rw [← h.1]; exact (List.getElem?_eq_some_iff.mp hx).1
  refine ⟨by rw [List.length_set]; exact h.1, fun y w hy => ?_⟩
  rw [getD_set hl]
  split
  · rename_i he
    subst he
    rw [hx] at hy
    cases hy
    exact hq
  · exact h.2 y w hy
def narT (e0 : aE) (h : Int) : List (Int × Nat) → aE → aE
  | [], e => e
  | (a, x) :: r, e => narT e0 h r (bif a == 0 then e else bif iLe 0 a then e.set x (iMax (e.getD x (0, 0)).1 ((e0.getD x (0, 0)).2 - h / a), (e.getD x (0, 0)).2) else e.set x ((e.getD x (0, 0)).1, iMin (e.getD x (0, 0)).2 ((e0.getD x (0, 0)).1 + h / (-a))))
theorem narT_sound {ρ : List Int} {e0 : aE} {h : Int} (hh : 0 ≤ h) : ∀ (A : List (Int × Nat)) (e : aE), gE ρ e → (∀ q ∈ A, ∃ v, ρ[q.2]? = some v ∧ tHi e0 q.1 q.2 - q.1 * v ≤ h) → gE ρ (narT e0 h A e)
  | [], e, he, _ => he
  | (a, x) :: r, e, he, hA => by
    obtain ⟨v, h1, h2⟩ := hA (a, x) List.mem_cons_self
    simp only at h1 h2
    refine narT_sound hh r _ ?_ (fun q hq => hA q (List.mem_cons_of_mem _ hq))
    cases h0 : a == 0 with
    | true => exact he
    | false =>
      have ha0 : a ≠ 0 := by simpa using h0
      have hb := he.2 x v h1
      simp only [cond_false]
      unfold tHi at h2
      cases ha : iLe 0 a with
      | true =>
        rw [ha] at h2
        simp only [cond_true] at h2 ⊢
        have hp : 0 < a := by have := iLe_iff.mp ha; omega
        refine gE_set he h1 ⟨iMax_le hb.1 ?_, hb.2⟩
        have : ((e0.getD x (0, 0)).2 - v) * a ≤ h := by
          rw [Int.sub_mul, Int.mul_comm _ a, Int.mul_comm v a]; exact h2
        have := Int.le_ediv_of_mul_le hp this
        omega
      | false =>
        rw [ha] at h2
        simp only [cond_false] at h2 ⊢
        have hp : 0 < -a := by have := iLe_not.mp ha; omega
        refine gE_set he h1 ⟨hb.1, le_iMin hb.2 ?_⟩
        have : (v - (e0.getD x (0, 0)).1) * (-a) ≤ h := by
          rw [Int.sub_mul, Int.mul_neg, Int.mul_neg, Int.mul_comm v a, Int.mul_comm _ a]; omega
        have := Int.le_ediv_of_mul_le hp this
        omega
/-- d ≥ 0 is taken: the narrowed intervals, or none if it can't be -/
def aGe (e : aE) (d : aF) : Option aE := bif iLe 0 (fHi e d) then (match narT e (fHi e d) d.2 e with
    | e' => bif d.2.all (fun t => iLe (e'.getD t.2 (0, 0)).1 (e'.getD t.2 (0, 0)).2) then some e' else none) else none
theorem aGe_sound {ρ : List Int} {e : aE} {d : aF} {t : Int} (h : gE ρ e) (hd : evF ρ d = some t) (ht : 0 ≤ t) : ∃ e', aGe e d = some e' ∧ gE ρ e' := by
  obtain ⟨s, h1, rfl⟩ := evF_iff.mp hd
  have hb := bLo_le h h1
  have hh : 0 ≤ fHi e d := by unfold fHi; omega
  have hA : ∀ q ∈ d.2, ∃ v, ρ[q.2]? = some v ∧ tHi e q.1 q.2 - q.1 * v ≤ fHi e d := fun q hq => by
    obtain ⟨v, h2, h3⟩ := bHi_room h h1 q hq
    exact ⟨v, h2, by unfold fHi; omega⟩
  have hg := narT_sound hh d.2 e h hA
  refine ⟨narT e (fHi e d) d.2 e, ?_, hg⟩
  unfold aGe
  rw [iLe_iff.mpr hh]
  simp only [cond_true]
  have : d.2.all (fun t => iLe ((narT e (fHi e d) d.2 e).getD t.2 (0, 0)).1 ((narT e (fHi e d) d.2 e).getD t.2 (0, 0)).2) = true := by
    rw [List.all_eq_true]
    intro q hq
    obtain ⟨v, h2, -⟩ := hA q hq
    have := hg.2 _ _ h2
    exact iLe_iff.mpr (by omega)
  rw [this]; rfl
def aNe (e : aE) (d : aF) : Option aE := bif iLe 0 (fLo e d) && iLe (fHi e d) 0 then none else match d.2 with
  | [(a, x)] => bif a == 1 || a == -1 then (match e.getD x (0, 0) with
    | (l, h) => match (bif l == -(d.1 * a) then l + 1 else l), (bif h == -(d.1 * a) then h - 1 else h) with
      | l', h' => bif iLe l' h' then some (e.set x (l', h')) else none) else some e
  | _ => some e
theorem aNe_sound {ρ : List Int} {e : aE} {d : aF} {t : Int} (h : gE ρ e) (hd : evF ρ d = some t) (ht : t ≠ 0) : ∃ e', aNe e d = some e' ∧ gE ρ e' := by
  have hb := fLo_le h hd
  unfold aNe
  have h0 : (iLe 0 (fLo e d) && iLe (fHi e d) 0) = false := by
    rw [Bool.and_eq_false_iff]
    by_cases hl : 0 ≤ fLo e d
    · exact Or.inr (iLe_not.mpr (by omega))
    · exact Or.inl (iLe_not.mpr (by omega))
  rw [h0]
  simp only [cond_false]
  split
  · rename_i a x hdt
    cases ha : a == 1 || a == -1 with
    | false => exact ⟨e, rfl, h⟩
    | true =>
      simp only [cond_true]
      obtain ⟨s, h1, h2⟩ := evF_iff.mp hd
      rw [hdt] at h1
      obtain ⟨v, s', h3, h4, h5⟩ := evT_cons.mp h1
      rw [evT_nil] at h4
      subst h4
      have hv := h.2 x v h3
      have hne : v ≠ -(d.1 * a) := by
        simp only [Bool.or_eq_true, beq_iff_eq] at ha
        rcases ha with rfl | rfl <;> omega
      generalize hp : e.getD x (0, 0) = p at hv ⊢
      obtain ⟨l, r⟩ := p
      simp only at hv ⊢
      have hl : (bif l == -(d.1 * a) then l + 1 else l) ≤ v := by
        cases hq : l == -(d.1 * a) with
        | true =>
          have : l = -(d.1 * a) := by simpa using hq
          simp only [cond_true]; omega
        | false => exact hv.1
      have hr : v ≤ (bif r == -(d.1 * a) then r - 1 else r) := by
        cases hq : r == -(d.1 * a) with
        | true =>
          have : r = -(d.1 * a) := by simpa using hq
          simp only [cond_true]; omega
        | false => exact hv.2
      rw [iLe_iff.mpr (Int.le_trans hl hr)]
      exact ⟨_, rfl, gE_set h h3 ⟨hl, hr⟩⟩
  · exact ⟨e, rfl, h⟩
def cR (c : Jvm.ClassFile.Cond) (t : Int) : Prop := match c with
  | .eq => t = 0
  | .ne => t ≠ 0
  | .lt => t < 0
  | .ge => 0 ≤ t
  | .gt => 0 < t
  | .le => t ≤ 0
/-- what may be written down of it: forms that are ≥ 0 -/
def cFs (c : Jvm.ClassFile.Cond) (d : aF) : List aF := match c with
  | .eq => [d, fScale (-1) d]
  | .ne => []
  | .lt => [fAdd (-1) (fC (-1)) d]
  | .ge => [d]
  | .gt => [fAdd 1 (fC (-1)) d]
  | .le => [fScale (-1) d]
theorem cFs_ok {ρ : List Int} {c : Jvm.ClassFile.Cond} {d : aF} {t : Int} (hd : evF ρ d = some t) (hr : cR c t) : gC ρ (cFs c d) := by
  intro f hf
  cases c <;> simp only [cFs, List.mem_cons, List.not_mem_nil, or_false] at hf <;> simp only [cR] at hr
  · rcases hf with rfl | rfl
    · exact ⟨t, hd, by omega⟩
    · exact ⟨_, fScale_ev hd, by omega⟩
  · subst hf; exact ⟨_, fAdd_ev fC_ev hd, by omega⟩
  · subst hf; exact ⟨t, hd, hr⟩
  · subst hf; exact ⟨_, fAdd_ev fC_ev hd, by omega⟩
  · subst hf; exact ⟨_, fScale_ev hd, by omega⟩
def aGes (e : aE) : List aF → Option aE
  | [] => some e
  | d :: r => match aGe e d with
    | some e' => aGes e' r
    | none => none
theorem aGes_sound {ρ : List Int} : ∀ {ds : List aF} {e : aE}, gE ρ e → gC ρ ds → ∃ e', aGes e ds = some e' ∧ gE ρ e'
  | [], e, h, _ => ⟨e, rfl, h⟩
  | d :: r, e, h, hd => by
    obtain ⟨t, h1, h2⟩ := hd d List.mem_cons_self
    obtain ⟨e', h3, h4⟩ := aGe_sound h h1 h2
    obtain ⟨e2, h5, h6⟩ := aGes_sound h4 (fun f hf => hd f (List.mem_cons_of_mem _ hf))
    exact ⟨e2, by simp only [aGes, h3, h5], h6⟩
/-- a compare is taken: the narrowed intervals and the constraints -/
def aIf (c : Jvm.ClassFile.Cond) (e : aE) (cs : List aF) (d : aF) : Option (aE × List aF) := match c with
  | .ne => match aNe e d with
    | some e' => some (e', cs)
    | none => none
  | c => match aGes e (cFs c d) with
    | some e' => some (e', match d.2 with
      | _ :: _ :: _ => bif Nat.blt cs.length 12 then cFs c d ++ cs else cs
      | _ => cs)
    | none => none
theorem aIf_sound {ρ : List Int} {c : Jvm.ClassFile.Cond} {e : aE} {cs : List aF} {d : aF} {t : Int} (h : gE ρ e) (hc : gC ρ cs) (hd : evF ρ d = some t) (hr : cR c t) : ∃ e' cs', aIf c e cs d = some (e', cs') ∧ gE ρ e' ∧ gC ρ cs' := by
  have hk := cFs_ok hd hr
  have h2 : gC ρ (match d.2 with
      | _ :: _ :: _ => bif Nat.blt cs.length 12 then cFs c d ++ cs else cs
      | _ => cs) := by
    split
    · cases Nat.blt cs.length 12 with
      | true =>
        intro f hf
        rcases List.mem_append.mp hf with hf | hf
        · exact hk f hf
        · exact hc f hf
      | false => exact hc
    · exact hc
  by_cases hne : c = .ne
  · subst hne
    obtain ⟨e', h3, h4⟩ := aNe_sound h hd hr
    exact ⟨e', cs, by simp only [aIf, h3], h4, hc⟩
  · obtain ⟨e', h3, h4⟩ := aGes_sound h hk
    refine ⟨e', _, ?_, h4, h2⟩
    unfold aIf
    cases c <;> first | exact absurd rfl hne | simp only [h3]
theorem pCmp_iff {c : Jvm.ClassFile.Cond} {x y : Int32} : pCmp c x y = true ↔ cR c (x.toInt - y.toInt) := by
  cases c <;> simp only [pCmp, cR, decide_eq_true_eq]
  · rw [← Int32.toInt_inj]; omega
  · rw [← Int32.toInt_inj]; omega
  · rw [Int32.lt_iff_toInt_lt]; omega
  · rw [Int32.le_iff_toInt_le]; omega
  · rw [Int32.lt_iff_toInt_lt]; omega
  · rw [Int32.le_iff_toInt_le]; omega
