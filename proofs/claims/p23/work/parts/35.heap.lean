/-! THE HEAP'S INSTRUCTIONS, abstractly -/
/-- a fact: place of the heap, 0 a cell | 1 (the length of an outer row, from place 100 on a cell of one) | b + 2 a field, the index, the value -/
abbrev aFt : Type := Nat × Nat × aF × aF
/-- what may change: place, 0 cells | b + 2 a field, from, behind -/
abbrev aMod : Type := Nat × Nat × Nat × Nat
/-- the table, the entries of its rows, the outer rows -/
abbrev aG : Type := List tE × List (List aEnt) × List (Nat × Int × Int)
abbrev aSS : Type := aP × List aFt
def gF1 (O : pOut) (ρ : List Int) (es : PH) (t : aFt) : Prop := match t.2.1 with
  | 0 => ∃ (ty n : Nat) (g : Nat → Int32) (k : Nat), es[t.1]? = some (.inl (ty, n, .inl g)) ∧ evF ρ t.2.2.1 = some (k : Int) ∧ evF ρ t.2.2.2 = some (g k).toInt
  | 1 => ∃ (n : Nat) (g : Nat → Int32), (t.1 < 100 ∧ O t.1 = some (n, g) ∧ evF ρ t.2.2.2 = some (n : Int)) ∨ (100 ≤ t.1 ∧ O (t.1 - 100) = some (n, g) ∧ ∃ k : Nat, evF ρ t.2.2.1 = some (k : Int) ∧ evF ρ t.2.2.2 = some (g k).toInt)
  | b + 2 => ∃ (c : Nat) (vs : List Value) (x : Int32), es[t.1]? = some (.inr (c, vs)) ∧ vs[b]? = some (.int x) ∧ evF ρ t.2.2.2 = some x.toInt
theorem gF1_app {O : pOut} {ρ : List Int} (τ : List Int) {es : PH} {t : aFt} (h : gF1 O ρ es t) : gF1 O (ρ ++ τ) es t := by
  unfold gF1 at h ⊢
  split at h
  · obtain ⟨ty, n, g, k, h1, h2, h3⟩ := h; exact ⟨ty, n, g, k, h1, evF_app τ h2, evF_app τ h3⟩
  · obtain ⟨n, g, h⟩ := h
    rcases h with ⟨h0, h1, h2⟩ | ⟨h0, h1, k, h2, h3⟩
    · exact ⟨n, g, Or.inl ⟨h0, h1, evF_app τ h2⟩⟩
    · exact ⟨n, g, Or.inr ⟨h0, h1, k, evF_app τ h2, evF_app τ h3⟩⟩
  · obtain ⟨c, vs, x, h1, h2, h3⟩ := h; exact ⟨c, vs, x, h1, h2, evF_app τ h3⟩
def gFs (O : pOut) (ρ : List Int) (es : PH) (F : List aFt) : Prop := ∀ t ∈ F, gF1 O ρ es t
theorem gFs_app {O : pOut} {ρ : List Int} (τ : List Int) {es : PH} {F : List aFt} (h : gFs O ρ es F) : gFs O (ρ ++ τ) es F := fun t ht => gF1_app τ (h t ht)
/-! frames -/
def mIn (Mo : List aMod) (p kd i : Nat) : Bool := Mo.any (fun m => m.1 == p && (m.2.1 == kd && (Nat.ble m.2.2.1 i && Nat.blt i m.2.2.2)))
def frE (Mo : List aMod) (p : Nat) : PE → PE → Prop
  | .inl (t, n, .inl g), .inl (t', n', .inl g') => t' = t ∧ n' = n ∧ ∀ i, mIn Mo p 0 i = false → g' i = g i
  | .inl (t, n, .inr g), .inl (t', n', .inr g') => t' = t ∧ n' = n ∧ ∀ i, mIn Mo p 0 i = false → g' i = g i
  | .inr (c, vs), .inr (c', vs') => c' = c ∧ vs'.length = vs.length ∧ ∀ b, mIn Mo p (b + 2) 0 = false → vs'[b]? = vs[b]?
  | _, _ => False
def fr (Mo : List aMod) (es es' : PH) : Prop := es.length ≤ es'.length ∧ ∀ p e, es[p]? = some e → ∃ e', es'[p]? = some e' ∧ frE Mo p e e'
theorem frE_refl (Mo : List aMod) (p : Nat) : ∀ e : PE, frE Mo p e e
  | .inl (_, _, .inl _) => ⟨rfl, rfl, fun _ _ => rfl⟩
  | .inl (_, _, .inr _) => ⟨rfl, rfl, fun _ _ => rfl⟩
  | .inr (_, _) => ⟨rfl, rfl, fun _ _ => rfl⟩
theorem fr_refl (Mo : List aMod) (es : PH) : fr Mo es es := ⟨Nat.le_refl _, fun p e h => ⟨e, h, frE_refl Mo p e⟩⟩
theorem frE_trans {Mo : List aMod} {p : Nat} : ∀ {a b c : PE}, frE Mo p a b → frE Mo p b c → frE Mo p a c := by
  intro a b c h1 h2
  rcases a with ⟨t, n, g | g⟩ | ⟨k, vs⟩ <;> rcases b with ⟨t', n', g' | g'⟩ | ⟨k', vs'⟩ <;> (try exact h1.elim) <;> rcases c with ⟨t2, n2, g2 | g2⟩ | ⟨k2, vs2⟩ <;> (try exact h2.elim)
  · exact ⟨h2.1.trans h1.1, h2.2.1.trans h1.2.1, fun i hi => (h2.2.2 i hi).trans (h1.2.2 i hi)⟩
  · exact ⟨h2.1.trans h1.1, h2.2.1.trans h1.2.1, fun i hi => (h2.2.2 i hi).trans (h1.2.2 i hi)⟩
  · exact ⟨h2.1.trans h1.1, h2.2.1.trans h1.2.1, fun i hi => (h2.2.2 i hi).trans (h1.2.2 i hi)⟩
theorem fr_trans {Mo : List aMod} {a b c : PH} (h1 : fr Mo a b) (h2 : fr Mo b c) : fr Mo a c := ⟨Nat.le_trans h1.1 h2.1, fun p e h => by
  obtain ⟨e1, q1, q2⟩ := h1.2 p e h
  obtain ⟨e2, q3, q4⟩ := h2.2 p e1 q1
  exact ⟨e2, q3, frE_trans q2 q4⟩⟩
def mSub (Ma Mb : List aMod) : Bool := Ma.all (fun a => Mb.any (fun b => b.1 == a.1 && (b.2.1 == a.2.1 && (Nat.ble b.2.2.1 a.2.2.1 && Nat.ble a.2.2.2 b.2.2.2))))
theorem mIn_sub {Ma Mb : List aMod} (h : mSub Ma Mb = true) {p kd i : Nat} (hi : mIn Mb p kd i = false) : mIn Ma p kd i = false := by
  rw [← Bool.not_eq_true] at hi ⊢
  intro hm
  refine hi ?_
  unfold mIn at hm ⊢
  rw [List.any_eq_true] at hm ⊢
  obtain ⟨a, ha, h1⟩ := hm
  have h2 := List.all_eq_true.mp h a ha
  rw [List.any_eq_true] at h2
  obtain ⟨b, hb, h3⟩ := h2
  refine ⟨b, hb, ?_⟩
  simp only [Bool.and_eq_true, beq_iff_eq, Nat.ble_eq, Nat.blt_eq] at h1 h3 ⊢
  omega
theorem fr_sub {Ma Mb : List aMod} (h : mSub Ma Mb = true) {a b : PH} (hf : fr Ma a b) : fr Mb a b := ⟨hf.1, fun p e he => by
  obtain ⟨e', h1, h2⟩ := hf.2 p e he
  refine ⟨e', h1, ?_⟩
  rcases e with ⟨t, n, g | g⟩ | ⟨k, vs⟩ <;> rcases e' with ⟨t', n', g' | g'⟩ | ⟨k', vs'⟩ <;> (try exact h2.elim)
  · exact ⟨h2.1, h2.2.1, fun i hi => h2.2.2 i (mIn_sub h hi)⟩
  · exact ⟨h2.1, h2.2.1, fun i hi => h2.2.2 i (mIn_sub h hi)⟩
  · exact ⟨h2.1, h2.2.1, fun i hi => h2.2.2 i (mIn_sub h hi)⟩⟩
theorem fr_set {Mo : List aMod} {es : PH} {p : Nat} {e e' : PE} (h : es[p]? = some e) (h2 : frE Mo p e e') : fr Mo es (es.set p e') := by
  refine ⟨by rw [List.length_set]; exact Nat.le_refl _, fun q x hx => ?_⟩
  have hp : p < es.length := (List.getElem?_eq_some_iff.mp h).1
  rw [List.getElem?_set]
  by_cases hq : p = q
  · subst hq
    rw [h] at hx
    cases hx
    exact ⟨e', by rw [if_pos rfl, if_pos hp], h2⟩
  · rw [if_neg hq]; exact ⟨x, hx, frE_refl Mo q x⟩
theorem fr_push (Mo : List aMod) (es : PH) (e : PE) : fr Mo es (es ++ [e]) := ⟨by rw [List.length_append]; exact Nat.le_add_right _ _, fun p x hx => ⟨x, by rw [List.getElem?_append_left (List.getElem?_eq_some_iff.mp hx).1]; exact hx, frE_refl Mo p x⟩⟩
/-- a fact that no such change reaches -/
def fKp (e : aE) (cs : List aF) (Mo : List aMod) (t : aFt) : Bool := match t.2.1 with
  | 0 => Mo.all (fun m => !(m.1 == t.1 && m.2.1 == 0) || (iLe (pHi e cs t.2.2.1) ((m.2.2.1 : Int) - 1) || iLe (m.2.2.2 : Int) (pLo e cs t.2.2.1)))
  | 1 => true
  | b + 2 => !(mIn Mo t.1 (b + 2) 0)
theorem gF1_keep {O : pOut} {ρ : List Int} {e : aE} {cs : List aF} (h : gE ρ e) (hc : gC ρ cs) {es es' : PH} {t : aFt} (ht : gF1 O ρ es t) {Mo : List aMod} (hf : fr Mo es es') (hk : fKp e cs Mo t = true) : gF1 O ρ es' t := by
  unfold gF1 at ht ⊢
  unfold fKp at hk
  split at ht
  · rename_i hz
    rw [hz] at hk
    simp only at hk
    obtain ⟨ty, n, g, k, h1, h2, h3⟩ := ht
    obtain ⟨e', q1, q2⟩ := hf.2 _ _ h1
    have hb := pLo_le h hc h2
    have hno : mIn Mo t.1 0 k = false := by
      rw [← Bool.not_eq_true]
      intro hm
      unfold mIn at hm
      rw [List.any_eq_true] at hm
      obtain ⟨m, hm1, hm2⟩ := hm
      have h9 := List.all_eq_true.mp hk m hm1
      simp only [Bool.and_eq_true, beq_iff_eq, Nat.ble_eq, Nat.blt_eq] at hm2
      simp only [Bool.or_eq_true, Bool.not_eq_true', iLe_iff, Bool.and_eq_false_iff, beq_eq_false_iff_ne, ne_eq] at h9
      rcases h9 with (h9 | h9) | h9 | h9
      · exact h9 hm2.1
      · exact h9 hm2.2.1
      · omega
      · omega
    rcases e' with ⟨t', n', g' | g'⟩ | ⟨k', vs'⟩
    · exact ⟨t', n', g', k, q1, h2, by rw [q2.2.2 k hno]; exact h3⟩
    · exact q2.elim
    · exact q2.elim
  · exact ht
  · rename_i b hz
    rw [hz] at hk
    simp only [Bool.not_eq_true'] at hk
    obtain ⟨c, vs, x, h1, h2, h3⟩ := ht
    obtain ⟨e', q1, q2⟩ := hf.2 _ _ h1
    rcases e' with ⟨t', n', g' | g'⟩ | ⟨k', vs'⟩
    · exact q2.elim
    · exact q2.elim
    · exact ⟨k', vs', x, q1, by rw [q2.2.2 b hk]; exact h2, h3⟩
theorem gFs_keep {O : pOut} {ρ : List Int} {e : aE} {cs : List aF} (h : gE ρ e) (hc : gC ρ cs) {es es' : PH} {F : List aFt} (ht : gFs O ρ es F) {Mo : List aMod} (hf : fr Mo es es') : gFs O ρ es' (F.filter (fKp e cs Mo)) := fun t hm => by
  obtain ⟨h1, h2⟩ := List.mem_filter.mp hm
  exact gF1_keep h hc (ht t h1) hf h2
def aFind (p kd : Nat) (i : aF) : List aFt → Option aF
  | [] => none
  | t :: r => bif p == t.1 && (kd == t.2.1 && i == t.2.2.1) then some t.2.2.2 else aFind p kd i r
theorem aFind_mem {p kd : Nat} {i f : aF} : ∀ {F : List aFt}, aFind p kd i F = some f → (p, kd, i, f) ∈ F
  | [], h => by cases h
  | t :: r, h => by
    simp only [aFind] at h
    cases hb : p == t.1 && (kd == t.2.1 && i == t.2.2.1) with
    | true =>
      rw [hb] at h
      simp only [cond_true, Option.some.injEq] at h
      simp only [Bool.and_eq_true, beq_iff_eq] at hb
      obtain ⟨b1, b2, b3⟩ := hb
      subst b1 b2 b3 h
      exact List.mem_cons_self
    | false =>
      rw [hb] at h
      exact List.mem_cons_of_mem _ (aFind_mem h)
/-- what is given fits -/
def gOK (O : pOut) (G : aG) : Prop := (∀ (p t n : Nat) (sp : Nat → Int × Int) (ens : List aEnt) (en : aEnt), G.1[p]? = some (.inl (t, n, sp)) → G.2.1[p]? = some ens → en ∈ ens → entOK n sp en) ∧
  (∀ (k len : Nat) (lo hi : Int), G.2.2[k]? = some (len, lo, hi) → k < 7 ∧ ∃ f, O k = some (len, f) ∧ ∀ j, j < len → lo ≤ (f j).toInt ∧ (f j).toInt ≤ hi)
/-- the place of a reference -/
def aPl (f : aF) : Option Nat := match f with
  | (.ofNat k, []) => bif Nat.ble 64 k then some (k - 64) else none
  | _ => none
theorem aPl_ok {ρ : List Int} {f : aF} {p k : Nat} (h : aPl f = some p) (hf : evF ρ f = some (k : Int)) : ¬ k < 64 ∧ k - 64 = p := by
  unfold aPl at h
  split at h
  · rename_i z
    have h1 := fC_val (f := (Int.ofNat z, [])) rfl hf
    have h2 : k = z := Int.ofNat.inj h1
    subst h2
    cases hb : Nat.ble 64 k with
    | true =>
      rw [hb] at h
      simp only [cond_true, Option.some.injEq] at h
      have : 64 ≤ k := by simpa using hb
      exact ⟨by omega, h⟩
    | false => rw [hb] at h; cases h
  · cases h
def aRd (p kd : Nat) (i : aF) (lo hi : Int) (e : aE) (F : List aFt) : aE × aF × List aFt := match aFind p kd i F with
  | some f => (e, f, F)
  | none => (e ++ [(lo, hi)], fV e.length, (p, kd, i, fV e.length) :: F)
theorem pIn_of {i : Int32} {n : Nat} (h1 : 0 ≤ i.toInt) (h2 : i.toInt < n) : pIn i n = true ∧ ((i.toNatClampNeg : Nat) : Int) = i.toInt := by
  have e1 : ((i.toNatClampNeg : Nat) : Int) = i.toInt := Int.toNat_of_nonneg h1
  refine ⟨?_, e1⟩
  unfold pIn
  rw [decide_eq_true_eq]
  intro hh
  rcases hh with hh | hh
  · rw [Int32.lt_iff_toInt_lt, Int32.toInt_zero] at hh; omega
  · omega
/-- a cell or field that is read, an int within -/
theorem aRd_ok {O : pOut} {ρ : List Int} {e : aE} (h : gE ρ e) {es : PH} {F : List aFt} (hF : gFs O ρ es F) {p kd : Nat} {i : aF} {lo hi : Int} {x : Int32} (hx : lo ≤ x.toInt ∧ x.toInt ≤ hi)
    (hu : ∀ f, gF1 O ρ es (p, kd, i, f) → evF ρ f = some x.toInt) (hn : ∀ ρ' f, (∃ τ, ρ' = ρ ++ τ) → evF ρ' f = some x.toInt → gF1 O ρ' es (p, kd, i, f)) :
    ∃ τ, gE (ρ ++ τ) (aRd p kd i lo hi e F).1 ∧ evF (ρ ++ τ) (aRd p kd i lo hi e F).2.1 = some x.toInt ∧ gFs O (ρ ++ τ) es (aRd p kd i lo hi e F).2.2 := by
  unfold aRd
  cases hf : aFind p kd i F with
  | some f =>
    refine ⟨[], ?_⟩
    rw [List.append_nil]
    exact ⟨h, hu f (hF _ (aFind_mem hf)), hF⟩
  | none =>
    obtain ⟨h1, h2⟩ := aNew_ok h (v := x.toInt) hx
    refine ⟨[x.toInt], h1, h2, fun t ht => ?_⟩
    rcases List.mem_cons.mp ht with rfl | ht
    · exact hn _ _ ⟨_, rfl⟩ h2
    · exact gF1_app _ (hF t ht)
def aEnts (G : aG) (p : Nat) (e : aE) (cs : List aF) (i : aF) : Option aEnt := match G.2.1[p]? with
  | some ens => ens.find? (aHas e cs i)
  | none => none
theorem aEnts_ok {O : pOut} {G : aG} (hG : gOK O G) {ρ : List Int} {e : aE} {cs : List aF} (h : gE ρ e) (hc : gC ρ cs) {p t n : Nat} {sp : Nat → Int × Int} (hp : G.1[p]? = some (.inl (t, n, sp))) {i : aF} {k : Int} (hi : evF ρ i = some k) {en : aEnt} (he : aEnts G p e cs i = some en) : 0 ≤ k ∧ k.toNat < n ∧ en.2.2.1.1 ≤ (sp k.toNat).1 ∧ (sp k.toNat).2 ≤ en.2.2.1.2 ∧ (en.2.2.2.1 ≤ en.2.2.2.2 → (sp k.toNat).1 ≤ en.2.2.2.1 ∧ en.2.2.2.2 ≤ (sp k.toNat).2) := by
  unfold aEnts at he
  cases hq : G.2.1[p]? with
  | none => rw [hq] at he; cases he
  | some ens =>
    rw [hq] at he
    simp only at he
    exact hG.1 p t n sp ens en hp hq (List.mem_of_find?_eq_some he) k (aHas_ok h hc hi (List.find?_some he))
/-- an int of a row is read -/
def aLdI (G : aG) (e : aE) (cs : List aF) (F : List aFt) (r i : aF) : Option (aE × aF × List aFt) := match aPl r with
  | some p => match G.1[p]? with
    | some (.inl (0, _, _)) => match aEnts G p e cs i with
      | some en => some (aRd p 0 i en.2.2.1.1 en.2.2.1.2 e F)
      | none => none
    | _ => none
  | none => match r with
    | (.ofNat 7, []) => match aFind 7 1 (fC 0) F with
      | some n => bif iLe 0 (pLo e cs i) && iLe 1 (pLo e cs (fAdd (-1) n i)) then some (aRd 107 1 i iLO iHI e F) else none
      | none => none
    | (.ofNat k, []) => match G.2.2[k]? with
      | some (len, lo, hi) => bif iLe 0 (pLo e cs i) && iLe (pHi e cs i) ((len : Int) - 1) then some (e ++ [(lo, hi)], fV e.length, F) else none
      | none => none
    | _ => none
theorem eOK_inl {t n : Nat} {sp : Nat → Int × Int} {x : PE} (h : eOK (.inl (t, n, sp)) x) (ht : t ≠ 1) : ∃ f : Nat → Int32, x = .inl (t, n, .inl f) ∧ ∀ k, k < n → (sp k).1 ≤ (f k).toInt ∧ (f k).toInt ≤ (sp k).2 := by
  rcases x with ⟨t', n', g | g⟩ | ⟨c, vs⟩
  · obtain ⟨rfl, rfl, -, h4⟩ := h; exact ⟨g, rfl, h4⟩
  · obtain ⟨-, -, h3⟩ := h; exact absurd h3 ht
  · exact h.elim
theorem eOK_inl1 {n : Nat} {sp : Nat → Int × Int} {x : PE} (h : eOK (.inl (1, n, sp)) x) : ∃ f : Nat → Int64, x = .inl (1, n, .inr f) := by
  rcases x with ⟨t', n', g | g⟩ | ⟨c, vs⟩
  · obtain ⟨-, -, h3, -⟩ := h; exact absurd rfl h3
  · obtain ⟨rfl, rfl, -⟩ := h; exact ⟨g, rfl⟩
  · exact h.elim
theorem eOK_inr {c : Nat} {ss : List tS} {x : PE} (h : eOK (.inr (c, ss)) x) : ∃ vs, x = .inr (c, vs) ∧ fsOK ss vs := by
  rcases x with ⟨t', n', g | g⟩ | ⟨c', vs⟩
  · exact h.elim
  · exact h.elim
  · obtain ⟨rfl, h2⟩ := h; exact ⟨vs, rfl, h2⟩
theorem aLdI_ok {O : pOut} {G : aG} (hG : gOK O G) {ρ : List Int} {e : aE} {cs : List aF} (h : gE ρ e) (hc : gC ρ cs) {es : PH} (hT : hOK G.1 es) {F : List aFt} (hF : gFs O ρ es F) {r i : aF} {k : Nat} {x : Int32} (hr : evF ρ r = some (k : Int)) (hi : evF ρ i = some x.toInt) {q : aE × aF × List aFt} (hq : aLdI G e cs F r i = some q) :
    ∃ n f τ, pArrI O es k = some (n, f) ∧ pIn x n = true ∧ gE (ρ ++ τ) q.1 ∧ evF (ρ ++ τ) q.2.1 = some (f x.toNatClampNeg).toInt ∧ gFs O (ρ ++ τ) es q.2.2 := by
  unfold aLdI at hq
  split at hq
  · rename_i p hp
    obtain ⟨k1, k2⟩ := aPl_ok hp hr
    split at hq
    · rename_i n sp hT1
      split at hq
      · rename_i en hen
        simp only [Option.some.injEq] at hq
        subst hq
        obtain ⟨z, hz, hz2⟩ := hOK_get hT hT1
        obtain ⟨f, rfl, hf⟩ := eOK_inl hz2 (by omega)
        obtain ⟨b1, b2, b3, b4, -⟩ := aEnts_ok hG h hc hT1 hi hen
        obtain ⟨c1, c2⟩ := pIn_of (n := n) b1 (by omega)
        have hfx := hf _ b2
        have hxe : x.toNatClampNeg = x.toInt.toNat := rfl
        obtain ⟨τ, t1, t2, t3⟩ := aRd_ok (O := O) h hF (p := p) (kd := 0) (i := i) (lo := en.2.2.1.1) (hi := en.2.2.1.2) (x := f x.toNatClampNeg) (by rw [hxe]; omega)
          (fun g hg => by
            obtain ⟨ty, n', g', k', q1, q2, q3⟩ := hg
            rw [hz] at q1
            cases q1
            rw [hi] at q2
            have : k' = x.toNatClampNeg := by
              have := Option.some.inj q2; omega
            subst this
            exact q3)
          (fun ρ' g ⟨τ, hτ⟩ hg => ⟨0, n, f, x.toNatClampNeg, hz, by rw [hτ, c2]; exact evF_app τ hi, hg⟩)
        refine ⟨n, f, τ, ?_, c1, t1, t2, t3⟩
        simp only [pArrI, k1, if_false, k2, hz]
      · cases hq
    · cases hq
  · rename_i hp
    split at hq
    · split at hq
      · rename_i n hn
        cases hb : iLe 0 (pLo e cs i) && iLe 1 (pLo e cs (fAdd (-1) n i)) with
        | false => rw [hb] at hq; cases hq
        | true =>
          rw [hb] at hq
          simp only [cond_true, Option.some.injEq] at hq
          subst hq
          simp only [Bool.and_eq_true, iLe_iff] at hb
          have hk : k = 7 := by
            exact Int.ofNat.inj (fC_val (f := (Int.ofNat 7, [])) rfl hr)
          subst hk
          obtain ⟨nn, g, hfact⟩ := hF _ (aFind_mem hn)
          obtain ⟨g1, g2⟩ : O 7 = some (nn, g) ∧ evF ρ n = some (nn : Int) := by
            rcases hfact with ⟨-, h1, h2⟩ | ⟨h0, -⟩
            · exact ⟨h1, h2⟩
            · exact absurd h0 (by show ¬ 100 ≤ 7; decide)
          have b1 := (pLo_le h hc hi).1
          have b2 : pLo e cs (fAdd (-1) n i) ≤ (nn : Int) + -1 * x.toInt := (pLo_le h hc (fAdd_ev (k := -1) g2 hi)).1
          obtain ⟨c1, c2⟩ := pIn_of (i := x) (n := nn) (by omega) (by omega)
          obtain ⟨τ, t1, t2, t3⟩ := aRd_ok (O := O) h hF (p := 107) (kd := 1) (i := i) (lo := iLO) (hi := iHI) (x := g x.toNatClampNeg) (i32_rng _)
            (fun f' hg => by
              obtain ⟨n', g', hg⟩ := hg
              rcases hg with ⟨h0, -⟩ | ⟨-, q1, k', q2, q3⟩
              · exact absurd h0 (by show ¬ 107 < 100; decide)
              · have q1' : O 7 = some (n', g') := q1
                rw [g1] at q1'
                cases q1'
                have q2' : evF ρ i = some (k' : Int) := q2
                rw [hi] at q2'
                have : k' = x.toNatClampNeg := by
                  have := Option.some.inj q2'; omega
                subst this
                exact q3)
            (fun ρ' f' ⟨τ, hτ⟩ hg => ⟨nn, g, Or.inr ⟨(by show 100 ≤ 107; decide), g1, x.toNatClampNeg, by rw [hτ, c2]; exact evF_app τ hi, hg⟩⟩)
          exact ⟨nn, g, τ, by unfold pArrI; rw [if_pos (by omega)]; exact g1, c1, t1, t2, t3⟩
      · cases hq
    · rename_i k0 _
      split at hq
      · rename_i len lo hh hG2
        cases hb : iLe 0 (pLo e cs i) && iLe (pHi e cs i) ((len : Int) - 1) with
        | false => rw [hb] at hq; cases hq
        | true =>
          rw [hb] at hq
          simp only [cond_true, Option.some.injEq] at hq
          subst hq
          simp only [Bool.and_eq_true, iLe_iff] at hb
          have hk : k = k0 := by
            exact Int.ofNat.inj (fC_val (f := (Int.ofNat k0, [])) rfl hr)
          subst hk
          obtain ⟨hk7, f, f1, f2⟩ := hG.2 _ _ _ _ hG2
          have b1 := pLo_le h hc hi
          obtain ⟨c1, c2⟩ := pIn_of (i := x) (n := len) (by omega) (by omega)
          obtain ⟨t1, t2⟩ := aNew_ok h (f2 x.toNatClampNeg (by omega))
          exact ⟨len, f, [(f x.toNatClampNeg).toInt], by unfold pArrI; rw [if_pos (by omega)]; exact f1, c1, t1, t2, gFs_app _ hF⟩
      · cases hq
    · cases hq
/-- facts that a store at i of p leaves -/
def aKf (e : aE) (cs : List aF) (p : Nat) (i : aF) (t : aFt) : Bool := !(t.1 == p && t.2.1 == 0) || (iLe 1 (pLo e cs (fAdd (-1) t.2.2.1 i)) || iLe (pHi e cs (fAdd (-1) t.2.2.1 i)) (-1))
def mHas (Mo : List aMod) (p kd : Nat) (lo hi : Int) : Bool := Mo.any (fun m => m.1 == p && (m.2.1 == kd && (iLe (m.2.2.1 : Int) lo && iLe hi ((m.2.2.2 : Int) - 1))))
theorem mHas_ok {Mo : List aMod} {p kd k : Nat} {lo hi : Int} (h : mHas Mo p kd lo hi = true) (h1 : lo ≤ k) (h2 : (k : Int) ≤ hi) : mIn Mo p kd k = true := by
  unfold mHas at h
  unfold mIn
  rw [List.any_eq_true] at h ⊢
  obtain ⟨m, hm, h3⟩ := h
  refine ⟨m, hm, ?_⟩
  simp only [Bool.and_eq_true, beq_iff_eq, iLe_iff, Nat.ble_eq, Nat.blt_eq] at h3 ⊢
  omega
/-- an int is stored in a row of type t -/
def aStI (G : aG) (Mo : List aMod) (t : Nat) (e : aE) (cs : List aF) (F : List aFt) (r i v : aF) : Option (List aFt) := match aPl r with
  | some p => match G.1[p]? with
    | some (.inl (t', _, _)) => bif t' == t then (match aEnts G p e cs i with
      | some en => bif iLe en.2.2.2.1 (pLo e cs v) && (iLe (pHi e cs v) en.2.2.2.2 && mHas Mo p 0 (pLo e cs i) (pHi e cs i)) then some ((p, 0, i, v) :: F.filter (aKf e cs p i)) else none
      | none => none) else none
    | _ => none
  | none => none
theorem aStI_ok {O : pOut} {G : aG} {Mo : List aMod} (hG : gOK O G) {ρ : List Int} {e : aE} {cs : List aF} (h : gE ρ e) (hc : gC ρ cs) {es : PH} (hT : hOK G.1 es) {F : List aFt} (hF : gFs O ρ es F) {r i v : aF} {t k : Nat} {x y : Int32} (ht : t ≠ 1) (hr : evF ρ r = some (k : Int)) (hi : evF ρ i = some x.toInt) (hv : evF ρ v = some y.toInt) {F' : List aFt} (hq : aStI G Mo t e cs F r i v = some F') :
    ∃ n f, ¬ k < 64 ∧ es[k - 64]? = some (.inl (t, n, .inl f)) ∧ pIn x n = true ∧ (match es.set (k - 64) (.inl (t, n, .inl (upd f x.toNatClampNeg y))) with
      | es' => hOK G.1 es' ∧ fr Mo es es' ∧ gFs O ρ es' F') := by
  unfold aStI at hq
  split at hq
  · rename_i p hp
    obtain ⟨k1, k2⟩ := aPl_ok hp hr
    split at hq
    · rename_i t' n sp hT1
      cases htt : t' == t with
      | false => rw [htt] at hq; cases hq
      | true =>
        rw [htt] at hq
        have : t' = t := by simpa using htt
        subst this
        simp only [cond_true] at hq
        split at hq
        · rename_i en hen
          cases hb : iLe en.2.2.2.1 (pLo e cs v) && (iLe (pHi e cs v) en.2.2.2.2 && mHas Mo p 0 (pLo e cs i) (pHi e cs i)) with
          | false => rw [hb] at hq; cases hq
          | true =>
            rw [hb] at hq
            simp only [cond_true, Option.some.injEq] at hq
            subst hq
            simp only [Bool.and_eq_true, iLe_iff] at hb
            obtain ⟨v1, v2, hm⟩ := hb
            obtain ⟨z, hz, hz2⟩ := hOK_get hT hT1
            obtain ⟨f, rfl, hf⟩ := eOK_inl hz2 ht
            obtain ⟨b1, b2, b3, b4, b5⟩ := aEnts_ok hG h hc hT1 hi hen
            obtain ⟨c1, c2⟩ := pIn_of (n := n) b1 (by omega)
            have bi := pLo_le h hc hi
            have bv := pLo_le h hc hv
            have hxe : x.toNatClampNeg = x.toInt.toNat := rfl
            have hmi : mIn Mo p 0 x.toNatClampNeg = true := mHas_ok hm (by omega) (by omega)
            refine ⟨n, f, k1, by rw [k2]; exact hz, c1, ?_⟩
            rw [k2]
            have hlt : p < es.length := (List.getElem?_eq_some_iff.mp hz).1
            refine ⟨hOK_set hT (fun tt htt => ?_), fr_set hz ⟨rfl, rfl, fun j hj => ?_⟩, fun w hw => ?_⟩
            · rw [hT1] at htt
              cases htt
              refine ⟨rfl, rfl, ht, fun j hj => ?_⟩
              unfold upd
              split
              · rename_i hjx
                subst hjx
                have := b5 (by omega)
                rw [hxe]; omega
              · exact hf j hj
            · unfold upd
              rw [if_neg (fun hh => by rw [hh, hmi] at hj; cases hj)]
            · rcases List.mem_cons.mp hw with rfl | hw
              · exact ⟨t', n, upd f x.toNatClampNeg y, x.toNatClampNeg, by simp [hlt], by rw [c2]; exact hi, by simp only [upd, if_pos]; exact hv⟩
              · obtain ⟨w1, w2⟩ := List.mem_filter.mp hw
                have h9 := hF w w1
                unfold gF1 at h9 ⊢
                unfold aKf at w2
                split at h9
                · rename_i hw0
                  obtain ⟨ty, n', g, j, q1, q2, q3⟩ := h9
                  by_cases hwp : w.1 = p
                  · rw [hwp] at q1 ⊢
                    rw [hz] at q1
                    cases q1
                    have hbd := pLo_le h hc (fAdd_ev (k := -1) q2 hi)
                    rw [hwp, hw0] at w2
                    simp only [beq_self_eq_true, Bool.and_self, Bool.not_true, Bool.false_or, Bool.or_eq_true, iLe_iff] at w2
                    have hjx : j ≠ x.toNatClampNeg := fun hh => by
                      rw [hh] at hbd; omega
                    exact ⟨t', n, upd f x.toNatClampNeg y, j, by simp [hlt], q2, by simp only [upd, if_neg hjx]; exact q3⟩
                  · exact ⟨ty, n', g, j, by rw [List.getElem?_set_ne (fun hh => hwp hh.symm)]; exact q1, q2, q3⟩
                · exact h9
                · obtain ⟨c, vs, y', q1, q2, q3⟩ := h9
                  refine ⟨c, vs, y', ?_, q2, q3⟩
                  have hwp : ¬ p = w.1 := fun hh => by rw [← hh, hz] at q1; cases q1
                  rw [List.getElem?_set_ne hwp]; exact q1
        · cases hq
    · cases hq
  · cases hq
