/-! A RUN from a state to its cuts and ends; methods that are read in place, contracts of the others -/
abbrev aOut : Type := (aE × List aF) × (Nat × aV) × List aFt × Nat × Nat
/-- method, depth, variables, values handed in, facts, what may change, ends -/
abbrev aCon : Type := Nat × Nat × (aE × List aF) × List aV × List aFt × List aMod × List aOut
abbrev aRes : Type := Nat × aSS × Nat × Nat
def aAll {α β : Type} (f : α → Option (List β)) : List α → Option (List β)
  | [] => some []
  | x :: r => match f x with
    | none => none
    | some A => match aAll f r with
      | none => none
      | some B => some (A ++ B)
theorem aAll_mem {α β : Type} {f : α → Option (List β)} : ∀ {l : List α} {R : List β}, aAll f l = some R → ∀ x ∈ l, ∃ A, f x = some A ∧ ∀ y ∈ A, y ∈ R
  | [], _, _, x, hx => by cases hx
  | a :: r, R, h, x, hx => by
    simp only [aAll] at h
    cases hf : f a with
    | none => rw [hf] at h; cases h
    | some A =>
      rw [hf] at h
      simp only at h
      cases hr : aAll f r with
      | none => rw [hr] at h; cases h
      | some B =>
        rw [hr] at h
        simp only [Option.some.injEq] at h
        subst h
        rcases List.mem_cons.mp hx with rfl | hx
        · exact ⟨A, hf, fun y hy => List.mem_append_left _ hy⟩
        · obtain ⟨A', h1, h2⟩ := aAll_mem hr x hx
          exact ⟨A', h1, fun y hy => List.mem_append_right _ (h2 y hy)⟩
/-- forms over other forms -/
def fSub (θ : List aF) (f : aF) : aF := f.2.foldr (fun t g => fAdd t.1 g (θ.getD t.2 (fC 0))) (fC f.1)
theorem fSub_ev {ρ ρ' : List Int} {θ : List aF} (hθ : ∀ x v, ρ'[x]? = some v → evF ρ (θ.getD x (fC 0)) = some v) {f : aF} {t : Int} (hf : evF ρ' f = some t) : evF ρ (fSub θ f) = some t := by
  obtain ⟨c, A⟩ := f
  have key : ∀ (A : List (Int × Nat)) (s : Int), evT ρ' A = some s → evF ρ (A.foldr (fun t g => fAdd t.1 g (θ.getD t.2 (fC 0))) (fC c)) = some (c + s) := by
    intro A
    induction A with
    | nil =>
      intro s hs
      rw [evT_nil] at hs
      subst hs
      simp only [List.foldr_nil, Int.add_zero]
      exact fC_ev
    | cons p r ih =>
      intro s hs
      obtain ⟨a, x⟩ := p
      obtain ⟨v, w, h1, h2, h3⟩ := evT_cons.mp hs
      simp only [List.foldr_cons]
      rw [fAdd_ev (ih w h2) (hθ x v h1), h3]
      congr 1
      omega
  obtain ⟨s, h1, rfl⟩ := evF_iff.mp hf
  exact key A s h1
def fWf (n : Nat) (f : aF) : Bool := f.2.all (fun t => Nat.blt t.2 n)
theorem fWf_ev {ρ : List Int} {f : aF} (h : fWf ρ.length f = true) : ∃ t, evF ρ f = some t := by
  obtain ⟨c, A⟩ := f
  have key : ∀ (A : List (Int × Nat)), A.all (fun t => Nat.blt t.2 ρ.length) = true → ∃ s, evT ρ A = some s := by
    intro A
    induction A with
    | nil => intro _; exact ⟨0, rfl⟩
    | cons p r ih =>
      intro hs
      obtain ⟨a, x⟩ := p
      simp only [List.all_cons, Bool.and_eq_true, Nat.blt_eq] at hs
      obtain ⟨w, hw⟩ := ih hs.2
      exact ⟨_, evT_cons.mpr ⟨ρ[x]'hs.1, w, List.getElem?_eq_getElem hs.1, hw, rfl⟩⟩
  obtain ⟨s, hs⟩ := key A h
  exact ⟨c + s, evF_iff.mpr ⟨s, hs, rfl⟩⟩
/-! a pattern: which forms its variables stand for -/
def bSet (x : Nat) (f : aF) (θ : List (Option aF)) : List (Option aF) := match θ[x]? with
  | some none => θ.set x (some f)
  | _ => θ
def bV (p a : aV) (θ : List (Option aF)) : List (Option aF) := match p with
  | (_, (c, [(k, x)])) => bif k == 0 then θ else bSet x ((a.2.1 - c) / k, a.2.2.map (fun t => (t.1 / k, t.2))) θ
  | _ => θ
def bVs : List aV → List aV → List (Option aF) → List (Option aF)
  | p :: ps, a :: as, θ => bVs ps as (bV p a θ)
  | _, _, θ => θ
def bFs (F : List aFt) : List aFt → List (Option aF) → List (Option aF)
  | [], θ => θ
  | t :: r, θ => bFs F r (match F.find? (fun u => u.1 == t.1 && (u.2.1 == t.2.1 && (Nat.ble 2 t.2.1 || u.2.2.1 == fSub (θ.map (fun o => o.getD (fC 0))) t.2.2.1))) with
    | some u => bV (0, t.2.2.2) (0, u.2.2.2) θ
    | none => θ)
def bAll : List (Option aF) → Option (List aF)
  | [] => some []
  | some f :: r => match bAll r with
    | some l => some (f :: l)
    | none => none
  | none :: _ => none
def fSame (e : aE) (cs : List aF) (f g : aF) : Bool := f == g || (iLe 0 (pLo e cs (fAdd (-1) f g)) && iLe (pHi e cs (fAdd (-1) f g)) 0)
theorem fSame_ok {ρ : List Int} {e : aE} {cs : List aF} (h : gE ρ e) (hc : gC ρ cs) {f g : aF} {s t : Int} (hf : evF ρ f = some s) (hg : evF ρ g = some t) (hs : fSame e cs f g = true) : s = t := by
  unfold fSame at hs
  rw [Bool.or_eq_true] at hs
  rcases hs with hs | hs
  · have : f = g := by simpa using hs
    subst this
    rw [hf] at hg
    exact Option.some.inj hg
  · simp only [Bool.and_eq_true, iLe_iff] at hs
    have := pLo_le h hc (fAdd_ev (k := -1) hf hg)
    omega
def cV (e : aE) (cs : List aF) (θ : List aF) (p a : aV) : Bool := Nat.ble 4 p.1 || (p.1 == a.1 && (fWf θ.length p.2 && fSame e cs (fSub θ p.2) a.2))
def cVs (e : aE) (cs : List aF) (θ : List aF) : List aV → List aV → Bool
  | [], [] => true
  | p :: ps, a :: as => cV e cs θ p a && cVs e cs θ ps as
  | _, _ => false
def cI (e : aE) (cs : List aF) : List aF → aE → Bool
  | [], [] => true
  | f :: r, q :: s => iLe q.1 (pLo e cs f) && (iLe (pHi e cs f) q.2 && cI e cs r s)
  | _, _ => false
def cFt (e : aE) (cs : List aF) (F : List aFt) (θ : List aF) (t : aFt) : Bool := F.any (fun u => u.1 == t.1 && (u.2.1 == t.2.1 && ((Nat.ble 2 t.2.1 || (fWf θ.length t.2.2.1 && fSame e cs (fSub θ t.2.2.1) u.2.2.1)) && (fWf θ.length t.2.2.2 && fSame e cs (fSub θ t.2.2.2) u.2.2.2))))
/-- the pattern fits: its variables' forms -/
def aFit (nv : Nat) (eP : aE) (csP : List aF) (AP : List aV) (FP : List aFt) (e : aE) (cs : List aF) (A : List aV) (F : List aFt) : Option (List aF) := match bAll (bFs F FP (bVs AP A ((List.range nv).map (fun x => some (fV x)) ++ List.replicate (eP.length - nv) none))) with
  | none => none
  | some θ => bif θ.all (fWf e.length) && (cI e cs θ eP && (cVs e cs θ AP A && (csP.all (fun f => fWf θ.length f && iLe 0 (pLo e cs (fSub θ f))) && FP.all (cFt e cs F θ)))) then some θ else none
section
variable {O : pOut} {ρ ρ' : List Int} {e : aE} {cs : List aF} {θ : List aF}
theorem gV_map {ρ1 ρ2 : List Int} {k : Nat} {f g : aF} {v : Value} (hm : ∀ t, evF ρ1 f = some t → evF ρ2 g = some t) (h : gV ρ1 (k, f) v) : gV ρ2 (k, g) v := by
  rcases (show k = 0 ∨ k = 1 ∨ k = 2 ∨ k = 3 ∨ 4 ≤ k by omega) with rfl | rfl | rfl | rfl | h4
  · obtain ⟨x, h1, h2⟩ := h; exact ⟨x, h1, hm _ h2⟩
  · obtain ⟨x, h1, h2⟩ := h; exact ⟨x, h1, hm _ h2⟩
  · obtain ⟨x, h1, h2⟩ := h; exact ⟨x, h1, hm _ h2⟩
  · obtain ⟨x, t, h1, h2, h3⟩ := h; exact ⟨x, t, h1, hm _ h2, h3⟩
  · unfold gV
    simp only
    split <;> first | omega | trivial
theorem cV_ok (h : gE ρ e) (hc : gC ρ cs) (hl : ρ'.length = θ.length) (hθ : ∀ x v, ρ'[x]? = some v → evF ρ (θ.getD x (fC 0)) = some v) {p a : aV} (hk : cV e cs θ p a = true) {v : Value} (hv : gV ρ a v) : gV ρ' p v := by
  unfold cV at hk
  rw [Bool.or_eq_true] at hk
  obtain ⟨k, f⟩ := p
  rcases hk with hk | hk
  · have hk' : 4 ≤ k := by simpa using hk
    unfold gV
    simp only
    split <;> first | omega | trivial
  · simp only [Bool.and_eq_true, beq_iff_eq] at hk
    obtain ⟨k1, k2, k3⟩ := hk
    obtain ⟨k', g⟩ := a
    simp only at k1 k2 k3
    subst k1
    rw [← hl] at k2
    obtain ⟨t, ht⟩ := fWf_ev k2
    have ht2 := fSub_ev hθ ht
    exact gV_map (fun t' h' => by rw [ht, fSame_ok h hc ht2 h' k3]) hv
theorem cVs_S (h : gE ρ e) (hc : gC ρ cs) (hl : ρ'.length = θ.length) (hθ : ∀ x v, ρ'[x]? = some v → evF ρ (θ.getD x (fC 0)) = some v) : ∀ {AP A : List aV} {s : List Value}, cVs e cs θ AP A = true → gS ρ A s → gS ρ' AP s
  | [], [], [], _, _ => trivial
  | p :: ps, a :: as, v :: s, hk, hS => by
    simp only [cVs, Bool.and_eq_true] at hk
    exact ⟨cV_ok h hc hl hθ hk.1 hS.1, cVs_S h hc hl hθ hk.2 hS.2⟩
  | [], _ :: _, _, hk, _ => by simp [cVs] at hk
  | _ :: _, [], _, hk, _ => by simp [cVs] at hk
  | [], [], _ :: _, _, hS => hS.elim
  | _ :: _, _ :: _, [], _, hS => hS.elim
theorem cVs_L (h : gE ρ e) (hc : gC ρ cs) (hl : ρ'.length = θ.length) (hθ : ∀ x v, ρ'[x]? = some v → evF ρ (θ.getD x (fC 0)) = some v) : ∀ {AP A : List aV} {L : PL}, cVs e cs θ AP A = true → gL ρ A L → gL ρ' AP L
  | [], [], [], _, _ => trivial
  | p :: ps, a :: as, o :: s, hk, hS => by
    simp only [cVs, Bool.and_eq_true] at hk
    refine ⟨?_, cVs_L h hc hl hθ hk.2 hS.2⟩
    by_cases h4 : 4 ≤ p.1
    · exact Or.inl h4
    · have hk1 := hk.1
      have hta : p.1 = a.1 := by
        unfold cV at hk1
        simp only [Bool.or_eq_true, Bool.and_eq_true, beq_iff_eq, Nat.ble_eq] at hk1
        rcases hk1 with h5 | h5
        · exact absurd h5 h4
        · exact h5.1
      rcases hS.1 with h5 | ⟨v, rfl, hv⟩
      · omega
      · exact Or.inr ⟨v, rfl, cV_ok h hc hl hθ hk1 hv⟩
  | [], _ :: _, _, hk, _ => by simp [cVs] at hk
  | _ :: _, [], _, hk, _ => by simp [cVs] at hk
  | [], [], _ :: _, _, hS => hS.elim
  | _ :: _, _ :: _, [], _, hS => hS.elim
theorem cI_ok (h : gE ρ e) (hc : gC ρ cs) : ∀ {θ : List aF} {eP : aE} {ρ' : List Int}, cI e cs θ eP = true → ρ'.length = θ.length → (∀ x v, ρ'[x]? = some v → evF ρ (θ.getD x (fC 0)) = some v) → gE ρ' eP
  | [], [], ρ', _, hl, _ => by
    have : ρ' = [] := List.length_eq_zero_iff.mp hl
    subst this
    exact ⟨rfl, fun x v hx => by simp at hx⟩
  | f :: r, q :: s, [], _, hl, _ => by simp at hl
  | f :: r, q :: s, w :: ρ', hk, hl, hθ => by
    simp only [cI, Bool.and_eq_true, iLe_iff] at hk
    obtain ⟨k1, k2, k3⟩ := hk
    have ih := cI_ok h hc (ρ' := ρ') k3 (by simpa using hl) (fun x v hx => by
      have := hθ (x + 1) v (by simpa using hx)
      simpa using this)
    have h0 := hθ 0 w rfl
    have hb := pLo_le h hc (f := f) (by simpa using h0)
    refine ⟨by simp only [List.length_cons]; rw [ih.1], fun x v hx => ?_⟩
    cases x with
    | zero =>
      simp only [List.getElem?_cons_zero, Option.some.injEq] at hx
      subst hx
      simp only [List.getD_cons_zero]; omega
    | succ x =>
      simp only [List.getElem?_cons_succ] at hx
      simpa using ih.2 x v hx
  | [], _ :: _, _, hk, _, _ => by simp [cI] at hk
  | _ :: _, [], _, hk, _, _ => by simp [cI] at hk
theorem cFt_ok (h : gE ρ e) (hc : gC ρ cs) (hl : ρ'.length = θ.length) (hθ : ∀ x v, ρ'[x]? = some v → evF ρ (θ.getD x (fC 0)) = some v) {es : PH} {F : List aFt} (hF : gFs O ρ es F) {t : aFt} (hk : cFt e cs F θ t = true) : gF1 O ρ' es t := by
  unfold cFt at hk
  rw [List.any_eq_true] at hk
  obtain ⟨u, hu, hk⟩ := hk
  simp only [Bool.and_eq_true, beq_iff_eq] at hk
  obtain ⟨k1, k2, k3, k4, k5⟩ := hk
  have hf := hF u hu
  obtain ⟨p, kd, i, f⟩ := t
  obtain ⟨p', kd', i', f'⟩ := u
  simp only at k1 k2 k3 k4 k5
  subst k1 k2
  rw [← hl] at k4
  obtain ⟨s, hs⟩ := fWf_ev k4
  have hs2 := fSub_ev hθ hs
  have hidx : Nat.ble 2 kd' = false → ∀ z, evF ρ i' = some z → evF ρ' i = some z := fun hkd z hz => by
    rw [hkd] at k3
    simp only [Bool.false_or, Bool.and_eq_true] at k3
    obtain ⟨k3, k6⟩ := k3
    rw [← hl] at k3
    obtain ⟨z', hz'⟩ := fWf_ev k3
    rw [hz', fSame_ok h hc (fSub_ev hθ hz') hz k6]
  unfold gF1 at hf ⊢
  simp only at hf ⊢
  split at hf
  · obtain ⟨ty, n, g, k, q1, q2, q3⟩ := hf
    exact ⟨ty, n, g, k, q1, hidx rfl _ q2, by rw [hs, fSame_ok h hc hs2 q3 k5]⟩
  · obtain ⟨n, g, hf⟩ := hf
    rcases hf with ⟨q0, q1, q2⟩ | ⟨q0, q1, k, q2, q3⟩
    · exact ⟨n, g, Or.inl ⟨q0, q1, by rw [hs, fSame_ok h hc hs2 q2 k5]⟩⟩
    · exact ⟨n, g, Or.inr ⟨q0, q1, k, hidx rfl _ q2, by rw [hs, fSame_ok h hc hs2 q3 k5]⟩⟩
  · obtain ⟨c, vs, x, q1, q2, q3⟩ := hf
    exact ⟨c, vs, x, q1, q2, by rw [hs, fSame_ok h hc hs2 q3 k5]⟩
/-- forms that are within have values -/
theorem ev_all (h : ∀ f ∈ θ, fWf ρ.length f = true) : ∃ ρ' : List Int, ρ'.length = θ.length ∧ ∀ x v, ρ'[x]? = some v → evF ρ (θ.getD x (fC 0)) = some v := by
  induction θ with
  | nil => exact ⟨[], rfl, fun x v hx => by simp at hx⟩
  | cons f r ih =>
    obtain ⟨ρ', h1, h2⟩ := ih (fun g hg => h g (List.mem_cons_of_mem _ hg))
    obtain ⟨t, ht⟩ := fWf_ev (h f List.mem_cons_self)
    refine ⟨t :: ρ', by simp [h1], fun x v hx => ?_⟩
    cases x with
    | zero => simp at hx; subst hx; simpa using ht
    | succ x => simp only [List.getElem?_cons_succ] at hx; simpa using h2 x v hx
theorem aFit_ok (h : gE ρ e) (hc : gC ρ cs) {es : PH} {F : List aFt} (hF : gFs O ρ es F) {nv : Nat} {eP : aE} {csP : List aF} {AP A : List aV} {FP : List aFt} (hq : aFit nv eP csP AP FP e cs A F = some θ) :
    ∃ ρ' : List Int, ρ'.length = θ.length ∧ (∀ x v, ρ'[x]? = some v → evF ρ (θ.getD x (fC 0)) = some v) ∧ gE ρ' eP ∧ gC ρ' csP ∧ gFs O ρ' es FP ∧ cVs e cs θ AP A = true := by
  unfold aFit at hq
  split at hq
  · cases hq
  · rename_i θ' hb
    cases hk : θ'.all (fWf e.length) && (cI e cs θ' eP && (cVs e cs θ' AP A && (csP.all (fun f => fWf θ'.length f && iLe 0 (pLo e cs (fSub θ' f))) && FP.all (cFt e cs F θ')))) with
    | false => rw [hk] at hq; cases hq
    | true =>
      rw [hk] at hq
      simp only [cond_true, Option.some.injEq] at hq
      subst hq
      simp only [Bool.and_eq_true] at hk
      obtain ⟨k0, k1, k2, k3, k4⟩ := hk
      obtain ⟨ρ', hl, hθ⟩ := ev_all (ρ := ρ) (θ := θ') (fun f hf => by rw [h.1]; exact List.all_eq_true.mp k0 f hf)
      refine ⟨ρ', hl, hθ, cI_ok h hc k1 hl hθ, fun f hf => ?_, fun t ht => cFt_ok h hc hl hθ hF (List.all_eq_true.mp k4 t ht), k2⟩
      have h9 := List.all_eq_true.mp k3 f hf
      simp only [Bool.and_eq_true, iLe_iff] at h9
      obtain ⟨t, ht⟩ := fWf_ev (ρ := ρ') (f := f) (by rw [hl]; exact h9.1)
      have := (pLo_le h hc (fSub_ev hθ ht)).1
      exact ⟨t, ht, by omega⟩
end
