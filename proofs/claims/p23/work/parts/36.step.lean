/-! fields, lengths, and ONE STEP of the heap's instructions -/
def aGetf (G : aG) (a b : Nat) (e : aE) (F : List aFt) (r : aF) : Option (aE × aV × List aFt) := match aPl r with
  | some p => match G.1[p]? with
    | some (.inr (c, ss)) => bif c == a then (match ss[b]? with
      | some (0, lo, hi) => match aRd p (b + 2) (fC 0) lo hi e F with
        | (e', f, F') => some (e', (0, f), F')
      | some (1, k, _) => some (e, (1, fC k), F)
      | some (2, _, _) => some (e ++ [(lLO, lHI)], (2, fV e.length), F)
      | _ => none) else none
    | _ => none
  | none => none
theorem aGetf_ok {O : pOut} {G : aG} {ρ : List Int} {e : aE} (h : gE ρ e) {es : PH} (hT : hOK G.1 es) {F : List aFt} (hF : gFs O ρ es F) {a b : Nat} {r : aF} {k : Nat} (hr : evF ρ r = some (k : Int)) {q : aE × aV × List aFt} (hq : aGetf G a b e F r = some q) :
    ¬ k < 64 ∧ ∃ vs v τ, es[k - 64]? = some (.inr (a, vs)) ∧ vs[b]? = some v ∧ gE (ρ ++ τ) q.1 ∧ gV (ρ ++ τ) q.2.1 v ∧ gFs O (ρ ++ τ) es q.2.2 := by
  unfold aGetf at hq
  split at hq
  · rename_i p hp
    obtain ⟨k1, k2⟩ := aPl_ok hp hr
    refine ⟨k1, ?_⟩
    split at hq
    · rename_i c ss hT1
      cases hca : c == a with
      | false => rw [hca] at hq; cases hq
      | true =>
        rw [hca] at hq
        have : c = a := by simpa using hca
        subst this
        simp only [cond_true] at hq
        obtain ⟨z, hz, hz2⟩ := hOK_get hT hT1
        obtain ⟨vs, rfl, hvs⟩ := eOK_inr hz2
        split at hq
        · rename_i lo hi hb
          obtain ⟨v, hv, x, rfl, hx⟩ := fsOK_get hvs hb
          simp only [Option.some.injEq] at hq
          subst hq
          obtain ⟨τ, t1, t2, t3⟩ := aRd_ok (O := O) h hF (p := p) (kd := b + 2) (i := fC 0) (lo := lo) (hi := hi) (x := x) hx
            (fun g hg => by
              obtain ⟨c', vs', x', q1, q2, q3⟩ := hg
              rw [hz] at q1
              cases q1
              rw [hv] at q2
              cases q2
              exact q3)
            (fun ρ' g _ hg => ⟨c, vs, x, hz, hv, hg⟩)
          exact ⟨vs, .int x, τ, by rw [k2]; exact hz, hv, t1, ⟨x, rfl, t2⟩, t3⟩
        · rename_i k' _ hb
          obtain ⟨v, hv, kk, rfl, hx⟩ := fsOK_get hvs hb
          simp only [Option.some.injEq] at hq
          subst hq
          refine ⟨vs, .ref kk, [], by rw [k2]; exact hz, hv, by rw [List.append_nil]; exact h, ⟨kk, rfl, ?_⟩, by rw [List.append_nil]; exact hF⟩
          have hx' : (kk : Int) = k' := hx
          rw [hx']
          exact fC_ev
        · rename_i _ _ hb
          obtain ⟨v, hv, x, rfl⟩ := fsOK_get hvs hb
          simp only [Option.some.injEq] at hq
          subst hq
          obtain ⟨t1, t2⟩ := aNew_ok h (i64_rng x)
          exact ⟨vs, .long x, [x.toInt], by rw [k2]; exact hz, hv, t1, ⟨x, rfl, t2⟩, gFs_app _ hF⟩
        · cases hq
    · cases hq
  · cases hq
/-- an int or a long is put into a field -/
def aPutf (G : aG) (Mo : List aMod) (a b : Nat) (e : aE) (cs : List aF) (F : List aFt) (v : aV) (r : aF) : Option (List aFt) := match aPl r with
  | some p => match G.1[p]? with
    | some (.inr (c, ss)) => bif c == a && mIn Mo p (b + 2) 0 then (match ss[b]?, pFty a b, v.1 with
      | some (0, lo, hi), some (ty, false), 0 => bif iLe lo (pLo e cs v.2) && (iLe (pHi e cs v.2) hi && (ty == .int || (ty == .boolean && (iLe 0 (pLo e cs v.2) && iLe (pHi e cs v.2) 1)))) then some ((p, b + 2, fC 0, v.2) :: F.filter (fun t => !(t.1 == p && t.2.1 == b + 2))) else none
      | some (2, _, _), some (.long, false), 2 => some (F.filter (fun t => !(t.1 == p && t.2.1 == b + 2)))
      | _, _, _ => none) else none
    | _ => none
  | none => none
theorem i32_01 {x : Int32} (h1 : 0 ≤ x.toInt) (h2 : x.toInt ≤ 1) : x = 0 ∨ x = 1 := by
  rcases (show x.toInt = 0 ∨ x.toInt = 1 by omega) with h | h
  · exact Or.inl (Int32.toInt_inj.mp (by rw [h]; decide))
  · exact Or.inr (Int32.toInt_inj.mp (by rw [h]; decide))
theorem frE_put {Mo : List aMod} {p c b : Nat} {vs : List Value} {v : Value} (h : mIn Mo p (b + 2) 0 = true) : frE Mo p (.inr (c, vs)) (.inr (c, vs.set b v)) :=
  ⟨rfl, by rw [List.length_set], fun j hj => by
    rw [List.getElem?_set_ne]
    intro hh
    subst hh
    rw [h] at hj
    cases hj⟩
theorem gFs_put {O : pOut} {ρ : List Int} {es : PH} {F : List aFt} (hF : gFs O ρ es F) {p c b : Nat} {vs : List Value} (hz : es[p]? = some (.inr (c, vs))) (v : Value) : gFs O ρ (es.set p (.inr (c, vs.set b v))) (F.filter (fun t => !(t.1 == p && t.2.1 == b + 2))) := by
  intro w hw
  obtain ⟨w1, w2⟩ := List.mem_filter.mp hw
  have h9 := hF w w1
  have hlt : p < es.length := (List.getElem?_eq_some_iff.mp hz).1
  unfold gF1 at h9 ⊢
  simp only [Bool.not_eq_true', Bool.and_eq_false_iff, beq_eq_false_iff_ne, ne_eq] at w2
  split at h9
  · obtain ⟨ty, n', g, j, q1, q2, q3⟩ := h9
    have hwp : ¬ p = w.1 := fun hh => by rw [← hh, hz] at q1; cases q1
    exact ⟨ty, n', g, j, by rw [List.getElem?_set_ne hwp]; exact q1, q2, q3⟩
  · exact h9
  · rename_i b' hb'
    obtain ⟨c', vs', y', q1, q2, q3⟩ := h9
    by_cases hwp : p = w.1
    · subst hwp
      rw [hz] at q1
      cases q1
      have hbb : ¬ b = b' := fun hh => by
        subst hh
        rcases w2 with w2 | w2
        · exact w2 rfl
        · exact w2 hb'
      exact ⟨c, vs.set b v, y', by simp [hlt], by rw [List.getElem?_set_ne hbb]; exact q2, q3⟩
    · exact ⟨c', vs', y', by rw [List.getElem?_set_ne hwp]; exact q1, q2, q3⟩
theorem aPutf_ok {O : pOut} {G : aG} {Mo : List aMod} {ρ : List Int} {e : aE} {cs : List aF} (h : gE ρ e) (hc : gC ρ cs) {es : PH} (hT : hOK G.1 es) {F : List aFt} (hF : gFs O ρ es F) {a b : Nat} {v : aV} {r : aF} {k : Nat} {w : Value} (hr : evF ρ r = some (k : Int)) (hv : gV ρ v w) {F' : List aFt} (hq : aPutf G Mo a b e cs F v r = some F') :
    ¬ k < 64 ∧ ∃ vs ty, es[k - 64]? = some (.inr (a, vs)) ∧ pFty a b = some (ty, false) ∧ pFit ty w = true ∧ b < vs.length ∧ (match es.set (k - 64) (.inr (a, vs.set b w)) with
      | es' => hOK G.1 es' ∧ fr Mo es es' ∧ gFs O ρ es' F') := by
  unfold aPutf at hq
  split at hq
  · rename_i p hp
    obtain ⟨k1, k2⟩ := aPl_ok hp hr
    refine ⟨k1, ?_⟩
    split at hq
    · rename_i c ss hT1
      cases hca : c == a && mIn Mo p (b + 2) 0 with
      | false => rw [hca] at hq; cases hq
      | true =>
        rw [hca] at hq
        rw [Bool.and_eq_true] at hca
        obtain ⟨hca, hmi⟩ := hca
        have : c = a := by simpa using hca
        subst this
        simp only [cond_true] at hq
        obtain ⟨z, hz, hz2⟩ := hOK_get hT hT1
        obtain ⟨vs, rfl, hvs⟩ := eOK_inr hz2
        have hlt : p < es.length := (List.getElem?_eq_some_iff.mp hz).1
        split at hq
        · rename_i lo hi ty hb hty hv0
          cases hbd : iLe lo (pLo e cs v.2) && (iLe (pHi e cs v.2) hi && (ty == .int || (ty == .boolean && (iLe 0 (pLo e cs v.2) && iLe (pHi e cs v.2) 1)))) with
          | false => rw [hbd] at hq; cases hq
          | true =>
            rw [hbd] at hq
            simp only [cond_true, Option.some.injEq] at hq
            subst hq
            simp only [Bool.and_eq_true, Bool.or_eq_true, iLe_iff, beq_iff_eq] at hbd
            obtain ⟨d1, d2, d3⟩ := hbd
            obtain ⟨tg, fv⟩ := v
            simp only at hv0
            subst hv0
            obtain ⟨x, rfl, hx⟩ := hv
            have hbx : pLo e cs fv ≤ x.toInt ∧ x.toInt ≤ pHi e cs fv := pLo_le h hc hx
            simp only at d1 d2 d3
            have hfit : pFit ty (.int x) = true := by
              rcases d3 with rfl | ⟨rfl, d3, d4⟩
              · rfl
              · rcases i32_01 (x := x) (by omega) (by omega) with rfl | rfl <;> rfl
            obtain ⟨v0, hv0, x0, rfl, hx0⟩ := fsOK_get hvs hb
            refine ⟨vs, ty, by rw [k2]; exact hz, hty, hfit, (List.getElem?_eq_some_iff.mp hv0).1, ?_⟩
            rw [k2]
            refine ⟨hOK_set hT (fun tt htt => ?_), fr_set hz (frE_put hmi), fun t ht => ?_⟩
            · rw [hT1] at htt
              cases htt
              exact ⟨rfl, fsOK_set hvs b hb ⟨x, rfl, by simp only; omega, by simp only; omega⟩⟩
            · rcases List.mem_cons.mp ht with rfl | ht
              · exact ⟨c, vs.set b (.int x), x, by simp [hlt], by simp [(List.getElem?_eq_some_iff.mp hv0).1], hx⟩
              · exact gFs_put hF hz _ t ht
        · rename_i hb hty hv0
          simp only [Option.some.injEq] at hq
          subst hq
          obtain ⟨tg, fv⟩ := v
          simp only at hv0
          subst hv0
          obtain ⟨x, rfl, hx⟩ := hv
          obtain ⟨v0, hv0, x0, rfl⟩ := fsOK_get hvs hb
          refine ⟨vs, .long, by rw [k2]; exact hz, hty, rfl, (List.getElem?_eq_some_iff.mp hv0).1, ?_⟩
          rw [k2]
          refine ⟨hOK_set hT (fun tt htt => ?_), fr_set hz (frE_put hmi), gFs_put hF hz _⟩
          rw [hT1] at htt
          cases htt
          exact ⟨rfl, fsOK_set hvs b hb ⟨x, rfl⟩⟩
        · cases hq
    · cases hq
  · cases hq
def aLen (G : aG) (F : List aFt) (r : aF) : Option aF := match aPl r with
  | some p => match G.1[p]? with
    | some (.inl (_, n, _)) => bif Nat.blt n 1000000 then some (fC n) else none
    | _ => none
  | none => match r with
    | (.ofNat 7, []) => aFind 7 1 (fC 0) F
    | (.ofNat k, []) => match G.2.2[k]? with
      | some (len, _, _) => bif Nat.blt len 1000000 then some (fC len) else none
      | none => none
    | _ => none
theorem i32_ofNat {n : Nat} (h : n < 2147483648) : (Int32.ofNat n).toInt = (n : Int) := Int32.toInt_ofNat_of_lt (by simpa using h)
theorem aLen_ok {O : pOut} (hO : ∀ n g, O 7 = some (n, g) → n < 2147483648) {G : aG} (hG : gOK O G) {ρ : List Int} {es : PH} (hT : hOK G.1 es) {F : List aFt} (hF : gFs O ρ es F) {r f : aF} {k : Nat} (hr : evF ρ r = some (k : Int)) (hq : aLen G F r = some f) :
    ∃ n, pLenA O es k = some n ∧ evF ρ f = some (Int32.ofNat n).toInt := by
  unfold aLen at hq
  split at hq
  · rename_i p hp
    obtain ⟨k1, k2⟩ := aPl_ok hp hr
    split at hq
    · rename_i t n sp hT1
      cases hb : Nat.blt n 1000000 with
      | false => rw [hb] at hq; cases hq
      | true =>
        rw [hb] at hq
        simp only [cond_true, Option.some.injEq] at hq
        subst hq
        rw [Nat.blt_eq] at hb
        obtain ⟨z, hz, hz2⟩ := hOK_get hT hT1
        have hzz : ∃ w, z = .inl (t, n, w) := by
          rcases z with ⟨t', n', g | g⟩ | ⟨c, vs⟩
          · obtain ⟨rfl, rfl, -⟩ := hz2; exact ⟨_, rfl⟩
          · obtain ⟨rfl, rfl, -⟩ := hz2; exact ⟨_, rfl⟩
          · exact hz2.elim
        obtain ⟨w, rfl⟩ := hzz
        refine ⟨n, by simp only [pLenA, k1, if_false, k2, hz], ?_⟩
        rw [i32_ofNat (by omega)]
        exact fC_ev
    · cases hq
  · split at hq
    · have hk : k = 7 := by
        exact Int.ofNat.inj (fC_val (f := (Int.ofNat 7, [])) rfl hr)
      subst hk
      obtain ⟨n, g, hfact⟩ := hF _ (aFind_mem hq)
      obtain ⟨g1, g2⟩ : O 7 = some (n, g) ∧ evF ρ f = some (n : Int) := by
        rcases hfact with ⟨-, h1, h2⟩ | ⟨h0, -⟩
        · exact ⟨h1, h2⟩
        · exact absurd h0 (by show ¬ 100 ≤ 7; decide)
      refine ⟨n, by unfold pLenA; rw [if_pos (by omega), g1]; rfl, ?_⟩
      rw [i32_ofNat (hO n g g1)]
      exact g2
    · rename_i k0 _ _
      split at hq
      · rename_i len lo hh hG2
        cases hb : Nat.blt len 1000000 with
        | false => rw [hb] at hq; cases hq
        | true =>
          rw [hb] at hq
          simp only [cond_true, Option.some.injEq] at hq
          subst hq
          rw [Nat.blt_eq] at hb
          have hk : k = k0 := by
            exact Int.ofNat.inj (fC_val (f := (Int.ofNat k0, [])) rfl hr)
          subst hk
          obtain ⟨hk7, f, f1, f2⟩ := hG.2 _ _ _ _ hG2
          refine ⟨len, by unfold pLenA; rw [if_pos (by omega), f1]; rfl, ?_⟩
          rw [i32_ofNat (by omega)]
          exact fC_ev
      · cases hq
    · cases hq
/-- the categories of a stack -/
def aCat : List aV → Option Nat
  | [] => some 0
  | a :: r => match aCat r with
    | some n => bif a.1 == 2 then some (2 + n) else bif Nat.blt a.1 4 then some (1 + n) else none
    | none => none
theorem gV_cat {ρ : List Int} {a : aV} {v : Value} (h : gV ρ a v) (h4 : a.1 < 4) : v.category = if a.1 = 2 then 2 else 1 := by
  obtain ⟨k, f⟩ := a
  simp only at h4 ⊢
  rcases (show k = 0 ∨ k = 1 ∨ k = 2 ∨ k = 3 by omega) with rfl | rfl | rfl | rfl
  · obtain ⟨x, rfl, -⟩ := h; rfl
  · obtain ⟨x, rfl, -⟩ := h; rfl
  · obtain ⟨x, rfl, -⟩ := h; rfl
  · obtain ⟨x, t, rfl, -⟩ := h; rfl
theorem aCat_ok {ρ : List Int} : ∀ {st : List aV} {s : List Value} {n : Nat}, gS ρ st s → aCat st = some n → pCat s = n
  | [], [], n, _, h => by simp only [aCat, Option.some.injEq] at h; subst h; rfl
  | a :: r, v :: s, n, hS, h => by
    simp only [aCat] at h
    cases hr : aCat r with
    | none => rw [hr] at h; cases h
    | some m =>
      rw [hr] at h
      simp only at h
      have ih := aCat_ok hS.2 hr
      have e1 : pCat (v :: s) = v.category + pCat s := by simp [pCat]
      rw [e1, ih]
      cases h2 : a.1 == 2 with
      | true =>
        rw [h2] at h
        simp only [cond_true, Option.some.injEq] at h
        have h2' : a.1 = 2 := by simpa using h2
        rw [gV_cat hS.1 (by omega), if_pos h2']; exact h
      | false =>
        rw [h2] at h
        simp only [cond_false] at h
        have h2' : ¬ a.1 = 2 := by simpa using h2
        cases h3 : Nat.blt a.1 4 with
        | true =>
          rw [h3] at h
          simp only [cond_true, Option.some.injEq] at h
          rw [Nat.blt_eq] at h3
          rw [gV_cat hS.1 h3, if_neg h2']; exact h
        | false => rw [h3] at h; cases h
  | [], _ :: _, _, h, _ => h.elim
  | _ :: _, [], _, h, _ => h.elim
