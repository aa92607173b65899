/-! TWO SIDES TOGETHER: runs that are known in two ways; rows of the script; whole rows copied; printed by wip/rel -/
theorem aW_sh {O : pOut} {d j kc ks : Nat} {P Q : pRes → Prop} {σ : pSt} (h : aW O d j 0 0 P σ) (hQ : ∀ r es c k, P (r, es, c, k) → Q (r, es, kc + c, ks + k)) : aW O d j kc ks Q σ := by
  obtain ⟨n, o, e, q⟩ := h
  refine ⟨n, o, e, ?_⟩
  simp only [Nat.zero_add] at q
  exact hQ _ _ _ _ q
/-- what every contract gives: the table, what is kept, what may have changed, the room -/
def basP (Mo : List aMod) (mk ms : Nat) (es : PH) (o : pRes) : Prop := hOK tT o.2.1 ∧ gInv o.2.1 ∧ fr Mo es o.2.1 ∧ o.2.2.1 ≤ mk ∧ o.2.2.2 ≤ ms
theorem bas_of {O : pOut} {c : aCon} {mk ms : Nat} {row : pMrow} {d : Nat} {ρ : List Int} {vs : List Value} {es : PH} (h : conOK O gG gInv c) (hb : c.2.2.2.2.2.2.all (fun o => Nat.ble o.2.2.2.1 mk && Nat.ble o.2.2.2.2 ms) = true) (hr : pM[c.1]? = some row) (hd : c.2.1 ≤ d) (hE : gE ρ c.2.2.1.1) (hC : c.2.2.1.2 = []) (hS : gS ρ c.2.2.2.1 vs) (hT : hOK tT es) (hI : gInv es) (hF : c.2.2.2.2.1 = []) : aW O d c.1 0 0 (basP c.2.2.2.2.2.1 mk ms es) (0, pEntry vs row.2.2.1, [], es) := by
  obtain ⟨row', hr', r⟩ := h
  have e : row' = row := Option.some.inj (hr'.symm.trans hr)
  subst e
  refine aW_mono (Nat.le_refl _) (fun o ho => ?_) (r d hd ρ vs es hE (by rw [hC]; exact fun f hf => by cases hf) hS hT hI (by rw [hF]; exact fun t ht => by cases ht))
  obtain ⟨h1, h2, h3, out, ho, τ, -, -, -, h4, h5, -⟩ := ho
  have h6 := List.all_eq_true.mp hb out ho
  rw [Bool.and_eq_true, Nat.ble_eq, Nat.ble_eq] at h6
  exact ⟨h1, h2, h3, Nat.le_trans h4 h6.1, Nat.le_trans h5 h6.2⟩
theorem gE_nil' : gE [] [] := ⟨rfl, fun x v h => by simp at h⟩
theorem gE_cons' {a lo hi : Int} {ρ : List Int} {e : aE} (h1 : lo ≤ a ∧ a ≤ hi) (h2 : gE ρ e) : gE (a :: ρ) ((lo, hi) :: e) := by
  refine ⟨by rw [List.length_cons, List.length_cons, h2.1], fun x v hx => ?_⟩
  cases x with
  | zero => cases hx; exact h1
  | succ x => exact h2.2 x v hx
theorem gS_nil' {ρ : List Int} : gS ρ [] [] := trivial
theorem gS_consr {ρ : List Int} {k : Nat} {A : List aV} {st : List Value} (h : gS ρ A st) : gS ρ ((1, fC (k : Int)) :: A) (.ref k :: st) := ⟨⟨k, rfl, fC_ev⟩, h⟩
theorem gS_consi {ρ : List Int} {x : Nat} {a : Int} {A : List aV} {st : List Value} (ha : i32 a) (hx : ρ[x]? = some a) (h : gS ρ A st) : gS ρ ((0, fV x) :: A) (.int (zI a) :: st) := ⟨⟨zI a, rfl, by rw [zI_toInt ha]; exact fV_ev hx⟩, h⟩
section
variable {O : pOut} {d j kc ks pc q a b : Nat} {Q : pRes → Prop} {L : PL} {s : List Value} {es : PH} {ins : Instr} {ret : Option FieldType} {r : pSt}
theorem x_oald {n : Nat} {g : Nat → Int32} {x : Int} (hi : iRow j pc = some (.iaload, q, a, b, ret)) (ho : O 7 = some (n, g)) (hx : i32 x) (h0 : 0 ≤ x) (h1 : x < (n : Int)) (K : aW O d j kc ks Q (pc + 1, L, .int (zI (g x.toNat).toInt) :: s, es)) : aW O d j kc ks Q (pc, L, .int (zI x) :: .ref 7 :: s, es) := by
  obtain ⟨c1, c2⟩ := pIn_of (i := zI x) (n := n) (by rw [zI_toInt hx]; exact h0) (by rw [zI_toInt hx]; exact h1)
  have c3 : (zI x).toNatClampNeg = x.toNat := by
    rw [zI_toInt hx] at c2; omega
  rw [zI_id] at K
  refine x1 hi rfl (fun ini => ?_) rfl K
  simp only [pS1, pArrI]
  rw [if_pos (show 7 < 64 by decide), ho]
  simp only [c1, if_true, c3]
theorem x_lcmp {x y : Int64} (hi : iRow j pc = some (.lcmp, q, a, b, ret)) (K : aW O d j kc ks Q (pc + 1, L, .int (zI (sgn (x.toInt - y.toInt))) :: s, es)) : aW O d j kc ks Q (pc, L, .long y :: .long x :: s, es) := by
  have e : lg_cmp x y = zI (sgn (x.toInt - y.toInt)) := by rw [← zI_id (lg_cmp x y), lg_cmp_sgn]
  rw [← e] at K
  exact x0 (r := (pc + 1, L, .int (lg_cmp x y) :: s, es)) hi rfl K
theorem x1i (hi : iRow j pc = some (ins, q, a, b, ret)) (h0 : pS0 ins pc L s es = none) (h : ∀ ini, pS1 O ini ins q a b pc L s es = some r) (hc : pCat s ≤ 40) (K : aW O d j kc ks Q r) : aW O d j kc ks Q (pc, L, s, es) := by
  obtain ⟨row, len, h1, h2, -⟩ := iRow_at hi
  refine aW_go (c1 := 0) (k1 := 0) (nd := false) ?_ (fun h => by cases h) K
  unfold pAct
  simp only [h1, h2, h0, h]
  rw [if_neg (fun hh => absurd hh.2 (by omega))]
end
theorem sgn_z {t : Int} : sgn t = 0 ↔ t = 0 := by
  unfold sgn
  split
  · constructor <;> intro h <;> omega
  · split
    · rename_i h; exact ⟨fun _ => h, fun _ => rfl⟩
    · constructor <;> intro h <;> omega
theorem i2l_int {v : Int} (h : i32 v) : ((zI v).toInt64).toInt = v := by rw [Int32.toInt_toInt64, zI_toInt h]
/-- a whole row anew -/
def sR (es : PH) (p : Nat) (f : Nat → Int32) : PH := match es[p]? with
  | some (.inl (t, n, .inl _)) => es.set p (.inl (t, n, .inl f))
  | _ => es
theorem sR_at (es : PH) (p : Nat) (f : Nat → Int32) (q : Nat) : (sR es p f)[q]? = if q = p then (match es[p]? with
    | some (.inl (t, n, .inl _)) => some (.inl (t, n, .inl f))
    | z => z) else es[q]? := by
  unfold sR
  cases h : es[p]? with
  | none =>
    simp only
    split
    · rename_i hq; rw [hq, h]
    · rfl
  | some e =>
    have hlt : p < es.length := (List.getElem?_eq_some_iff.mp h).1
    rcases e with ⟨t, n, f' | f'⟩ | ⟨c, vs⟩
    · simp only
      rw [List.getElem?_set]
      by_cases hq : q = p
      · subst hq; simp [hlt]
      · rw [if_neg (fun hh => hq hh.symm), if_neg hq]
    · simp only
      split
      · rename_i hq; rw [hq, h]
      · rfl
    · simp only
      split
      · rename_i hq; rw [hq, h]
      · rfl
theorem gA_sR_ne {es : PH} {p p' : Nat} {f : Nat → Int32} (h : p' ≠ p) : gA (sR es p f) p' = gA es p' := by
  unfold gA; rw [sR_at, if_neg h]
theorem gFd_sR {es : PH} {p p' b : Nat} {f : Nat → Int32} : gFd (sR es p f) p' b = gFd es p' b := by
  unfold gFd; rw [sR_at]
  by_cases hp : p' = p
  · subst hp
    rw [if_pos rfl]
    cases h : es[p']? with
    | none => rfl
    | some e => rcases e with ⟨t, n, f' | f'⟩ | ⟨c, vs⟩ <;> rfl
  · rw [if_neg hp]
theorem gI_sR {es : PH} {p p' b : Nat} {f : Nat → Int32} : gI (sR es p f) p' b = gI es p' b := by unfold gI; rw [gFd_sR]
theorem gA_sR {es : PH} (h : sh es) {p t n : Nat} {sp : Nat → Int × Int} {f : Nat → Int32} (hp : tT[p]? = some (.inl (t, n, sp))) (ht : t ≠ 1) : gA (sR es p f) p = f := by
  have h1 := sh_arr h hp ht
  have h2 := sR_at es p f p
  rw [if_pos rfl, h1] at h2
  simp only at h2
  unfold gA
  rw [h2]
theorem sh_sR {es : PH} (h : sh es) {p : Nat} {f : Nat → Int32} : sh (sR es p f) := by
  unfold sR
  split
  · rename_i t n f' he
    refine hOK_set h (fun tt htt => ?_)
    have h1 := h.2 p tt _ htt he
    rcases tt with ⟨t', n', sp⟩ | ⟨c, ss⟩
    · obtain ⟨h2, h3, h4, h5⟩ := h1
      refine ⟨h2, h3, h4, fun k' hk' => ?_⟩
      unfold tT0 at htt
      rw [List.getElem?_map] at htt
      cases ht0 : tT[p]? with
      | none => rw [ht0] at htt; cases htt
      | some t0 =>
        rw [ht0] at htt
        rcases t0 with ⟨t2, n2, sp2⟩ | ⟨c2, ss2⟩
        · cases htt; exact i32_rng _
        · cases htt
    · exact h1.elim
  · exact h
section
variable {O : pOut} {d j kc ks pc q a b : Nat} {Q : pRes → Prop} {L : PL} {s : List Value} {es : PH} {ret : Option FieldType}
/-- a row is copied onto another, as long -/
theorem x_acp {ix p p2 n : Nat} {sp sp2 : Nat → Int × Int} (hi : iRow j pc = some (.invokestatic ix, q, a, 7, ret)) (hs : sh es) (hp : tT[p]? = some (.inl (0, n, sp))) (hp2 : tT[p2]? = some (.inl (0, n, sp2))) (hn : n ≤ 1000000) (hc : pCat s ≤ 20) (K : aW O d j kc ks Q (pc + 3, L, s, sR es p2 (va_cpy (gA es p) (gA es p2) 0 0 n))) : aW O d j kc ks Q (pc, L, .int (zI (n : Int)) :: .int (zI 0) :: .ref (64 + p2) :: .int (zI 0) :: .ref (64 + p) :: s, es) := by
  have h1 := sh_arr hs hp (by decide)
  have h2 := sh_arr hs hp2 (by decide)
  have hz : (zI (n : Int)).toInt = (n : Int) := zI_toInt (by unfold i32 iLO iHI; omega)
  have hnn : (zI (n : Int)).toNatClampNeg = n := by
    have h3 : (zI (n : Int)).toNatClampNeg = (zI (n : Int)).toInt.toNat := rfl
    omega
  have hn0 : ¬ zI (n : Int) < 0 := by rw [Int32.lt_iff_toInt_lt, Int32.toInt_zero]; omega
  have z0 : ¬ zI 0 < 0 := by decide
  have z1 : (zI 0).toNatClampNeg = 0 := by decide
  have hcat : pCat (.int (zI (n : Int)) :: .int (zI 0) :: .ref (64 + p2) :: .int (zI 0) :: .ref (64 + p) :: s) ≤ 40 := by
    have h4 : pCat (.int (zI (n : Int)) :: .int (zI 0) :: .ref (64 + p2) :: .int (zI 0) :: .ref (64 + p) :: s) = 1 + (1 + (1 + (1 + (1 + pCat s)))) := rfl
    omega
  have hne : ¬ (64 + p < 64 ∨ 64 + p2 < 64) := by omega
  refine x1i hi rfl (fun ini => ?_) hcat K
  simp only [pS1, if_true]
  rw [if_neg hne, show 64 + p - 64 = p by omega, show 64 + p2 - 64 = p2 by omega, h1, h2]
  simp only [hnn, z1]
  rw [if_pos ⟨z0, z0, hn0, by omega, by omega⟩]
  unfold sR
  rw [h2]
end
theorem cpy_at {f g : Nat → Int32} {n k : Nat} (h : k < n) : va_cpy f g 0 0 n k = f k := by
  rw [pk_cpy_in (Nat.zero_le k) (by omega)]
  rw [show 0 + (k - 0) = k by omega]
theorem upd_int {f : Nat → Int32} {k i : Nat} {v : Int} (h : i32 v) : (upd f k (zI v) i).toInt = if i = k then v else (f i).toInt := by
  unfold upd
  split
  · rw [zI_toInt h]
  · rfl
theorem sgn_i32 {t : Int} : iLO ≤ sgn t ∧ sgn t ≤ iHI := by
  unfold sgn iLO iHI
  split
  · omega
  · split <;> omega
theorem keepA {Mo : List aMod} {es es' : PH} (h : fr Mo es es') (hs : sh es) {p t n : Nat} {sp : Nat → Int × Int} (hp : tT[p]? = some (.inl (t, n, sp))) (ht : t ≠ 1) (hM : Mo.all (mFree [(p, 0, 0, n)]) = true) (k : Nat) (hk : k < n) : gA es' p k = gA es p k :=
  fr_gA h hs hp ht (mIn_free hM List.mem_cons_self (Nat.zero_le k) hk)
theorem keepI {Mo : List aMod} {es es' : PH} (h : fr Mo es es') (hs : sh es) {p c b : Nat} {ss : List tS} (hp : tT[p]? = some (.inr (c, ss))) (hM : Mo.all (mFree [(p, b + 2, 0, 1)]) = true) : gI es' p b = gI es p b :=
  fr_gI h hs hp (mIn_free hM List.mem_cons_self (Nat.le_refl 0) (by omega))
theorem keepJ {Mo : List aMod} {es es' : PH} (h : fr Mo es es') (hs : sh es) {p n : Nat} {sp : Nat → Int × Int} (hp : tT[p]? = some (.inl (1, n, sp))) (hM : Mo.all (mFree [(p, 0, 0, n)]) = true) (k : Nat) (hk : k < n) : gJ es' p k = gJ es p k := by
  have h0 := sh_arrL hs hp
  obtain ⟨e', h1, h2⟩ := h.2 p _ h0
  have hm := mIn_free hM List.mem_cons_self (Nat.zero_le k) hk
  unfold gJ
  rw [h1, h0]
  rcases e' with ⟨t, m, f | f⟩ | ⟨c, vs⟩
  · exact h2.elim
  · exact h2.2.2 k hm
  · exact h2.elim
theorem free_sub {P P' M : List aMod} (h : M.all (mFree P) = true) (hs : ∀ p ∈ P', p ∈ P) : M.all (mFree P') = true := by
  refine List.all_eq_true.mpr fun m hm => ?_
  have h1 := List.all_eq_true.mp h m hm
  unfold mFree at h1 ⊢
  exact List.all_eq_true.mpr fun p hp => List.all_eq_true.mp h1 p (hs p hp)
/-- a contract, whatever is kept -/
theorem cp_of {O : pOut} {I : PH → Prop} {c : aCon} {row : pMrow} {d : Nat} {ρ : List Int} {vs : List Value} {es : PH} (h : conOK O gG I c) (hr : pM[c.1]? = some row) (hd : c.2.1 ≤ d) (hE : gE ρ c.2.2.1.1) (hC : c.2.2.1.2 = []) (hS : gS ρ c.2.2.2.1 vs) (hT : hOK tT es) (hI : I es) (hF : c.2.2.2.2.1 = []) : aW O d c.1 0 0 (cPost O gG I c ρ es) (0, pEntry vs row.2.2.1, [], es) := by
  obtain ⟨row', hr', r⟩ := h
  have e : row' = row := Option.some.inj (hr'.symm.trans hr)
  subst e
  exact r d hd ρ vs es hE (by rw [hC]; exact fun f hf => by cases hf) hS hT hI (by rw [hF]; exact fun t ht => by cases ht)
theorem fact_I {O : pOut} {ρ : List Int} {es : PH} {p b : Nat} {c : Int} {ix : aF} (h : gF1 O ρ es (p, b + 2, ix, fC c)) : (gI es p b).toInt = c := by
  obtain ⟨k, vs, x, h1, h2, h3⟩ := h
  have h1' : es[p]? = some (.inr (k, vs)) := h1
  have e : gI es p b = x := by
    unfold gI gFd
    rw [h1']
    simp only [List.getD_eq_getElem?_getD, h2, Option.getD_some]
  have h3' : evF ρ (fC c) = some x.toInt := h3
  rw [fC_ev] at h3'
  rw [e]
  exact (Option.some.inj h3').symm
theorem keepF {Mo : List aMod} {es es' : PH} (h : fr Mo es es') (hs : sh es) {p t n : Nat} {sp : Nat → Int × Int} (hp : tT[p]? = some (.inl (t, n, sp))) (ht : t ≠ 1) (hM : Mo.all (fun m => !(m.1 == p && m.2.1 == 0)) = true) : gA es' p = gA es p := by
  funext k
  refine fr_gA h hs hp ht ?_
  rw [← Bool.not_eq_true]
  intro hm
  unfold mIn at hm
  rw [List.any_eq_true] at hm
  obtain ⟨m, h1, h2⟩ := hm
  have h3 := List.all_eq_true.mp hM m h1
  cases ha : (m.1 == p) with
  | false => rw [ha, Bool.false_and] at h2; cases h2
  | true =>
    cases hb : (m.2.1 == 0) with
    | false => rw [ha, hb, Bool.true_and, Bool.false_and] at h2; cases h2
    | true => exact absurd h3 (by rw [ha, hb]; decide)
theorem aK_inl {O : pOut} {d j kc ks : Nat} {σ : pSt} {rest : List Value} {v : Bool} {Q : pRes → Prop} {w : Value} {es1 : PH} (h : aW O d j kc ks Q (σ.1 + 3, σ.2.1, w :: rest, es1)) : aK O d j σ rest v Q (.inl (some w), es1, kc, ks) := h
theorem aK_nil {O : pOut} {d j kc ks : Nat} {σ : pSt} {rest : List Value} {v : Bool} {Q : pRes → Prop} {es1 : PH} (h : aW O d j kc ks Q (σ.1 + 3, σ.2.1, rest, es1)) : aK O d j σ rest v Q (.inl none, es1, kc, ks) := h
