/-! the class's write: calls by contract, the new object, the copy -/
theorem i_20_0 : iRow 20 0 = some (.aload_n 0, 0, 0, 0, none) := rfl
theorem i_20_1 : iRow 20 1 = some (.iconst 0, 0, 0, 0, none) := rfl
theorem i_20_2 : iRow 20 2 = some (.aload_n 1, 0, 0, 0, none) := rfl
theorem i_20_3 : iRow 20 3 = some (.iconst 0, 0, 0, 0, none) := rfl
theorem i_20_4 : iRow 20 4 = some (.aload_n 0, 0, 0, 0, none) := rfl
theorem i_20_5 : iRow 20 5 = some (.arraylength, 0, 0, 0, none) := rfl
theorem i_20_6 : iRow 20 6 = some (.aload_n 1, 0, 0, 0, none) := rfl
theorem i_20_7 : iRow 20 7 = some (.arraylength, 0, 0, 0, none) := rfl
theorem i_20_8 : iRow 20 8 = some (.invokestatic 398, 27, 21, 0, none) := rfl
theorem i_20_11 : iRow 20 11 = some (.invokestatic 403, 28, 0, 7, none) := rfl
theorem i_20_14 : iRow 20 14 = some (.return_, 0, 0, 0, none) := rfl
section
variable {xs : Nat → Int32} {n0 d kc ks : Nat} {Q : pRes → Prop} {es : PH}
theorem con_int {c : aCon} (h : conOK (pO0 xs n0) gG (fun _ => True) c) (hd : c.2.1 ≤ d) {ρ : List Int} {vs : List Value} {zrw : pMrow} (hrow : pM[c.1]? = some zrw) (hE : gE ρ c.2.2.1.1) (hC : c.2.2.1.2 = []) (hS : gS ρ c.2.2.2.1 vs) (hT : hOK tT es) (hF : c.2.2.2.2.1 = []) (ho : c.2.2.2.2.2.2.all (fun o => Nat.beq o.2.1.1 1 && (Nat.beq o.2.1.2.1 0 && (Nat.beq o.2.2.2.1 0 && Nat.beq o.2.2.2.2 0))) = true)
    (K : ∀ (es1 : PH) (a : Int), hOK tT es1 → fr c.2.2.2.2.2.1 es es1 → i32 a → (∃ out ∈ c.2.2.2.2.2.2, ∃ τ, gE (ρ ++ τ) out.1.1 ∧ evF (ρ ++ τ) out.2.1.2.2 = some a) → Q (.inl (some (.int (zI a))), es1, kc, ks)) : aW (pO0 xs n0) d c.1 kc ks Q (0, pEntry vs zrw.2.2.1, [], es) := by
  obtain ⟨zr2, hr2, h2⟩ := h
  cases Option.some.inj (hr2.symm.trans hrow)
  refine aW_shift (h2 d hd ρ _ es hE (by rw [hC]; intro f hf; cases hf) hS hT trivial (by rw [hF]; intro t ht; cases ht)) (fun o hoo => ?_)
  obtain ⟨p1, -, p2, out, hout, τ, q1, q2, q3, q4, q5, q6⟩ := hoo
  have hz := List.all_eq_true.mp ho out hout
  simp only [Bool.and_eq_true, Nat.beq_eq] at hz
  obtain ⟨⟨oE, oc⟩, ⟨ok, vk, vf⟩, oF, m1, m2⟩ := out
  obtain ⟨r, es', c1, c2⟩ := o
  simp only at hz
  obtain ⟨z1, z2, z3, z4⟩ := hz
  subst z1; subst z2; subst z3; subst z4
  obtain ⟨w, h3, x, rfl, hx⟩ := q6
  simp only at h3 q4 q5
  subst h3
  have e1 : c1 = 0 := by omega
  have e2 : c2 = 0 := by omega
  subst e1; subst e2
  have := K es' x.toInt p1 p2 (i32_rng x) ⟨_, hout, τ, q1, hx⟩
  rw [zI_id] at this
  exact this
theorem con_void {c : aCon} (h : conOK (pO0 xs n0) gG (fun _ => True) c) (hd : c.2.1 ≤ d) {ρ : List Int} {vs : List Value} {zrw : pMrow} (hrow : pM[c.1]? = some zrw) (hE : gE ρ c.2.2.1.1) (hC : c.2.2.1.2 = []) (hS : gS ρ c.2.2.2.1 vs) (hT : hOK tT es) (hF : c.2.2.2.2.1 = []) (ho : c.2.2.2.2.2.2.all (fun o => Nat.beq o.2.1.1 0 && (Nat.beq o.2.2.2.1 0 && Nat.beq o.2.2.2.2 0)) = true)
    (K : ∀ (es1 : PH), hOK tT es1 → fr c.2.2.2.2.2.1 es es1 → Q (.inl none, es1, kc, ks)) : aW (pO0 xs n0) d c.1 kc ks Q (0, pEntry vs zrw.2.2.1, [], es) := by
  obtain ⟨zr2, hr2, h2⟩ := h
  cases Option.some.inj (hr2.symm.trans hrow)
  refine aW_shift (h2 d hd ρ _ es hE (by rw [hC]; intro f hf; cases hf) hS hT trivial (by rw [hF]; intro t ht; cases ht)) (fun o hoo => ?_)
  obtain ⟨p1, -, p2, out, hout, τ, q1, q2, q3, q4, q5, q6⟩ := hoo
  have hz := List.all_eq_true.mp ho out hout
  simp only [Bool.and_eq_true, Nat.beq_eq] at hz
  obtain ⟨⟨oE, oc⟩, ⟨ok, vk, vf⟩, oF, m1, m2⟩ := out
  obtain ⟨r, es', c1, c2⟩ := o
  simp only at hz
  obtain ⟨z1, z3, z4⟩ := hz
  subst z1; subst z3; subst z4
  simp only at q6 q4 q5
  subst q6
  have e1 : c1 = 0 := by omega
  have e2 : c2 = 0 := by omega
  subst e1; subst e2
  exact K es' p1 p2
end
theorem gE_all {ρ : List Int} {e : aE} (hl : ρ.length = e.length) (he : e.all (fun q => decide (q = (iLO, iHI))) = true) (h : ∀ v ∈ ρ, i32 v) : gE ρ e := by
  refine ⟨hl, fun x v hx => ?_⟩
  have hv := h v (List.mem_of_getElem? hx)
  have hxl : x < e.length := by rw [← hl]; exact (List.getElem?_eq_some_iff.mp hx).1
  have := List.all_eq_true.mp he _ (List.getElem_mem hxl)
  simp only [decide_eq_true_eq] at this
  have e1 : e.getD x (0, 0) = (iLO, iHI) := by rw [List.getD_eq_getElem?_getD, List.getElem?_eq_getElem hxl, this]; rfl
  show (e.getD x (0, 0)).1 ≤ v ∧ v ≤ (e.getD x (0, 0)).2
  rw [e1]
  exact hv
theorem gV_i {ρ : List Int} {x : Nat} {a : Int} (ha : i32 a) (h : ρ[x]? = some a) : gV ρ (0, (.ofNat 0, [(.ofNat 1, x)])) (.int (zI a)) := by
  refine ⟨zI a, rfl, ?_⟩
  show evF ρ (fV x) = _
  rw [zI_toInt ha]
  exact fV_ev h
theorem mIn_hi {M : List aMod} {p k i : Nat} (h : M.all (fun m => Nat.blt m.1 108) = true) (hp : 108 ≤ p) : mIn M p k i = false := by
  rw [← Bool.not_eq_true]
  intro hm
  unfold mIn at hm
  rw [List.any_eq_true] at hm
  obtain ⟨m, hm1, hm2⟩ := hm
  have h4 := List.all_eq_true.mp h m hm1
  simp only [Bool.and_eq_true, beq_iff_eq] at hm2
  rw [Nat.blt_eq] at h4
  omega
section
variable {O : pOut} {d j kc ks pc q a b : Nat} {Q : pRes → Prop} {L : PL} {s : List Value} {es : PH}
theorem x_putp {f p c len : Nat} {vs : List Value} {v : Value} {zrw : pMrow} {ty : FieldType} {fin : Bool} (hr : pM[j]? = some zrw) (hat : pAt zrw.2.2.2.2.2.2 pc = some (.putfield f, len, q, c, b)) (hini : (!fin || (zrw.1.name == "<init>" && zrw.2.2.2.2.1 == c)) = true) (h1 : es[p]? = some (.inr (c, vs))) (hty : pFty c b = some (ty, fin)) (hfit : pFit ty v = true) (hlt : b < vs.length) (K : aW O d j kc ks Q (pc + 3, L, s, es.set p (.inr (c, vs.set b v)))) : aW O d j kc ks Q (pc, L, v :: .ref (64 + p) :: s, es) := by
  refine aW_go (c1 := 0) (k1 := 0) (nd := false) ?_ (fun h => by cases h) K
  have h64 : ¬ 64 + p < 64 := by omega
  have e : ∀ ini, (!fin || ini) = true → pS1 O ini (.putfield f) q c b pc L (v :: .ref (64 + p) :: s) es = some (pc + 3, L, s, es.set p (.inr (c, vs.set b v))) := fun ini hi => by
    simp only [pS1]
    rw [if_neg h64, show 64 + p - 64 = p by omega, h1]
    simp only [if_true, hty, hfit, hlt, hi, decide_true, Bool.and_self]
  have h0 : pS0 (.putfield f) pc L (v :: .ref (64 + p) :: s) es = none := rfl
  unfold pAct
  simp only [hr, hat, h0, e _ hini]
  rw [if_neg (fun hh => by cases hh.1)]
theorem x1v {ins : Instr} {ret : Option FieldType} {r : pSt} (hi : iRow j pc = some (ins, q, a, b, ret)) (h0 : pS0 ins pc L s es = none) (h : ∀ ini, pS1 O ini ins q a b pc L s es = some r) (hv : pCat s ≤ 40) (K : aW O d j kc ks Q r) : aW O d j kc ks Q (pc, L, s, es) := by
  obtain ⟨zrw, len, h1, h2, -⟩ := iRow_at hi
  refine aW_go (c1 := 0) (k1 := 0) (nd := false) ?_ (fun h => by cases h) K
  unfold pAct
  simp only [h1, h2, h0, h]
  rw [if_neg (fun hh => by have := hh.2; omega)]
theorem writer_init {lp : Nat} {vs : List Value} {se : Int} (ho0 : es[lp]? = some (.inr (10, vs))) (h3 : vs.length = 3) (K : Q (.inl none, es.set lp (.inr (10, [.ref 71, .ref 93, .int (zI se)])), kc, ks)) :
    aW O d 124 kc ks Q (0, [some (.ref (64 + lp)), some (.ref 71), some (.ref 93), some (.int (zI se))], [], es) := by
  obtain ⟨v0, v1, v2, rfl⟩ : ∃ v0 v1 v2, vs = [v0, v1, v2] := by
    match vs, h3 with
    | [v0, v1, v2], _ => exact ⟨v0, v1, v2, rfl⟩
  have ho := ho0
  have hl : lp < es.length := (List.getElem?_eq_some_iff.mp ho).1
  have h64 : ¬ 64 + lp < 64 := by omega
  refine x0 (r := (1, [some (.ref (64 + lp)), some (.ref 71), some (.ref 93), some (.int (zI se))], [.ref (64 + lp)], es)) i_124_0 rfl ?_
  refine aW_go (c1 := 0) (k1 := 0) (nd := false) (r := (4, [some (.ref (64 + lp)), some (.ref 71), some (.ref 93), some (.int (zI se))], [], es)) ?_ (fun h => by cases h) ?_
  · obtain ⟨zrw, len, h1, h2, -⟩ := iRow_at i_124_1
    have e : ∀ ini, pS1 O ini (.invokespecial 3) 171 0 6 1 [some (.ref (64 + lp)), some (.ref 71), some (.ref 93), some (.int (zI se))] [.ref (64 + lp)] es = some (4, [some (.ref (64 + lp)), some (.ref 71), some (.ref 93), some (.int (zI se))], [], es) := fun ini => by
      simp only [pS1, if_true]
      rw [if_neg h64]
    have h0 : pS0 (.invokespecial 3) 1 [some (.ref (64 + lp)), some (.ref 71), some (.ref 93), some (.int (zI se))] [.ref (64 + lp)] es = none := rfl
    unfold pAct
    simp only [h1, h2, h0, e]
    rw [if_neg (fun hh => by have h9 : 40 < 1 := hh.2; omega)]
  refine x0 (r := (5, [some (.ref (64 + lp)), some (.ref 71), some (.ref 93), some (.int (zI se))], [.ref (64 + lp)], es)) i_124_4 rfl ?_
  refine x0 (r := (6, [some (.ref (64 + lp)), some (.ref 71), some (.ref 93), some (.int (zI se))], [.ref 71, .ref (64 + lp)], es)) i_124_5 rfl ?_
  refine x_putp (j := 124) rfl rfl (by decide +kernel) ho rfl rfl (by show (_ : Nat) < 3; decide) ?_
  refine x0 (r := (10, [some (.ref (64 + lp)), some (.ref 71), some (.ref 93), some (.int (zI se))], [.ref (64 + lp)], _)) i_124_9 rfl ?_
  refine x0 (r := (11, [some (.ref (64 + lp)), some (.ref 71), some (.ref 93), some (.int (zI se))], [.ref 93, .ref (64 + lp)], _)) i_124_10 rfl ?_
  refine x_putp (j := 124) rfl rfl (by decide +kernel) (List.getElem?_set_self hl) rfl rfl (by show (_ : Nat) < 3; decide) ?_
  refine x0 (r := (15, [some (.ref (64 + lp)), some (.ref 71), some (.ref 93), some (.int (zI se))], [.ref (64 + lp)], _)) i_124_14 rfl ?_
  refine x0 (r := (16, [some (.ref (64 + lp)), some (.ref 71), some (.ref 93), some (.int (zI se))], [.int (zI se), .ref (64 + lp)], _)) i_124_15 rfl ?_
  refine x_putp (j := 124) rfl rfl (by decide +kernel) (List.getElem?_set_self (by rw [List.length_set]; exact hl)) rfl rfl (by show (_ : Nat) < 3; decide) ?_
  refine x_ret (v := none) i_124_19 rfl (fun _ => rfl) rfl rfl rfl ?_
  rw [List.set_set, List.set_set]
  exact K
theorem draw_spec {lp : Nat} {sd : Int} (ho : es[lp]? = some (.inr (10, [.ref 71, .ref 93, .int (zI sd)]))) (K : ∀ sd' v : Int, 0 ≤ v ∧ v ≤ 32767 → Q (.inl (some (.int (zI v))), es.set lp (.inr (10, [.ref 71, .ref 93, .int (zI sd')])), kc, ks)) :
    aW O d 126 kc ks Q (0, [some (.ref (64 + lp))], [], es) := by
  have hl : lp < es.length := (List.getElem?_eq_some_iff.mp ho).1
  refine x0 (r := (1, [some (.ref (64 + lp))], [.ref (64 + lp)], es)) i_126_0 rfl ?_
  refine x1 (r := (3, [some (.ref (64 + lp))], [.int (zI 1103515245), .ref (64 + lp)], es)) i_126_1 rfl (fun _ => rfl) rfl ?_
  refine x0 (r := (4, [some (.ref (64 + lp))], [.ref (64 + lp), .int (zI 1103515245), .ref (64 + lp)], es)) i_126_3 rfl ?_
  refine x_getp i_126_4 ho rfl ?_
  refine x_imul i_126_7 ?_
  refine x0 (r := (11, [some (.ref (64 + lp))], [.int (zI 12345), .int (zI (1103515245 * sd)), .ref (64 + lp)], es)) i_126_8 rfl ?_
  refine x_iadd i_126_11 ?_
  refine x_putp (j := 126) rfl rfl rfl ho rfl rfl (by show (_ : Nat) < 3; decide) ?_
  refine x0 (r := (16, [some (.ref (64 + lp))], [.ref (64 + lp)], _)) i_126_15 rfl ?_
  refine x_getp i_126_16 (List.getElem?_set_self hl) rfl ?_
  refine x0 (r := (21, [some (.ref (64 + lp))], [.int (zI 16), .int (zI (1103515245 * sd + 12345))], _)) i_126_19 rfl ?_
  refine x_op i_126_21 rfl rfl ?_
  refine x0 (r := (25, [some (.ref (64 + lp))], [.int (zI 32767), .int (zI _)], _)) i_126_22 rfl ?_
  refine x_op i_126_25 rfl rfl ?_
  refine x_ret i_126_26 rfl (fun _ => rfl) rfl rfl rfl ?_
  exact K _ _ (i32_and (y := zI 32767) (by decide))
theorem pCall_s {p n ix : Nat} {zrw : pMrow} {st vs rs tl : List Value} (hn : zrw.2.2.2.2.2.1 = n) (hv : (st.take n).reverse = vs) (hr : st.drop n = rs) (hv2 : vs = .ref (64 + p) :: tl) (hb : b = 2 ∨ b = 5) (h15 : (zrw.2.2.2.2.1 == 15) = false) (hl : Nat.ble (pCat (st.take n)) zrw.2.2.1 = true) (hn2 : Nat.ble n st.length = true) (h8 : Nat.ble (pCat (st.drop n)) 8 = true) : pCall (.invokespecial ix) a b zrw st es = some (vs, rs) := by
  have h15' : ¬ zrw.2.2.2.2.1 = 15 := by simpa using h15
  rw [Nat.ble_eq] at hl hn2 h8
  have hcond : ¬ (zrw.2.2.2.2.1 = 15 ∨ zrw.2.2.1 < pCat (st.take n) ∨ st.length < n ∨ 8 < pCat (st.drop n)) := by omega
  have h64 : ¬ 64 + p < 64 := by omega
  unfold pCall
  rw [hn, if_neg hcond]
  simp only
  rw [if_pos hb, hv, hv2]
  simp only
  rw [if_neg h64, hr]
end
theorem copy_spec {O : pOut} {d kc ks : Nat} {Q : pRes → Prop} {es : PH} (hT : hOK tT es) (K : ∀ es', es'.length = es.length → hOK tT es' → fr [(30, 0, 0, 36)] es es' → (∀ p, p ≠ 30 → es'[p]? = es[p]?) → Q (.inl none, es', kc, ks)) : aW O (d + 1) 20 kc ks Q (0, [some (.ref 75), some (.ref 94)], [], es) := by
  have hs := sh_of hT
  have h11 := sh_arr hs (p := 11) (t := 0) (n := 36) rfl (by decide)
  have h30 := sh_arr hs (p := 30) (t := 0) (n := 36) rfl (by decide)
  refine x0 (r := (1, [some (.ref 75), some (.ref 94)], [.ref 75], es)) i_20_0 rfl ?_
  refine x0 (r := (2, [some (.ref 75), some (.ref 94)], [.int (zI 0), .ref 75], es)) i_20_1 rfl ?_
  refine x0 (r := (3, [some (.ref 75), some (.ref 94)], [.ref 94, .int (zI 0), .ref 75], es)) i_20_2 rfl ?_
  refine x0 (r := (4, [some (.ref 75), some (.ref 94)], [.int (zI 0), .ref 94, .int (zI 0), .ref 75], es)) i_20_3 rfl ?_
  refine x0 (r := (5, [some (.ref 75), some (.ref 94)], [.ref 75, .int (zI 0), .ref 94, .int (zI 0), .ref 75], es)) i_20_4 rfl ?_
  refine x_alen (p := 11) (n := 36) i_20_5 hs rfl ?_
  refine x0 (r := (7, [some (.ref 75), some (.ref 94)], [.ref 94, .int (zI 36), .int (zI 0), .ref 94, .int (zI 0), .ref 75], es)) i_20_6 rfl ?_
  refine x_alen (p := 30) (n := 36) i_20_7 hs rfl ?_
  refine x_min (x := 36) (y := 36) i_20_8 (by unfold i32 iLO iHI; omega) (by unfold i32 iLO iHI; omega) (by decide) ?_
  refine x1v (r := (14, [some (.ref 75), some (.ref 94)], [], es.set 30 (.inl (0, 36, .inl (va_cpy (gA es 11) (gA es 30) 0 0 36))))) i_20_11 rfl (fun _ => ?_) (by decide) ?_
  · show (match es[75 - 64]?, es[94 - 64]? with
      | some (.inl (0, n0, .inl f)), some (.inl (0, n1, .inl g)) => _
      | _, _ => none) = _
    rw [show 75 - 64 = 11 from rfl, show 94 - 64 = 30 from rfl, h11, h30]
    rfl
  refine x_ret (v := none) i_20_14 rfl (fun _ => rfl) rfl rfl rfl ?_
  refine K _ (by rw [List.length_set]) (hOK_set hT (fun t ht => ?_)) (fr_set h30 ⟨rfl, rfl, fun i hi => ?_⟩) (fun p hp => List.getElem?_set_ne (Ne.symm hp))
  · have : t = _ := (Option.some.inj ht).symm
    subst this
    exact ⟨rfl, rfl, by decide, fun k hk => i32_rng _⟩
  · have h36 : 36 ≤ i := by
      rcases Nat.lt_or_ge i 36 with h | h
      · have : mIn [(30, 0, 0, 36)] 30 0 i = true := mIn_of (lo := 0) (hi := 36) (by decide) (by omega) h
        rw [this] at hi; cases hi
      · exact h
    unfold va_cpy
    rw [if_neg (by omega)]
