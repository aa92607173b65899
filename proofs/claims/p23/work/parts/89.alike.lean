/-! alike of the class: a row of its own, at a new place -/
section
variable {O : pOut} {d j kc ks pc q a b : Nat} {Q : pRes → Prop} {L : PL} {s : List Value} {es : PH} {ret : Option FieldType}
theorem x_alenp {p t n : Nat} {w : (Nat → Int32) ⊕ (Nat → Int64)} (hi' : iRow j pc = some (.arraylength, q, a, b, ret)) (hw : es[p]? = some (.inl (t, n, w))) (K : aW O d j kc ks Q (pc + 1, L, .int (zI n) :: s, es)) : aW O d j kc ks Q (pc, L, .ref (64 + p) :: s, es) := by
  refine x1 hi' rfl (fun ini => ?_) rfl K
  simp only [pS1, pLenA]
  have h64 : ¬ 64 + p < 64 := by omega
  rw [if_neg h64, show 64 + p - 64 = p by omega, hw]
  rfl
theorem x_ialdp {p n : Nat} {f : Nat → Int32} {x : Int} (hi' : iRow j pc = some (.iaload, q, a, b, ret)) (h2 : es[p]? = some (.inl (0, n, .inl f))) (hx : i32 x) (h0 : 0 ≤ x) (h1 : x < n) (K : aW O d j kc ks Q (pc + 1, L, .int (zI (f x.toNat).toInt) :: s, es)) : aW O d j kc ks Q (pc, L, .int (zI x) :: .ref (64 + p) :: s, es) := by
  obtain ⟨c1, c2⟩ := pIn_of (i := zI x) (n := n) (by rw [zI_toInt hx]; exact h0) (by rw [zI_toInt hx]; exact h1)
  have c3 : (zI x).toNatClampNeg = x.toNat := by
    rw [zI_toInt hx] at c2; omega
  rw [zI_id] at K
  refine x1 hi' rfl (fun ini => ?_) rfl K
  simp only [pS1, pArrI]
  have h64 : ¬ 64 + p < 64 := by omega
  rw [if_neg h64, show 64 + p - 64 = p by omega, h2]
  simp only [c1, if_true, c3]
theorem x_iastp {p n : Nat} {f : Nat → Int32} {x v : Int} (hi' : iRow j pc = some (.iastore, q, a, b, ret)) (h2 : es[p]? = some (.inl (0, n, .inl f))) (hx : i32 x) (h0 : 0 ≤ x) (h1 : x < n) (K : aW O d j kc ks Q (pc + 1, L, s, es.set p (.inl (0, n, .inl (upd f x.toNat (zI v)))))) : aW O d j kc ks Q (pc, L, .int (zI v) :: .int (zI x) :: .ref (64 + p) :: s, es) := by
  obtain ⟨c1, c2⟩ := pIn_of (i := zI x) (n := n) (by rw [zI_toInt hx]; exact h0) (by rw [zI_toInt hx]; exact h1)
  have c3 : (zI x).toNatClampNeg = x.toNat := by
    rw [zI_toInt hx] at c2; omega
  refine x1 hi' rfl (fun ini => ?_) rfl K
  simp only [pS1]
  have h64 : ¬ 64 + p < 64 := by omega
  rw [if_neg h64, show 64 + p - 64 = p by omega, h2]
  simp only [c1, if_true, c3]
end
theorem atp {O : pOut} {d kc ks p n : Nat} {Q : pRes → Prop} {es : PH} {f : Nat → Int32} {x : Int} (hp : es[p]? = some (.inl (0, n, .inl f))) (hn : n ≤ 2147483647) (hx : i32 x) (K : ∀ a : Int, i32 a → Q (.inl (some (.int (zI a))), es, kc, ks)) : aW O d 28 kc ks Q (0, [some (.ref (64 + p)), some (.int (zI x))], [], es) := by
  have hxx := hx
  unfold i32 iLO iHI at hxx
  have K0 : aW O d 28 kc ks Q (16, [some (.ref (64 + p)), some (.int (zI x))], [], es) := by
    refine x0 (r := (17, [some (.ref (64 + p)), some (.int (zI x))], [.int (zI 0)], es)) i_28_16 rfl ?_
    refine x_ret (v := some (.int (zI 0))) i_28_17 rfl (fun _ => rfl) rfl rfl rfl ?_
    exact K 0 (by unfold i32 iLO iHI; omega)
  refine x0 (r := (1, [some (.ref (64 + p)), some (.int (zI x))], [.int (zI x)], es)) i_28_0 rfl ?_
  by_cases c : x < 0
  · exact x_ifT i_28_1 hx rfl (by simp only [zC, cR]; omega) K0
  · refine x_ifF i_28_1 hx rfl (by simp only [zC, cR]; omega) ?_
    refine x0 (r := (5, [some (.ref (64 + p)), some (.int (zI x))], [.int (zI x)], es)) i_28_4 rfl ?_
    refine x0 (r := (6, [some (.ref (64 + p)), some (.int (zI x))], [.ref (64 + p), .int (zI x)], es)) i_28_5 rfl ?_
    refine x_alenp i_28_6 hp ?_
    by_cases c2 : (n : Int) ≤ x
    · exact x_cmpT i_28_7 hx (by unfold i32 iLO iHI; omega) rfl (by simp only [zC, cR]; omega) K0
    · refine x_cmpF i_28_7 hx (by unfold i32 iLO iHI; omega) rfl (by simp only [zC, cR]; omega) ?_
      refine x0 (r := (11, [some (.ref (64 + p)), some (.int (zI x))], [.ref (64 + p)], es)) i_28_10 rfl ?_
      refine x0 (r := (12, [some (.ref (64 + p)), some (.int (zI x))], [.int (zI x), .ref (64 + p)], es)) i_28_11 rfl ?_
      refine x_ialdp i_28_12 hp hx (by omega) (by omega) ?_
      refine x0 (r := (17, [some (.ref (64 + p)), some (.int (zI x))], [.int (zI (f x.toNat).toInt)], es)) i_28_13 rfl ?_
      refine x_ret (v := some (.int (zI (f x.toNat).toInt))) i_28_17 rfl (fun _ => rfl) rfl rfl rfl ?_
      exact K _ (i32_rng _)
theorem setp {O : pOut} {d kc ks p n : Nat} {Q : pRes → Prop} {es : PH} {f : Nat → Int32} {x v : Int} (hp : es[p]? = some (.inl (0, n, .inl f))) (hn : n ≤ 2147483647) (hx : i32 x) (K0 : Q (.inl none, es, kc, ks)) (K : ∀ f', Q (.inl none, es.set p (.inl (0, n, .inl f')), kc, ks)) : aW O d 14 kc ks Q (0, [some (.ref (64 + p)), some (.int (zI x)), some (.int (zI v))], [], es) := by
  have hxx := hx
  unfold i32 iLO iHI at hxx
  have k14 : ∀ es' : PH, Q (.inl none, es', kc, ks) → aW O d 14 kc ks Q (14, [some (.ref (64 + p)), some (.int (zI x)), some (.int (zI v))], [], es') := fun es' h => x_ret (v := none) i_14_14 rfl (fun _ => rfl) rfl rfl rfl h
  refine x0 (r := (1, [some (.ref (64 + p)), some (.int (zI x)), some (.int (zI v))], [.int (zI x)], es)) i_14_0 rfl ?_
  by_cases c : x < 0
  · exact x_ifT i_14_1 hx rfl (by simp only [zC, cR]; omega) (k14 _ K0)
  · refine x_ifF i_14_1 hx rfl (by simp only [zC, cR]; omega) ?_
    refine x0 (r := (5, [some (.ref (64 + p)), some (.int (zI x)), some (.int (zI v))], [.int (zI x)], es)) i_14_4 rfl ?_
    refine x0 (r := (6, [some (.ref (64 + p)), some (.int (zI x)), some (.int (zI v))], [.ref (64 + p), .int (zI x)], es)) i_14_5 rfl ?_
    refine x_alenp i_14_6 hp ?_
    by_cases c2 : (n : Int) ≤ x
    · exact x_cmpT i_14_7 hx (by unfold i32 iLO iHI; omega) rfl (by simp only [zC, cR]; omega) (k14 _ K0)
    · refine x_cmpF i_14_7 hx (by unfold i32 iLO iHI; omega) rfl (by simp only [zC, cR]; omega) ?_
      refine x0 (r := (11, [some (.ref (64 + p)), some (.int (zI x)), some (.int (zI v))], [.ref (64 + p)], es)) i_14_10 rfl ?_
      refine x0 (r := (12, [some (.ref (64 + p)), some (.int (zI x)), some (.int (zI v))], [.int (zI x), .ref (64 + p)], es)) i_14_11 rfl ?_
      refine x0 (r := (13, [some (.ref (64 + p)), some (.int (zI x)), some (.int (zI v))], [.int (zI v), .int (zI x), .ref (64 + p)], es)) i_14_12 rfl ?_
      refine x_iastp i_14_13 hp hx (by omega) (by omega) ?_
      exact k14 _ (K _)
theorem like_call {xs : Nat → Int32} {n0 d kc ks : Nat} {Q : pRes → Prop} {es : PH} {fi n se m : Int} (hn : n0 ≤ 3584) (hd : 2 ≤ d) (hT : hOK tT es) (i1 : i32 fi) (i2 : i32 n) (i3 : i32 se) (i4 : i32 m)
    (K : ∀ (es1 : PH) (b : Int), hOK tT es1 → fr [] es es1 → 0 ≤ b ∧ b ≤ 1 → Q (.inl (some (.int (zI b))), es1, kc, ks)) : aW (pO0 xs n0) d 56 kc ks Q (0, [some (.ref 71), some (.int (zI fi)), some (.int (zI n)), some (.int (zI se)), some (.int (zI m)), none, none], [], es) := by
  obtain ⟨zrw, hrow, h⟩ := kv_119 (aWd_T (xs := xs) hn)
  have hrr := Option.some.inj (hrow.symm.trans (show pM[56]? = some _ from rfl))
  subst hrr
  have hE : gE [fi, n, se, m] kc_119.2.2.1.1 := by
    refine ⟨rfl, fun x v hx => ?_⟩
    match x with
    | 0 => simp only [List.getElem?_cons_zero, Option.some.injEq] at hx; subst hx; exact i1
    | 1 => simp only [List.getElem?_cons_succ, List.getElem?_cons_zero, Option.some.injEq] at hx; subst hx; exact i2
    | 2 => simp only [List.getElem?_cons_succ, List.getElem?_cons_zero, Option.some.injEq] at hx; subst hx; exact i3
    | 3 => simp only [List.getElem?_cons_succ, List.getElem?_cons_zero, Option.some.injEq] at hx; subst hx; exact i4
    | x + 4 => simp at hx
  have hS : gS [fi, n, se, m] kc_119.2.2.2.1 [.ref 71, .int (zI fi), .int (zI n), .int (zI se), .int (zI m)] :=
    ⟨⟨71, rfl, rfl⟩, ⟨zI fi, rfl, by show evF _ (fV 0) = _; rw [zI_toInt i1]; exact fV_ev rfl⟩, ⟨zI n, rfl, by show evF _ (fV 1) = _; rw [zI_toInt i2]; exact fV_ev rfl⟩, ⟨zI se, rfl, by show evF _ (fV 2) = _; rw [zI_toInt i3]; exact fV_ev rfl⟩, ⟨zI m, rfl, by show evF _ (fV 3) = _; rw [zI_toInt i4]; exact fV_ev rfl⟩, trivial⟩
  refine aW_shift (h d hd [fi, n, se, m] _ es hE (fun f hf => by cases hf) hS hT trivial (fun t ht => by cases ht)) (fun o ho => ?_)
  obtain ⟨p1, -, p2, out, hout, τ, q1, q2, q3, q4, q5, q6⟩ := ho
  obtain ⟨r, es', oc, ok⟩ := o
  simp only [kc_119, List.mem_cons, List.not_mem_nil, or_false] at hout
  have key : oc ≤ 0 ∧ ok ≤ 0 ∧ ∃ b : Int, r = .inl (some (.int (zI b))) ∧ 0 ≤ b ∧ b ≤ 1 := by
    rcases hout with rfl | rfl
    · obtain ⟨w, h3, x, rfl, hx⟩ := q6
      have h1 : x.toInt = 0 := fC_val (f := (Int.ofNat 0, [])) rfl hx
      refine ⟨q4, q5, 0, ?_, by omega, by omega⟩
      rw [← h1, zI_id]; exact h3
    · obtain ⟨w, h3, x, rfl, hx⟩ := q6
      have h1 : x.toInt = 1 := fC_val (f := (Int.ofNat 1, [])) rfl hx
      refine ⟨q4, q5, 1, ?_, by omega, by omega⟩
      rw [← h1, zI_id]; exact h3
  obtain ⟨k1, k2, b, rfl, k3, k4⟩ := key
  have e1 : oc = 0 := by omega
  have e2 : ok = 0 := by omega
  subst e1; subst e2
  exact K es' b p1 p2 ⟨k3, k4⟩
/-- the heap with the row at its new place -/
def rowAt (es0 es : PH) : Prop := hOK tT es ∧ fr [] es0 es ∧ ∃ f, es[es0.length]? = some (.inl (0, 25, .inl f))
theorem rowAt_set {es0 es : PH} (h0 : 108 ≤ es0.length) (h : rowAt es0 es) (f' : Nat → Int32) : rowAt es0 (es.set es0.length (.inl (0, 25, .inl f'))) := by
  obtain ⟨h1, h2, f, h3⟩ := h
  refine ⟨hOK_set h1 (fun t ht => ?_), ⟨by rw [List.length_set]; exact h2.1, fun p e hp => ?_⟩, f', ?_⟩
  · have := (List.getElem?_eq_some_iff.mp ht).1
    rw [tT_len] at this
    omega
  · obtain ⟨e', k1, k2⟩ := h2.2 p e hp
    have hpl := (List.getElem?_eq_some_iff.mp hp).1
    exact ⟨e', by rw [List.getElem?_set_ne (by omega)]; exact k1, k2⟩
  · have := (List.getElem?_eq_some_iff.mp h3).1
    rw [List.getElem?_set_self this]
theorem rowAt_fr {es0 es es1 : PH} (h : rowAt es0 es) (hT : hOK tT es1) (hf : fr [] es es1) : rowAt es0 es1 := by
  obtain ⟨h1, h2, f, h3⟩ := h
  obtain ⟨e', k1, k2⟩ := hf.2 _ _ h3
  refine ⟨hT, fr_trans h2 hf, ?_⟩
  rcases e' with ⟨t', n', g | g⟩ | ⟨c, vs⟩
  · obtain ⟨rfl, rfl, -⟩ := k2
    exact ⟨g, k1⟩
  · exact k2.elim
  · exact k2.elim
section
variable {xs : Nat → Int32} {n0 d kc ks : Nat} {Q : pRes → Prop} {es0 : PH} {fi se : Int}
theorem mic_in (hn : n0 ≤ 3584) (h0 : 108 ≤ es0.length) (i1 : i32 fi) (i2 : i32 se) : ∀ (k : Nat) (n sl m : Int) (es : PH) (x7 x8 : Option Value), (25 - m).toNat = k → rowAt es0 es → 0 ≤ n ∧ n ≤ 23 → 1 ≤ m ∧ m ≤ 25 →
    (∀ (es' : PH) (x5 x6 x7 x8 : Option Value), rowAt es0 es' → aW (pO0 xs n0) (d + 3) 163 kc ks Q (3, [some (.ref 71), some (.int (zI fi)), some (.int (zI se)), some (.ref (64 + es0.length)), some (.int (zI (n + 1))), x5, x6, x7, x8], [], es')) →
    aW (pO0 xs n0) (d + 3) 163 kc ks Q (19, [some (.ref 71), some (.int (zI fi)), some (.int (zI se)), some (.ref (64 + es0.length)), some (.int (zI n)), some (.int (zI sl)), some (.int (zI m)), x7, x8], [], es) := by
  intro k
  induction k using Nat.strongRecOn with
  | ind k ih =>
  intro n sl m es x7 x8 hk hr hn1 hm1 K
  obtain ⟨f, hf⟩ := hr.2.2
  have hT := hr.1
  have im : i32 m := by unfold i32 iLO iHI; omega
  have im1 : i32 (m - 1) := by unfold i32 iLO iHI; omega
  have inn : i32 n := by unfold i32 iLO iHI; omega
  refine s_mic19 (d := d + 1) (sh_of hT) i1 i2 ⟨hn1.1, by omega⟩ hm1 hT (fun _ _ => K _ _ _ _ _ hr) (fun _ h => absurd (by omega) h) (fun _ _ _ => K _ _ _ _ _ hr) (fun _ _ h => absurd (by omega) h) (fun _ _ _ _ _ => K _ _ _ _ _ hr) (fun c1 c2 v hv c3 => ?_)
  have hb : 0 ≤ (gA es 13 se.toNat).toInt ∧ (gA es 13 se.toNat).toInt ≤ 24 := gA_bd hT (p := 13) (k := se.toNat) rfl (by omega) (by decide)
  have hm2 : m ≤ 24 := by omega
  -- behind the most: the row is set
  have tail : ∀ (es1 : PH) (a b : Int) (x : Option Value), rowAt es0 es1 → aW (pO0 xs n0) (d + 3) 163 kc ks Q (72, [some (.ref 71), some (.int (zI fi)), some (.int (zI se)), some (.ref (64 + es0.length)), some (.int (zI n)), some (.int (zI sl)), some (.int (zI m)), some (.int (zI a)), x], [.int (zI b)], es1) := fun es1 a b x hr1 => by
    obtain ⟨g, hg⟩ := hr1.2.2
    refine s_mic72 (sh_of hr1.1) i1 i2 ⟨hn1.1, by omega⟩ hm1 ?_
    refine x_call (vs := [.ref (64 + es0.length), .int (zI m), .int (zI b)]) (rs := []) i_163_79 rfl (fun _ => rfl) rfl rfl rfl rfl rfl rfl ?_
    show aW _ _ _ _ _ _ (0, [some (.ref (64 + es0.length)), some (.int (zI m)), some (.int (zI b))], [], es1)
    have go : ∀ es2 : PH, rowAt es0 es2 → aW (pO0 xs n0) (d + 3) 163 kc ks Q (82, [some (.ref 71), some (.int (zI fi)), some (.int (zI se)), some (.ref (64 + es0.length)), some (.int (zI n)), some (.int (zI sl)), some (.int (zI m)), some (.int (zI a)), some (.int (zI b))], [], es2) := fun es2 hr2 => by
      refine s_mic82 (sh_of hr2.1) i1 i2 ⟨hn1.1, by omega⟩ hm1 ?_
      exact ih (25 - (m + 1)).toNat (by omega) n a (m + 1) es2 _ _ rfl hr2 hn1 ⟨by omega, by omega⟩ K
    exact setp hg (by omega) im (go _ hr1) (fun f' => go _ (rowAt_set h0 hr1 f'))
  refine x_call (vs := [.ref (64 + es0.length), .int (zI m)]) (rs := []) i_163_32 rfl (fun _ => rfl) rfl rfl rfl rfl rfl rfl ?_
  show aW _ _ _ _ _ _ (0, [some (.ref (64 + es0.length)), some (.int (zI m))], [], es)
  refine atp hf (by omega) im (fun a ia => ?_)
  show aW _ _ _ _ _ _ (35, [some (.ref 71), some (.int (zI fi)), some (.int (zI se)), some (.ref (64 + es0.length)), some (.int (zI n)), some (.int (zI sl)), some (.int (zI m)), x7, x8], [.int (zI a)], es)
  refine s_mic35 (sh_of hT) i1 i2 ⟨hn1.1, by omega⟩ hm1 ?_
  refine x_call (vs := [.ref 71, .int (zI fi), .int (zI n), .int (zI se), .int (zI (m - 1))]) (rs := []) i_163_46 rfl (fun _ => rfl) rfl rfl rfl rfl rfl (pCall_v (p := 7) (sh_of hT) rfl rfl rfl rfl rfl (by decide) rfl rfl rfl rfl rfl) ?_
  show aW _ _ _ _ _ _ (0, [some (.ref 71), some (.int (zI fi)), some (.int (zI n)), some (.int (zI se)), some (.int (zI (m - 1))), none, none], [], es)
  refine like_call hn (by omega) hT i1 inn i2 im1 (fun es1 b hT1 hf1 hb1 => ?_)
  have hr1 := rowAt_fr hr hT1 hf1
  obtain ⟨g, hg⟩ := hr1.2.2
  show aW _ _ _ _ _ _ (49, [some (.ref 71), some (.int (zI fi)), some (.int (zI se)), some (.ref (64 + es0.length)), some (.int (zI n)), some (.int (zI sl)), some (.int (zI m)), some (.int (zI a)), x8], [.int (zI b)], es1)
  refine s_mic49 (sh_of hT1) i1 i2 ⟨hn1.1, by omega⟩ hm1 hb1 (fun _ => ?_) (fun _ => tail es1 a _ _ hr1)
  refine x_call (vs := [.ref (64 + es0.length), .int (zI (m - 1))]) (rs := [.int (zI a)]) i_163_66 rfl (fun _ => rfl) rfl rfl rfl rfl rfl rfl ?_
  show aW _ _ _ _ _ _ (0, [some (.ref (64 + es0.length)), some (.int (zI (m - 1)))], [], es1)
  refine atp hg (by omega) im1 (fun c ic => ?_)
  show aW _ _ _ _ _ _ (69, [some (.ref 71), some (.int (zI fi)), some (.int (zI se)), some (.ref (64 + es0.length)), some (.int (zI n)), some (.int (zI sl)), some (.int (zI m)), some (.int (zI a)), x8], [.int (zI c), .int (zI a)], es1)
  exact s_mic69 (d := d + 2) (sh_of hT1) i1 i2 ⟨hn1.1, by omega⟩ hm1 ia ic (fun v _ => tail es1 a v _ hr1)
theorem mic_out (hn : n0 ≤ 3584) (h0 : 108 ≤ es0.length) (i1 : i32 fi) (i2 : i32 se) (hQ : ∀ (a : Int) (es' : PH), i32 a → rowAt es0 es' → Q (.inl (some (.int (zI a))), es', kc, ks)) : ∀ (k : Nat) (n : Int) (es : PH) (x5 x6 x7 x8 : Option Value), (24 - n).toNat = k → rowAt es0 es → 0 ≤ n ∧ n ≤ 24 →
    aW (pO0 xs n0) (d + 3) 163 kc ks Q (3, [some (.ref 71), some (.int (zI fi)), some (.int (zI se)), some (.ref (64 + es0.length)), some (.int (zI n)), x5, x6, x7, x8], [], es) := by
  intro k
  induction k using Nat.strongRecOn with
  | ind k ih =>
  intro n es x5 x6 x7 x8 hk hr hn1
  obtain ⟨f, hf⟩ := hr.2.2
  have hT := hr.1
  have fin : ∀ v : Int, i32 v → aW (pO0 xs n0) (d + 3) 163 kc ks Q (104, [some (.ref 71), some (.int (zI fi)), some (.int (zI se)), some (.ref (64 + es0.length)), some (.int (zI n)), x5, x6, x7, x8], [.int (zI v), .ref (64 + es0.length)], es) := fun v iv => by
    refine x_call (vs := [.ref (64 + es0.length), .int (zI v)]) (rs := []) i_163_104 rfl (fun _ => rfl) rfl rfl rfl rfl rfl rfl ?_
    show aW _ _ _ _ _ _ (0, [some (.ref (64 + es0.length)), some (.int (zI v))], [], es)
    refine atp hf (by omega) iv (fun a ia => ?_)
    show aW _ _ _ _ _ _ (107, [some (.ref 71), some (.int (zI fi)), some (.int (zI se)), some (.ref (64 + es0.length)), some (.int (zI n)), x5, x6, x7, x8], [.int (zI a)], es)
    exact s_mic107 (sh_of hT) i1 i2 (hQ a es ia hr)
  have ex : aW (pO0 xs n0) (d + 3) 163 kc ks Q (98, [some (.ref 71), some (.int (zI fi)), some (.int (zI se)), some (.ref (64 + es0.length)), some (.int (zI n)), x5, x6, x7, x8], [], es) := by
    have i00 : i32 0 := by unfold i32 iLO iHI; omega
    exact s_mic98 (d := d + 1) (sh_of hT) i1 i2 hn1 hT (fun _ => fin 0 i00) (fun _ _ => fin 0 i00) (fun _ _ v hv => fin v (by rw [hv]; exact i32_rng _))
  refine s_mic3 (d := d + 1) (sh_of hT) i1 i2 hn1 hT (fun _ _ => ex) (fun _ h => absurd hn1.1 h) (fun _ _ _ => ex) (fun _ _ h => absurd hn1.1 h) (fun _ _ _ _ _ => ex) (fun c1 c2 v hv c3 => ?_)
  have hb : 0 ≤ (gA es 13 fi.toNat).toInt ∧ (gA es 13 fi.toNat).toInt ≤ 24 := gA_bd hT (p := 13) (k := fi.toNat) rfl (by omega) (by decide)
  exact mic_in hn h0 i1 i2 _ n 0 1 es _ _ rfl hr ⟨hn1.1, by omega⟩ ⟨by omega, by omega⟩ (fun es' y5 y6 y7 y8 hr' => ih (24 - (n + 1)).toNat (by omega) (n + 1) es' y5 y6 y7 y8 rfl hr' ⟨by omega, by omega⟩)
end
theorem hm_alike {xs : Nat → Int32} {n : Nat} (hn : n ≤ 3584) : conOK (pO0 xs n) gG gInv kc_292 := by
  refine ⟨_, rfl, fun d hd ρ vs es hE hC hS hT hI hF => ?_⟩
  obtain ⟨v1, v2, v3, rfl, g1, g2, g3⟩ := gS3 hS
  cases arg_r g1
  obtain ⟨fi, rfl, i1, -, -, -⟩ := arg_i hE g2
  obtain ⟨se, rfl, i2, -, -, -⟩ := arg_i hE g3
  have hd8 : 8 ≤ d := hd
  have hlen : 108 ≤ es.length := by have := hI.1; rw [tT_len] at this; exact this
  obtain ⟨d', rfl⟩ : ∃ d', d = d' + 5 := ⟨d - 5, by omega⟩
  have thr : cPost (pO0 xs n) gG gInv kc_292 ρ es (.inr 2, es, 1, 6) := post_thr (x := 2) (mk := 1) (ms := 6) hE hT hI (fr_refl _ _) (List.mem_cons_of_mem _ List.mem_cons_self) (Nat.le_refl _) (Nat.le_refl _)
  refine s_alike0 (d := d' + 4) (kc := 0) (ks := 0) (sh_of hT) i1 i2 hT (fun _ => thr) (fun _ _ _ _ => thr) (fun _ _ _ _ _ => thr) (fun _ _ _ _ _ _ _ _ => thr) (fun _ _ _ _ _ _ _ _ => ?_)
  have hr0 : rowAt es (es ++ [.inl (0, 25, .inl (fun _ => 0))]) := ⟨hOK_push hT _, fr_push _ _ _, _, by rw [List.getElem?_append_right (Nat.le_refl _), Nat.sub_self]; rfl⟩
  refine x_new (r := (37, [some (.ref 64), some (.int (zI fi)), some (.int (zI se))], [.ref (64 + es.length), .int (zI se), .int (zI fi), .ref 71], es ++ [.inl (0, 25, .inl (fun _ => 0))])) i_162_35 rfl (fun _ => rfl) rfl ?_
  show aW _ _ _ 1 25 _ _
  refine x_call (vs := [.ref 71, .int (zI fi), .int (zI se), .ref (64 + es.length)]) (rs := []) i_162_37 rfl (fun _ => rfl) rfl rfl rfl rfl rfl (pCall_v (p := 7) (sh_of hr0.1) rfl rfl rfl rfl rfl (by decide) rfl rfl rfl rfl rfl) ?_
  show aW _ _ _ _ _ _ (0, [some (.ref 71), some (.int (zI fi)), some (.int (zI se)), some (.ref (64 + es.length)), none, none, none, none, none], [], es ++ [.inl (0, 25, .inl (fun _ => 0))])
  refine s_mic0 (sh_of hr0.1) i1 i2 ?_
  refine mic_out (d := d' + 1) hn hlen i1 i2 (fun a es' ia hr => ?_) _ 0 _ _ _ _ _ rfl hr0 ⟨by omega, by omega⟩
  show aW _ _ _ _ _ _ (40, [some (.ref 64), some (.int (zI fi)), some (.int (zI se))], [.int (zI a)], es')
  refine x_ret (v := some (.int (zI a))) i_162_40 rfl (fun _ => rfl) rfl rfl rfl ?_
  exact post_int (lo := iLO) (hi := iHI) hE hr.1 (gInv_fr [] (by decide) es es' hr.2.1 hI) hr.2.1 List.mem_cons_self ia ia.1 ia.2 (Nat.le_refl _) (Nat.le_refl _)
