/-! two runs of one place end alike: what is known of the one is known of the other -/
theorem aW_and {O : pOut} {d j kc ks : Nat} {Q1 Q2 : pRes → Prop} {σ : pSt} (h1 : aW O d j kc ks Q1 σ) (h2 : aW O d j kc ks Q2 σ) : aW O d j kc ks (fun o => Q1 o ∧ Q2 o) σ := by
  obtain ⟨n1, o1, e1, q1⟩ := h1
  obtain ⟨n2, o2, e2, q2⟩ := h2
  have f1 := pRun_mono O n1 d j σ o1 e1 (max n1 n2) d (Nat.le_max_left _ _) (Nat.le_refl _)
  have f2 := pRun_mono O n2 d j σ o2 e2 (max n1 n2) d (Nat.le_max_right _ _) (Nat.le_refl _)
  rw [f1] at f2
  obtain rfl := Option.some.inj f2
  exact ⟨n1, o1, e1, q1, q2⟩
/-- a contract that was checked without what is kept, brought up by one that keeps it -/
theorem conOK_up {O : pOut} {I : PH → Prop} {c0 c : aCon} (h0 : conOK O gG I c0) (h : conOK O gG (fun _ => True) c) (hj : c.1 = c0.1) (hD : c0.2.1 ≤ c.2.1) (hF : c0.2.2.2.2.1 = []) (hC0 : c0.2.2.1.2 = []) (hA : c.2.2.2.1 = c0.2.2.2.1) (hE0 : c.2.2.1.1 = c0.2.2.1.1) : conOK O gG I c := by
  obtain ⟨row, hrow, r⟩ := h
  obtain ⟨row0, hrow0, r0⟩ := h0
  rw [hj] at hrow
  have hr : row0 = row := Option.some.inj (hrow0.symm.trans hrow)
  subst hr
  refine ⟨row0, by rw [hj]; exact hrow, fun d hd ρ vs es gE' gC' gS' hT hI gF' => ?_⟩
  have a1 := r d hd ρ vs es gE' gC' gS' hT trivial gF'
  have a2 := r0 d (Nat.le_trans hD hd) ρ vs es (hE0 ▸ gE') (by rw [hC0]; exact fun f hf => by cases hf) (hA ▸ gS') hT hI (by rw [hF]; exact fun t ht => by cases ht)
  rw [← hj] at a2
  exact aW_mono (Nat.le_refl d) (fun o ho => ⟨ho.1.1, ho.2.2.1, ho.1.2.2⟩) (aW_and a1 a2)
theorem gI_of_fact {O : pOut} {ρ : List Int} {es : PH} {p b : Nat} {ix f : aF} (h : gF1 O ρ es (p, b + 2, ix, f)) : evF ρ f = some (gI es p b).toInt := by
  obtain ⟨c, vs, x, h1, h2, h3⟩ := h
  have h1' : es[p]? = some (.inr (c, vs)) := h1
  have e : gI es p b = x := by
    unfold gI gFd
    rw [h1']
    simp only [List.getD_eq_getElem?_getD, h2, Option.getD_some]
  rw [e]
  exact h3
theorem fact_of_gI {O : pOut} {ρ : List Int} {es : PH} (hs : sh es) {p c b : Nat} {ss : List tS} {lo hi : Int} (hp : tT[p]? = some (.inr (c, ss))) (hb : ss[b]? = some (0, lo, hi)) {ix f : aF} (he : evF ρ f = some (gI es p b).toInt) : gF1 O ρ es (p, b + 2, ix, f) := by
  obtain ⟨vs, h1, h2⟩ := sh_int hs hp hb
  exact ⟨c, vs, _, h1, h2, he⟩
theorem fact1 {O : pOut} {ρ : List Int} {es : PH} {t : aFt} (h : gF1 O ρ es t) : gFs O ρ es [t] := fun u hu => by
  rcases List.mem_cons.mp hu with rfl | hu
  · exact h
  · cases hu
section
variable {O : pOut} {G : aG} {I : PH → Prop} {c : aCon} {ρ : List Int} {es es' : PH} {a lo hi : Int} {kc ks mk ms : Nat} {o : aOut} {F : List aFt}
theorem post_intF (hE : gE ρ c.2.2.1.1) (hT : hOK G.1 es') (hI : I es') (hf : fr c.2.2.2.2.2.1 es es') (ho : ((c.2.2.1.1 ++ [(lo, hi)], []), (1, (0, fV c.2.2.1.1.length)), F, mk, ms) ∈ c.2.2.2.2.2.2) (hF : gFs O (ρ ++ [a]) es' F) (ha : i32 a) (hl : lo ≤ a) (hh : a ≤ hi) (hk : kc ≤ mk) (hs : ks ≤ ms) : cPost O G I c ρ es (.inl (some (.int (zI a))), es', kc, ks) := by
  obtain ⟨h1, h2⟩ := aNew_ok hE (l := lo) (r := hi) (v := a) ⟨hl, hh⟩
  exact ⟨hT, hI, hf, _, ho, [a], h1, (fun f h => by cases h), hF, hk, hs, _, rfl, zI a, rfl, by rw [zI_toInt ha]; exact h2⟩
theorem post_voidF {v : aV} (hE : gE ρ c.2.2.1.1) (hT : hOK G.1 es') (hI : I es') (hf : fr c.2.2.2.2.2.1 es es') (ho : ((c.2.2.1.1, []), (0, v), F, mk, ms) ∈ c.2.2.2.2.2.2) (hF : gFs O ρ es' F) (hk : kc ≤ mk) (hs : ks ≤ ms) : cPost O G I c ρ es (.inl none, es', kc, ks) := by
  refine ⟨hT, hI, hf, _, ho, [], ?_, (fun f h => by cases h), ?_, hk, hs, rfl⟩
  · rw [List.append_nil]; exact hE
  · rw [List.append_nil]; exact hF
end
section
variable {O : pOut} {d kc ks : Nat} {Q : pRes → Prop} {es0 : PH} {Mo : List aMod}
theorem image_loopH (hm1 : (81, 0, 0, 1284) ∈ Mo) (hm2 : (79, 5, 0, 1) ∈ Mo) (K : ∀ es', hOK tT es' → fr Mo es0 es' → (∀ i, i < 1284 → gA es' 81 i = gA es0 80 i) → gA es' 80 = gA es0 80 → gI es' 79 3 = zI 1 → Q (.inl none, es', kc, ks)) :
    ∀ (m : Nat) (k : Int) (es : PH), k + m = 1284 → 0 ≤ k → hOK tT es → fr Mo es0 es → (∀ i : Nat, (i : Int) < k → gA es 81 i = gA es0 80 i) → gA es 80 = gA es0 80 → aW O d 169 kc ks Q (7, [some (.ref 143), some (.int (zI k))], [], es) := by
  intro m
  induction m with
  | zero =>
    intro k es hk h0 hT hf h1 h2
    refine s_image7 (sh_of hT) ⟨h0, by omega⟩ (fun _ es2 he2 => ?_) (fun h => by omega)
    subst he2
    refine K _ (hOK_sI hT (p := 79) (b := 3) rfl rfl (by show (0 : Int) ≤ (zI 1).toInt ∧ (zI 1).toInt ≤ 1; decide)) (fr_trans hf (fr_sI (mIn_of hm2 (Nat.le_refl _) (by omega)))) (fun i hi => ?_) ?_ (gI_sI (sh_of hT) (p := 79) (b := 3) rfl (by decide))
    · rw [gA_sI]; exact h1 i (by omega)
    · rw [gA_sI]; exact h2
  | succ m ih =>
    intro k es hk h0 hT hf h1 h2
    refine s_image7 (sh_of hT) ⟨h0, by omega⟩ (fun h => by omega) (fun _ v hv es4 he4 => ?_)
    have hzv : zI v = gA es 80 k.toNat := by rw [hv, zI_id]
    rw [hzv] at he4
    have hb := gA_bd hT (p := 80) (t := 0) (n := 2125) (sp := tS80) (k := k.toNat) rfl (by omega) (by decide)
    have hT4 : hOK tT es4 := by rw [he4]; exact hOK_sA hT (p := 81) (t := 0) (n := 1284) (sp := tS81) rfl (fun _ => hb)
    have hf4 : fr Mo es0 es4 := by rw [he4]; exact fr_trans hf (fr_sA (mIn_of hm1 (by omega) (by omega)))
    refine ih (k + 1) es4 (by omega) (by omega) hT4 hf4 (fun i hi => ?_) ?_
    · rw [he4, gA_sA (sh_of hT) (p := 81) (t := 0) (n := 1284) (sp := tS81) rfl (by decide)]
      unfold upd
      split
      · rename_i hik; rw [h2, hik]
      · exact h1 i (by omega)
    · rw [he4, gA_sA_ne (by decide)]; exact h2
end
theorem hm_imageH {O : pOut} : conOK O gG gInv kc_417 := by
  refine ⟨_, rfl, fun d hd ρ vs es hE hC hS hT hI hF => ?_⟩
  obtain ⟨v1, s', rfl, g1, g2⟩ := gS_cons hS
  cases gS_nil g2
  cases arg_r g1
  refine s_image0 (d := d) (kc := 0) (ks := 0) (sh_of hT) (fun es1 he1 => ?_)
  have hT1 : hOK tT es1 := by rw [he1]; exact thr_sI hT _
  have hf1 : fr kc_417.2.2.2.2.2.1 es es1 := by rw [he1]; exact fr_sI rfl
  have e80 : gA es1 80 = gA es 80 := by rw [he1, gA_sI]
  refine image_loopH (Mo := kc_417.2.2.2.2.2.1) (es0 := es) (by decide) (by decide) (fun es' q1 q2 q3 q4 q5 => ?_) 1284 0 es1 (by omega) (by omega) hT1 hf1 (fun i hi => by omega) e80
  refine post_voidF (c := kc_417) hE q1 ?_ q2 List.mem_cons_self (fact1 (fact_of_gI (sh_of q1) (p := 79) (b := 3) rfl rfl (by show evF _ (fC 1) = _; rw [fC_ev, q5]; rfl))) (Nat.le_refl _) (Nat.le_refl _)
  obtain ⟨h1, h2, h3, h4, h5⟩ := hI
  refine ⟨Nat.le_trans h1 q2.1, by rw [q4]; exact h2, ?_, by rw [q4]; exact h4, ?_⟩
  · exact wfT_congr (fun i a b => q3 i (by omega)) h2
  · exact Or.inr (kcs_congr (q3 0 (by omega)) (fun i a b => q3 i (by omega)) h4)
theorem hm_backH {O : pOut} : conOK O gG gInv kc_419 := by
  refine ⟨_, rfl, fun d hd ρ vs es hE hC hS hT hI hF => ?_⟩
  obtain ⟨v1, s', rfl, g1, g2⟩ := gS_cons hS
  cases gS_nil g2
  cases arg_r g1
  have hh : evF ρ (fV 0) = some (gI es 79 3).toInt := gI_of_fact (hF _ List.mem_cons_self)
  have hb3 : 0 ≤ (gI es 79 3).toInt ∧ (gI es 79 3).toInt ≤ 1 := gI_bd hT (p := 79) (b := 3) rfl rfl
  have hρ : ρ = [(gI es 79 3).toInt] := by
    have h0 := evV hh
    have hl : ρ.length = 1 := hE.1
    match ρ, hl with
    | [b], _ => simp only [List.getElem?_cons_zero, Option.some.injEq] at h0; rw [h0]
  have cells : ∀ es1 : PH, es1 = sI es 79 0 (.int (zI 0)) → hOK tT es1 ∧ fr kc_419.2.2.2.2.2.1 es es1 ∧ gA es1 81 = gA es 81 ∧ gA es1 80 = gA es 80 := fun es1 he1 => by
    rw [he1]; exact ⟨thr_sI hT _, fr_sI rfl, gA_sI, gA_sI⟩
  refine s_back0 (d := d) (kc := 0) (ks := 0) (sh_of hT) (fun es1 he1 v hv hv0 => ?_) (fun es1 he1 v hv hv0 => ?_)
  · obtain ⟨hT1, hf1, e81, e80⟩ := cells es1 he1
    refine back_loop (Mo := kc_419.2.2.2.2.2.1) (es0 := es) (by decide) (fun es' q1 q2 q3 q4 => ?_) 1284 0 es1 (by omega) (by omega) hT1 hf1 (fun i hi => by omega) e81
    have hv1 : (gI es 79 3).toInt = 1 := by
      rw [he1, gI_sI_ne (Or.inr (by decide))] at hv
      omega
    have hI' : gInv es' := by
      obtain ⟨h1, h2, h3, h4, h5⟩ := hI
      have h5' : kcs (gA es 81) := by
        rcases h5 with h | h
        · omega
        · exact h
      refine ⟨Nat.le_trans h1 q2.1, ?_, by rw [q4]; exact h3, ?_, Or.inr (by rw [q4]; exact h5')⟩
      · exact wfT_congr (fun i a b => q3 i (by omega)) h3
      · exact kcs_congr (q3 0 (by omega)) (fun i a b => q3 i (by omega)) h5'
    refine ⟨q1, hI', q2, _, List.mem_cons_of_mem _ List.mem_cons_self, [], ?_, (fun f h => by cases h), (fun t h => by cases h), Nat.le_refl _, Nat.le_refl _, _, rfl, zI 1, rfl, fC_ev⟩
    rw [List.append_nil, hρ, hv1]
    refine ⟨rfl, fun x v hx => ?_⟩
    match x with
    | 0 => cases hx; exact ⟨Int.le_refl _, Int.le_refl _⟩
    | x + 1 => simp at hx
  · obtain ⟨hT1, hf1, e81, e80⟩ := cells es1 he1
    have hv1 : (gI es 79 3).toInt = 0 := by
      rw [he1, gI_sI_ne (Or.inr (by decide))] at hv
      omega
    have hI' : gInv es1 := by
      obtain ⟨h1, h2, h3, h4, h5⟩ := hI
      exact ⟨Nat.le_trans h1 hf1.1, by rw [e80]; exact h2, by rw [e81]; exact h3, by rw [e80]; exact h4, kci_congr (by rw [he1, gI_sI_ne (Or.inr (by decide))]) (fun h => by rw [e81]; exact h) h5⟩
    refine ⟨hT1, hI', hf1, _, List.mem_cons_self, [], ?_, (fun f h => by cases h), (fun t h => by cases h), Nat.le_refl _, Nat.le_refl _, _, rfl, zI 0, rfl, fC_ev⟩
    rw [List.append_nil, hρ, hv1]
    refine ⟨rfl, fun x v hx => ?_⟩
    match x with
    | 0 => cases hx; exact ⟨Int.le_refl _, Int.le_refl _⟩
    | x + 1 => simp at hx
theorem hm_kindT {xs : Nat → Int32} {n : Nat} (hn : n ≤ 3584) : conOK (pO0 xs n) gG gInv kc_414 := conOK_up (hm_kind hn) (kt_414 (aWd_T hn)) rfl (by decide) rfl rfl rfl rfl
section
variable {O : pOut} {d kc ks : Nat} {Q : pRes → Prop} {es : PH}
/-- readAll, once taped is 0 -/
def frRb : List aMod := [(79, 8, 0, 1), (79, 9, 0, 1), (79, 10, 0, 1), (79, 11, 0, 1), (79, 14, 0, 1), (80, 0, 1285, 2125)]
def raPT (es es' : PH) (v : Int) : Prop := hOK tT es' ∧ fr frRb es es' ∧ (-1 ≤ v ∧ v ≤ 10) ∧ ∀ i : Nat, (i : Int) < v → lineOK es' i
theorem ra_loopT (hW : wordsOK O) (K : ∀ es' v, raPT es es' v → Q (.inl (some (.int (zI v))), es', kc, ks)) : ∀ (j n : Nat) (es1 : PH), n + j = 10 → hOK tT es1 → fr frRb es es1 → sT es1 ≤ pT es1 → (∀ i, i < n → lineOK es1 i) → aW O (d + 28) 175 kc ks Q (42, [some (.ref 143), some (.int (zI 0)), some (.int (zI (n : Int)))], [], es1) := by
  have bad : ∀ b, hOK tT b → fr frRb es b → Q (.inl (some (.int (zI (-1)))), b, kc, ks) := fun b h1 h2 => K b (-1) ⟨h1, h2, ⟨by omega, by omega⟩, fun i hi => by omega⟩
  have fB : ∀ a b, fr frB a b → fr frRb a b := fun a b h => fr_sub (by decide) h
  intro j
  induction j with
  | zero =>
    intro n es1 hn hT1 hf1 hs1 hl
    exact s_ral42 (d := d + 25) (sh_of hT1) ⟨by omega, by omega⟩ hT1 (fun es2 p2 h2 => absurd (by omega) h2) (fun es2 p2 h2 => bad es2 p2.2.1 (fr_trans hf1 (fB _ _ p2.2.2.1.1)))
  | succ j ih =>
    intro n es1 hn hT1 hf1 hs1 hl
    have e9 : ((n + 1 : Nat) : Int) = (n : Int) + 1 := by omega
    refine s_ral42 (d := d + 25) (sh_of hT1) ⟨by omega, by omega⟩ hT1 (fun es2 p2 h2 => ?_) (fun es2 p2 h2 => absurd (by omega) h2)
    have hT2 := p2.2.1
    have m2 := p2.2.2.1
    have hs2 := mvB_sT hT1 m2
    have hp2 := m2.2
    refine x_call (vs := [.ref 143, .int (zI (n : Int))]) (rs := []) i_175_80 rfl (fun _ => rfl) rfl rfl rfl rfl rfl (pCall_v (p := 79) (sh_of hT2) rfl rfl rfl rfl rfl (by decide) rfl rfl rfl rfl rfl) ?_
    show aW _ _ _ _ _ _ (0, [some (.ref 143), some (.int (zI (n : Int))), none], [], es2)
    refine rm_spec (d := d) (n := n) (by omega) hW hT2 (by omega) (fun es3 v3 p3 => ?_)
    show aW _ _ _ _ _ _ (83, [some (.ref 143), some (.int (zI 0)), some (.int (zI (n : Int)))], [.int (zI v3)], es3)
    obtain ⟨hT3, f3, hv3⟩ := p3
    have hsb2 := sT_bd hT2
    have f3' : fr frRb es es3 := fr_trans hf1 (fr_trans (fB _ _ m2.1) (fr_wk (by simp only [mAl, frLn, frRb, mHq, true_and, and_true, false_and, and_false, or_false, false_or, not_false_eq_true, Nat.reduceEqDiff] <;> (repeat' apply And.intro) <;> intros <;> omega) f3))
    have good : v3 ≠ 0 → sT es3 ≤ pT es3 ∧ ∀ i, i < n + 1 → lineOK es3 i := by
      intro hv
      rcases hv3 with h | ⟨h, g1, g2, g3⟩
      · exact absurd h hv
      · refine ⟨g1, fun i hi => ?_⟩
        by_cases hin : i = n
        · rw [hin]; exact g3
        · exact line_keep hT2 f3 g2 (by omega) (by omega) (line_mv hs2 (mvB_80 hT1 m2) (hl i (by omega)))
    refine s_ral83 (d := d + 26) (sh_of hT3) ⟨by omega, by omega⟩ (by rcases hv3 with h | h <;> omega) hT3 (fun hv es4 p4 v5 e5 v6 e6 h6 v7 e7 v8 e8 h8 => bad es4 p4.2.1 (fr_trans f3' (fB _ _ p4.2.2.1.1))) (fun hv es4 p4 v5 e5 v6 e6 h6 v7 e7 v8 e8 h8 v9 e9 v10 e10 h10 => bad es4 p4.2.1 (fr_trans f3' (fB _ _ p4.2.2.1.1))) (fun hv es4 p4 v5 e5 v6 e6 h6 v7 e7 v8 e8 h8 v9 e9 v10 e10 h10 v11 e11 v12 e12 h12 => bad es4 p4.2.1 (fr_trans f3' (fB _ _ p4.2.2.1.1))) (fun hv es4 p4 v5 e5 v6 e6 h6 v7 e7 v8 e8 h8 v9 e9' v10 e10 h10 v11 e11 v12 e12 h12 v15 e15 es16 e16 => ?_) (fun hv es4 p4 v5 e5 v6 e6 h6 => ?_) (fun hv => bad es3 hT3 f3')
    · obtain ⟨g1, g2⟩ := good hv
      have hT4 := p4.2.1
      have m4 := p4.2.2.1
      have hs4 := mvB_sT hT3 m4
      obtain ⟨a1, a2, a3, a4, -⟩ := pt_up (es' := es16) hT4 (by unfold pT; omega) (by rw [e16, e15])
      have hs16 := mvB_sT hT4 a2
      have := ih (n + 1) es16 (by omega) a1 (fr_trans f3' (fr_trans (fB _ _ m4.1) (fB _ _ a2.1))) (by have := m4.2; omega) (fun i hi => line_mv hs16 (mvB_80 hT4 a2) (line_mv hs4 (mvB_80 hT3 m4) (g2 i hi)))
      rw [e9] at this
      exact this
    · obtain ⟨g1, g2⟩ := good hv
      have m4 := p4.2.2.1
      refine K es4 ((n : Int) + 1) ⟨p4.2.1, fr_trans f3' (fB _ _ m4.1), ⟨by omega, by omega⟩, fun i hi => line_mv (mvB_sT hT3 m4) (mvB_80 hT3 m4) (g2 i (by omega))⟩
theorem ral_specT (hW : wordsOK O) (hT : hOK tT es) (K : ∀ es' v, (hOK tT es' ∧ fr frRa es es' ∧ (-1 ≤ v ∧ v ≤ 10) ∧ ∀ i : Nat, (i : Int) < v → lineOK es' i) → gI es' 79 5 = zI 0 → Q (.inl (some (.int (zI v))), es', kc, ks)) : aW O (d + 28) 175 kc ks Q (0, [some (.ref 143), some (.int (zI 0)), none], [], es) := by
  have st : ∀ v1 es2 es3 es4 es5, v1 = (gI es 79 5).toInt → es2 = sI es 79 7 (.int (zI v1)) → es3 = sI es2 79 5 (.int (zI 0)) → es4 = sI es3 79 6 (.int (zI 0)) → es5 = sI es4 79 12 (.int (zI 0)) → hOK tT es5 ∧ fr frRa es es5 ∧ sT es5 = 0 ∧ gI es5 79 5 = zI 0 := by
    intro v1 es2 es3 es4 es5 e1 e2 e3 e4 e5
    have z0 : (zI 0).toInt = 0 := rfl
    have hb5 : 0 ≤ (gI es 79 5).toInt ∧ (gI es 79 5).toInt ≤ 400 := gI_bd hT (p := 79) (b := 5) rfl rfl
    have hT2 : hOK tT es2 := by rw [e2]; exact hOK_sI hT (p := 79) (b := 7) rfl rfl (by rw [zI_toInt (by unfold i32 iLO iHI; omega), e1]; exact hb5)
    have hT3 : hOK tT es3 := by rw [e3]; exact hOK_sI hT2 (p := 79) (b := 5) rfl rfl (by rw [z0]; exact ⟨by show (0 : Int) ≤ 0; omega, by show (0 : Int) ≤ 400; omega⟩)
    have hT4 : hOK tT es4 := by rw [e4]; exact hOK_sI hT3 (p := 79) (b := 6) rfl rfl (by rw [z0]; exact ⟨by show (0 : Int) ≤ 0; omega, by show (0 : Int) ≤ 400; omega⟩)
    have hT5 : hOK tT es5 := by rw [e5]; exact hOK_sI hT4 (p := 79) (b := 12) rfl rfl (by rw [z0]; exact ⟨by show (0 : Int) ≤ 0; omega, by show (0 : Int) ≤ 400; omega⟩)
    refine ⟨hT5, ?_, ?_, ?_⟩
    · rw [e5, e4, e3, e2]
      exact fr_trans (fr_sI rfl) (fr_trans (fr_sI rfl) (fr_trans (fr_sI rfl) (fr_sI rfl)))
    · unfold sT
      rw [e5, gI_sI (sh_of hT4) (p := 79) rfl (by decide)]; rfl
    · rw [e5, gI_sI_ne (Or.inr (by decide)), e4, gI_sI_ne (Or.inr (by decide)), e3, gI_sI (sh_of hT2) (p := 79) rfl (by decide)]
  refine s_ral0 (d := d + 26) (sh_of hT) hT (fun v1 e1 es2 e2 es3 e3 es4 e4 es5 e5 es6 p6 v7 e7 v8 e8 h8 => ?_) (fun v1 e1 es2 e2 es3 e3 es4 e4 es5 e5 es6 p6 v7 e7 v8 e8 h8 => ?_)
  all_goals
    obtain ⟨a1, a2, a3, a4⟩ := st v1 es2 es3 es4 es5 e1 e2 e3 e4 e5
    have m6 := p6.2.2.1
    have hs6 := mvB_sT a1 m6
    have f6 : fr frRb es5 es6 := fr_sub (by decide) m6.1
    have fin : ∀ es' v, raPT es5 es' v → Q (.inl (some (.int (zI v))), es', kc, ks) := fun es' v h => K es' v ⟨h.1, fr_trans a2 (fr_sub (by decide) h.2.1), h.2.2.1, h.2.2.2⟩ (by rw [fr_fld h.2.1 (sh_of a1) (p := 79) (b := 5) rfl (by simp only [frRb, mHq, true_and, and_true, false_and, and_false, or_false, false_or, not_false_eq_true, Nat.reduceEqDiff] <;> omega)]; exact a4)
  · exact ra_loopT (d := d) hW fin 10 0 es6 (by omega) p6.2.1 f6 (by have := pT_bd p6.2.1; omega) (fun i hi => absurd hi (by omega))
  · exact fin es6 0 ⟨p6.2.1, f6, ⟨by omega, by omega⟩, fun i hi => by omega⟩
end
theorem hm_measureT {O : pOut} (hW : wordsOK O) : conOK O gG gInv kc_415 := by
  refine ⟨_, rfl, fun d hd ρ vs es hE hC hS hT hI hF => ?_⟩
  obtain ⟨v0, s, rfl, g0, g1⟩ := gS_cons hS
  cases gS_nil g1
  cases arg_r g0
  have hd40 : 40 ≤ d := hd
  obtain ⟨d', rfl⟩ : ∃ d', d = d' + 29 := ⟨d - 29, by omega⟩
  have z : ∀ x : Int, (zI x).toInt = (zI x).toInt := fun _ => rfl
  refine s_me0 (d := d' + 29) (kc := 0) (ks := 0) (sh_of hT) hT (fun es1 e1 => ?_)
  have hT1 : hOK tT es1 := by rw [e1]; exact hOK_sI hT (p := 79) (b := 0) (lo := iLO) (hi := iHI) rfl rfl (i32_rng _)
  have f1 : fr frMs es es1 := by rw [e1]; exact fr_sI rfl
  refine x_call (vs := [.ref 143, .int (zI 0)]) (rs := []) i_195_7 rfl (fun _ => rfl) rfl rfl rfl rfl rfl (pCall_v (p := 79) (sh_of hT1) rfl rfl rfl rfl rfl (by decide) rfl rfl rfl rfl rfl) ?_
  show aW _ _ _ _ _ _ (0, [some (.ref 143), some (.int (zI 0)), none], [], es1)
  refine ral_specT (d := d') hW hT1 (fun es2 v p2 tp2 => ?_)
  show aW _ _ _ _ _ _ (10, [some (.ref 143), none, none], [.int (zI v)], es2)
  obtain ⟨hT2, f2, hv, hl⟩ := p2
  have f12 : fr frMs es es2 := fr_trans f1 (fr_sub (by decide) f2)
  refine s_me10 (d := d' + 28) (sh_of hT2) hv hT2 (fun hv0 es3 e3 es4 e4 => ?_) (fun hv0 v4 e4 es5 e5 es6 e6 => ?_)
  · have hT3 : hOK tT es3 := by rw [e3]; exact hOK_sI hT2 (p := 79) (b := 10) (lo := iLO) (hi := iHI) rfl rfl (i32_rng _)
    have e4' : es4 = sA es3 80 1284 (zI v) := e4
    have zv : (zI v).toInt = v := zI_toInt (by unfold i32 iLO iHI; omega)
    have hT4 : hOK tT es4 := by rw [e4']; exact hOK_sA hT3 (p := 80) (t := 0) (n := 2125) (sp := tS80) rfl (fun _ => by rw [zv]; exact ⟨by show (0 : Int) ≤ v; omega, by show v ≤ (10 : Int); omega⟩)
    have f3 : fr frMs es es3 := fr_trans f12 (by rw [e3]; exact fr_sI rfl)
    have g4 : ∀ i, i ≠ 1284 → gA es4 80 i = gA es2 80 i := fun i hi => by
      rw [e4', gA_sA (sh_of hT3) (p := 80) (t := 0) (n := 2125) (sp := tS80) rfl (by decide)]
      unfold upd
      rw [if_neg hi, e3, gA_sI]
    have g44 : gA es4 80 1284 = zI v := by
      rw [e4', gA_sA (sh_of hT3) (p := 80) (t := 0) (n := 2125) (sp := tS80) rfl (by decide)]
      unfold upd
      rw [if_pos rfl]
    refine me_copy (d := d' + 29) hT4 (fun es5 hT5 f5 hc => ?_) 841 0 es4 (by omega) hT4 (fr_refl _ _) (fun i hi => absurd hi (by omega))
    have f15 : fr kc_415.2.2.2.2.2.1 es es5 := by
      refine fr_trans (fr_sub (by decide) f3) (fr_trans (by rw [e4']; exact fr_sA rfl) (fr_sub (by decide) f5))
    have hlen := hOK_len hT
    have same : ∀ p i, (p = 80 ∧ (i = 0 ∨ (13 ≤ i ∧ i < 49))) ∨ p = 81 → gA es5 p i = gA es p i := by
      intro p i hp
      refine fr_cell f15 (by omega) ?_
      rcases hp with ⟨rfl, h⟩ | rfl
      · refine mIn_no ?_
        show ¬ mHq [(79, 2, 0, 1), (79, 9, 0, 1), (79, 7, 0, 1), (79, 8, 0, 1), (79, 14, 0, 1), (79, 10, 0, 1), (79, 11, 0, 1), (79, 12, 0, 1), (80, 0, 443, 2125), (80, 0, 4, 5)] 80 0 i
        simp only [mHq, true_and, and_true, false_and, and_false, or_false, false_or, not_false_eq_true, Nat.reduceEqDiff] <;> omega
      · refine mIn_no ?_
        show ¬ mHq [(79, 2, 0, 1), (79, 9, 0, 1), (79, 7, 0, 1), (79, 8, 0, 1), (79, 14, 0, 1), (79, 10, 0, 1), (79, 11, 0, 1), (79, 12, 0, 1), (80, 0, 443, 2125), (80, 0, 4, 5)] 81 0 i
        simp only [mHq, true_and, and_true, false_and, and_false, or_false, false_or, not_false_eq_true, Nat.reduceEqDiff] <;> omega
    obtain ⟨w1, w2, w3, w4, w5⟩ := hI
    have hI5 : gInv es5 := by
      refine ⟨Nat.le_trans w1 f15.1, ?_, wfT_congr (fun i h1 h2 => same 81 i (Or.inr rfl)) w3, kcs_congr (same 80 0 (Or.inl ⟨rfl, Or.inl rfl⟩)) (fun i h1 h2 => same 80 i (Or.inl ⟨rfl, Or.inr ⟨h1, h2⟩⟩)) w4, kci_congr (fr_field f15 (by omega) (by decide)) (fun w6 => kcs_congr (same 81 0 (Or.inr rfl)) (fun i h1 h2 => same 81 i (Or.inr rfl)) w6) w5⟩
      intro n hn hnl
      have c0 := hc 0 (by omega)
      rw [show 443 + 0 = 443 from rfl, show 1284 + 0 = 1284 from rfl, g44] at c0
      rw [c0, zv] at hnl
      obtain ⟨a, b, h1, h2, h3, h4, h5⟩ := hl n hnl
      have ca := hc (1 + 4 * n + 2) (by omega)
      have cb := hc (1 + 4 * n + 3) (by omega)
      rw [g4 _ (by omega), show 1284 + (1 + 4 * n + 2) = 1285 + 4 * n + 2 by omega, show 443 + (1 + 4 * n + 2) = 444 + 4 * n + 2 by omega] at ca
      rw [g4 _ (by omega), show 1284 + (1 + 4 * n + 3) = 1285 + 4 * n + 3 by omega, show 443 + (1 + 4 * n + 3) = 444 + 4 * n + 3 by omega] at cb
      rw [ca, cb, h1, h2, Int.toNat_natCast, Int.toNat_natCast]
      refine wfSeg_of (f := opD es2) (fun i hi => ?_) h5
      have ci := hc (41 + 2 * i) (by omega)
      rw [g4 _ (by omega), show 1284 + (41 + 2 * i) = 1325 + 2 * i by omega, show 443 + (41 + 2 * i) = 484 + 2 * i by omega] at ci
      rw [ci]
      rfl
    have tp5 : gI es5 79 5 = zI 0 := by
      rw [fr_fld f5 (sh_of hT4) (p := 79) (b := 5) rfl (by simp only [mHq, true_and, and_true, false_and, and_false, or_false, false_or, not_false_eq_true, Nat.reduceEqDiff] <;> omega), e4', gI_sA, e3, gI_sI_ne (Or.inr (by decide))]
      exact tp2
    exact post_intF (c := kc_415) (lo := iLO) (hi := iHI) hE hT5 hI5 f15 List.mem_cons_self (fact1 (fact_of_gI (sh_of hT5) (p := 79) (b := 5) rfl rfl (by show evF _ (fC 0) = _; rw [fC_ev, tp5]; rfl))) (by unfold i32 iLO iHI; omega) (by unfold iLO; omega) (by unfold iHI; omega) (Nat.le_refl _) (Nat.le_refl _)
  · have hT5 : hOK tT es5 := by rw [e5]; exact hOK_sI hT2 (p := 79) (b := 10) (lo := iLO) (hi := iHI) rfl rfl (i32_rng _)
    have hT6 : hOK tT es6 := by rw [e6]; exact hOK_sI hT5 (p := 79) (b := 0) (lo := iLO) (hi := iHI) rfl rfl (i32_rng _)
    have f6 : fr frMs es es6 := by rw [e6, e5]; exact fr_trans f12 (fr_trans (fr_sI rfl) (fr_sI rfl))
    have hI6 : gInv es6 := gInv_cells f6.1 (fr_field f6 (by have := hOK_len hT; omega) (by decide)) (fun p i hp hi => fr_cell f6 (by have := hOK_len hT; omega) (by
      refine mIn_no ?_
      rcases hp with rfl | rfl
      · simp only [frMs, frRa, mHq, true_and, and_true, false_and, and_false, or_false, false_or, not_false_eq_true, Nat.reduceEqDiff] <;> omega
      · simp only [frMs, frRa, mHq, true_and, and_true, false_and, and_false, or_false, false_or, not_false_eq_true, Nat.reduceEqDiff] <;> omega)) hI
    have tp6 : gI es6 79 5 = zI 0 := by rw [e6, gI_sI_ne (Or.inr (by decide)), e5, gI_sI_ne (Or.inr (by decide))]; exact tp2
    exact post_intF (c := kc_415) (lo := iLO) (hi := iHI) hE hT6 hI6 (fr_sub (by decide) f6) List.mem_cons_self (fact1 (fact_of_gI (sh_of hT6) (p := 79) (b := 5) rfl rfl (by show evF _ (fC 0) = _; rw [fC_ev, tp6]; rfl))) (by unfold i32 iLO iHI; omega) (by unfold iLO; omega) (by unfold iHI; omega) (Nat.le_refl _) (Nat.le_refl _)
