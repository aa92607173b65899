/-! kind of the reference, brought up to what is kept; the common part of two longs -/
theorem hm_kind {xs : Nat → Int32} {n : Nat} (hn : n ≤ 3584) : conOK (pO0 xs n) gG gInv kc_319 := by
  obtain ⟨row, hrow, h⟩ := kt_408 (aWd_T (xs := xs) hn)
  refine ⟨row, hrow, fun d hd ρ vs es hE hC hS hT hI hF => ?_⟩
  obtain ⟨v0, s0, rfl, g0, g1'⟩ := gS_cons hS
  obtain ⟨v1, s1, rfl, g1, g2'⟩ := gS_cons g1'
  cases gS_nil g2'
  cases arg_r g0
  obtain ⟨a, rfl, ia, ra, -, -⟩ := arg_i hE g1
  have hb := gA_bd hT (p := 80) (t := 0) (n := 2125) (sp := tS80) (k := 0) rfl (by omega) (by decide)
  have hb1 : 0 ≤ (gA es 80 0).toInt ∧ (gA es 80 0).toInt ≤ 5 := hb
  obtain ⟨κ, hκ⟩ : ∃ z : Int, z = (gA es 80 0).toInt := ⟨_, rfl⟩
  rw [← hκ] at hb1
  have hρ : ρ.length = 1 := hE.1
  have hρ2 : ρ = [a] := by
    match ρ, hρ with
    | [b], _ => simp only [List.getElem?_cons_zero, Option.some.injEq] at ra; rw [ra]
  subst hρ2
  have hE2 : gE [a, κ] kc_408.2.2.1.1 := by
    refine ⟨rfl, fun x v hx => ?_⟩
    match x with
    | 0 => simp only [List.getElem?_cons_zero, Option.some.injEq] at hx; subst hx; exact ia
    | 1 => simp only [List.getElem?_cons_succ, List.getElem?_cons_zero, Option.some.injEq] at hx; subst hx; exact hb1
    | x + 2 => simp at hx
  have hF2 : gFs (pO0 xs n) [a, κ] es kc_408.2.2.2.2.1 := by
    intro t ht
    have : t = (80, 0, (.ofNat 0, []), (.ofNat 0, [(.ofNat 1, 1)])) := by
      rcases List.mem_cons.mp ht with h | h
      · exact h
      · cases h
    subst this
    refine ⟨0, 2125, gA es 80, 0, sh_arr (sh_of hT) (p := 80) (t := 0) (n := 2125) (sp := tS80) rfl (by decide), rfl, ?_⟩
    show evF [a, κ] (fV 1) = _
    rw [← hκ]
    exact fV_ev rfl
  have hS2 : gS [a, κ] kc_408.2.2.2.1 [.ref 143, .int (zI a)] := ⟨⟨143, rfl, rfl⟩, ⟨zI a, rfl, by show evF [a, κ] (fV 0) = _; rw [zI_toInt ia]; exact fV_ev rfl⟩, trivial⟩
  refine aW_mono (Nat.le_refl d) (fun o ho => ?_) (h d hd [a, κ] _ es hE2 (fun f hf => by cases hf) hS2 hT trivial hF2)
  obtain ⟨p1, -, p2, out, hout, τ, q1, q2, q3, q4, q5, q6⟩ := ho
  -- what is known of the KINDS behind, and of the answer
  have key : (∃ t : Int, evF ([a, κ] ++ τ) (fV 1) = some κ ∧ gF1 (pO0 xs n) ([a, κ] ++ τ) o.2.1 (80, 0, fC 0, (t, [(.ofNat 1, 1)])) ∧ (t = 0 ∨ t = 1)) ∧ o.2.2.1 ≤ 0 ∧ o.2.2.2 ≤ 0 ∧ ∃ v, o.1 = .inl (some (.int (zI v))) ∧ 0 ≤ v ∧ v ≤ 4 := by
    have hκ1 : evF ([a, κ] ++ τ) (fV 1) = some κ := fV_ev rfl
    simp only [kc_408, List.mem_cons, List.not_mem_nil, or_false] at hout
    have zer : ∀ w : Value, gV ([a, κ] ++ τ) (0, (.ofNat 0, [])) w → w = .int (zI 0) := fun w hw => by
      obtain ⟨x, rfl, hx⟩ := hw
      have h1 : x.toInt = 0 := fC_val (f := (Int.ofNat 0, [])) rfl hx
      rw [← zI_id x, h1]
    have z1 : (∃ w, o.1 = .inl (some w) ∧ gV ([a, κ] ++ τ) (0, (.ofNat 0, [])) w) → ∃ v, o.1 = .inl (some (.int (zI v))) ∧ 0 ≤ v ∧ v ≤ 4 := fun h2 => by
      obtain ⟨w, h3, h4⟩ := h2
      exact ⟨0, by rw [h3, zer w h4], by omega, by omega⟩
    rcases hout with rfl | rfl | rfl | rfl | rfl
    · exact ⟨⟨0, hκ1, q3 _ List.mem_cons_self, Or.inl rfl⟩, q4, q5, z1 q6⟩
    · exact ⟨⟨0, hκ1, q3 _ List.mem_cons_self, Or.inl rfl⟩, q4, q5, z1 q6⟩
    · exact ⟨⟨0, hκ1, q3 _ List.mem_cons_self, Or.inl rfl⟩, q4, q5, z1 q6⟩
    · exact ⟨⟨0, hκ1, q3 _ List.mem_cons_self, Or.inl rfl⟩, q4, q5, z1 q6⟩
    · refine ⟨⟨1, hκ1, q3 _ List.mem_cons_self, Or.inr rfl⟩, q4, q5, ?_⟩
      obtain ⟨w, h3, x, rfl, hx⟩ := q6
      have hx' : evF ([a, κ] ++ τ) (fV 1) = some x.toInt := hx
      rw [hκ1] at hx'
      have h9 := q1.2 1 κ rfl
      have h10 : κ ≤ 4 := h9.2
      exact ⟨κ, by rw [h3, Option.some.inj hx', zI_id], by omega, h10⟩
  obtain ⟨⟨t, k1, k2, k3⟩, k4, k5, v, k6, k7, k8⟩ := key
  obtain ⟨r, es', oc, ok⟩ := o
  simp only at k2 k4 k5 k6 p1 p2
  subst k6
  -- what is kept
  have hKC : (gA es' 80 0).toInt = t + κ := by
    obtain ⟨ty, m, g, k, e1, e2, e3⟩ := k2
    have hk : k = 0 := by
      have e2' : evF ([a, κ] ++ τ) (fC 0) = some (k : Int) := e2
      rw [fC_ev] at e2'
      have := Option.some.inj e2'
      omega
    subst hk
    have e3' : evF ([a, κ] ++ τ) (t, [(.ofNat 1, 1)]) = some (g 0).toInt := e3
    have e4 : gA es' 80 = g := by
      have e1' : es'[80]? = some (.inl (ty, m, .inl g)) := e1
      unfold gA
      rw [e1']
    rw [e4]
    have h5 : evF ([a, κ] ++ τ) (t, [(.ofNat 1, 1)]) = some (t + κ) := by
      refine evF_iff.mpr ⟨κ, evT_cons.mpr ⟨κ, 0, rfl, rfl, ?_⟩, rfl⟩
      show κ = 1 * κ + 0
      omega
    rw [h5] at e3'
    exact (Option.some.inj e3').symm
  have hlen : 108 ≤ es.length := by have := hI.1; rw [tT_len] at this; exact this
  have same : ∀ p i, p = 80 ∨ p = 81 → (p = 80 → (13 ≤ i ∧ i < 49) ∨ 443 ≤ i) → gA es' p i = gA es p i := fun p i hp hi => by
    refine fr_cell p2 (by omega) ?_
    rw [← Bool.not_eq_true]
    intro hm
    unfold mIn at hm
    rw [List.any_eq_true] at hm
    obtain ⟨m, hm1, hm2⟩ := hm
    simp only [kc_408, List.mem_cons, List.not_mem_nil, or_false] at hm1
    simp only [Bool.and_eq_true, beq_iff_eq, Nat.ble_eq, Nat.blt_eq] at hm2
    rcases hm1 with rfl | rfl | rfl | rfl | rfl | rfl | rfl | rfl | rfl | rfl <;> simp only at hm2 <;> omega
  obtain ⟨w1, w2, w3, w4, w5⟩ := hI
  have hI' : gInv es' := by
    refine ⟨Nat.le_trans w1 p2.1, wfT_congr (fun i h1 h2 => same 80 i (Or.inl rfl) (fun _ => Or.inr h1)) w2, ?_, ?_, ?_⟩
    · exact wfT_congr (fun i h1 h2 => same 81 i (Or.inr rfl) (fun h => by cases h)) w3
    · intro hz s hs
      rw [hKC] at hz
      rw [same 80 (13 + s) (Or.inl rfl) (fun _ => Or.inl (by omega))]
      exact w4 (by omega) s hs
    · exact kci_congr (fr_field p2 (by omega) (by decide)) (fun w5 => kcs_congr (same 81 0 (Or.inr rfl) (fun h => by cases h)) (fun i h1 h2 => same 81 i (Or.inr rfl) (fun h => by cases h)) w5) w5
  exact post_int (c := kc_319) (lo := 0) (hi := 4) hE p1 hI' p2 List.mem_cons_self (by unfold i32 iLO iHI; omega) k7 k8 (by omega) (by omega)
/-! the common part: twenty-five instructions of longs -/
section
variable {O : pOut} {d kc ks : Nat} {Q : pRes → Prop} {es : PH}
theorem x0s {j pc q a b : Nat} {L : PL} {s : List Value} {es : PH} {ins : Instr} {ret : Option FieldType} {r : pSt} (hi : iRow j pc = some (ins, q, a, b, ret)) (h : pS0 ins pc L s es = some r) (K : aW O d j kc ks Q r) : aW O d j kc ks Q (pc, L, s, es) := x0 hi h K
theorem common_loop (K : ∀ z : Int64, Q (.inl (some (.long z)), es, kc, ks)) (l0 l2 x9 x10 : Option Value) : ∀ (m : Nat) (n : Int) (a b : Int64) (x9 x10 : Option Value), n + m = 200 → 0 ≤ n → aW O d 157 kc ks Q (9, [l0, none, l2, none, some (.long a), none, some (.long b), none, some (.int (zI n)), x9, x10], [], es) := by
  intro m
  induction m with
  | zero =>
    intro n a b x9 x10 hn h0
    refine x0 (r := (11, [l0, none, l2, none, some (.long a), none, some (.long b), none, some (.int (zI n)), x9, x10], [.int (zI n)], es)) (ins := .iload 8) (q := 0) (a := 0) (b := 0) (ret := some .long) rfl rfl ?_
    refine x0 (r := (14, [l0, none, l2, none, some (.long a), none, some (.long b), none, some (.int (zI n)), x9, x10], [.int (zI 200), .int (zI n)], es)) (ins := .sipush 200) (q := 0) (a := 0) (b := 0) (ret := some .long) rfl rfl ?_
    refine x_cmpT (c := .ge) (off := 31) (t := 45) (q := 0) (a := 0) (b := 0) (ret := some .long) rfl (by unfold i32 iLO iHI; omega) (by unfold i32 iLO iHI; omega) rfl (by simp only [zC, cR]; omega) ?_
    refine x0 (r := (47, [l0, none, l2, none, some (.long a), none, some (.long b), none, some (.int (zI n)), x9, x10], [.long a], es)) (ins := .lload 4) (q := 0) (a := 0) (b := 0) (ret := some .long) rfl rfl ?_
    exact x_ret (v := some (.long a)) (ins := .lreturn) (q := 0) (a := 0) (b := 0) (ret := some .long) rfl rfl (fun _ => rfl) rfl rfl rfl (K a)
  | succ m ih =>
    intro n a b x9 x10 hn h0
    refine x0 (r := (11, [l0, none, l2, none, some (.long a), none, some (.long b), none, some (.int (zI n)), x9, x10], [.int (zI n)], es)) (ins := .iload 8) (q := 0) (a := 0) (b := 0) (ret := some .long) rfl rfl ?_
    refine x0 (r := (14, [l0, none, l2, none, some (.long a), none, some (.long b), none, some (.int (zI n)), x9, x10], [.int (zI 200), .int (zI n)], es)) (ins := .sipush 200) (q := 0) (a := 0) (b := 0) (ret := some .long) rfl rfl ?_
    refine x_cmpF (c := .ge) (off := 31) (t := 45) (q := 0) (a := 0) (b := 0) (ret := some .long) rfl (by unfold i32 iLO iHI; omega) (by unfold i32 iLO iHI; omega) rfl (by simp only [zC, cR]; omega) ?_
    refine x0 (r := (19, [l0, none, l2, none, some (.long a), none, some (.long b), none, some (.int (zI n)), x9, x10], [.long b], es)) (ins := .lload 6) (q := 0) (a := 0) (b := 0) (ret := some .long) rfl rfl ?_
    refine x0 (r := (20, [l0, none, l2, none, some (.long a), none, some (.long b), none, some (.int (zI n)), x9, x10], [.long 0, .long b], es)) (ins := .lconst 0) (q := 0) (a := 0) (b := 0) (ret := some .long) rfl rfl ?_
    refine x0 (r := (21, [l0, none, l2, none, some (.long a), none, some (.long b), none, some (.int (zI n)), x9, x10], [.int (lg_cmp b 0)], es)) (ins := .lcmp) (q := 0) (a := 0) (b := 0) (ret := some .long) rfl rfl ?_
    by_cases hb : b = 0
    · have e1 : lg_cmp b 0 = zI 0 := by rw [hb]; rfl
      rw [e1]
      refine x_ifT (c := .eq) (off := 24) (t := 45) (q := 0) (a := 0) (b := 0) (ret := some .long) rfl (by unfold i32 iLO iHI; omega) rfl (by simp only [zC, cR]; omega) ?_
      refine x0 (r := (47, [l0, none, l2, none, some (.long a), none, some (.long b), none, some (.int (zI n)), x9, x10], [.long a], es)) (ins := .lload 4) (q := 0) (a := 0) (b := 0) (ret := some .long) rfl rfl ?_
      exact x_ret (v := some (.long a)) (ins := .lreturn) (q := 0) (a := 0) (b := 0) (ret := some .long) rfl rfl (fun _ => rfl) rfl rfl rfl (K a)
    · have e1 : (lg_cmp b 0).toInt ≠ 0 := by
        rw [lg_cmp_sgn]
        have h9 : (0 : Int64).toInt = 0 := rfl
        have h8 : b.toInt ≠ 0 := fun h => hb (Int64.toInt_inj.mp (by rw [h, h9]))
        unfold sgn
        rw [h9]
        split
        · omega
        · split <;> omega
      have hr := i32_rng (lg_cmp b 0)
      rw [← zI_id (lg_cmp b 0)]
      refine x_ifF (c := .eq) (off := 24) (t := 45) (q := 0) (a := 0) (b := 0) (ret := some .long) rfl hr rfl (by simp only [zC, cR]; omega) ?_
      refine x0 (r := (26, [l0, none, l2, none, some (.long a), none, some (.long b), none, some (.int (zI n)), x9, x10], [.long a], es)) (ins := .lload 4) (q := 0) (a := 0) (b := 0) (ret := some .long) rfl rfl ?_
      refine x0 (r := (28, [l0, none, l2, none, some (.long a), none, some (.long b), none, some (.int (zI n)), x9, x10], [.long b, .long a], es)) (ins := .lload 6) (q := 0) (a := 0) (b := 0) (ret := some .long) rfl rfl ?_
      refine x0 (r := (29, [l0, none, l2, none, some (.long a), none, some (.long b), none, some (.int (zI n)), x9, x10], [.long (a - a / b * b)], es)) (ins := .lrem) (q := 0) (a := 0) (b := 0) (ret := some .long) rfl (by simp only [pS0, pBinL, hb, if_false]) ?_
      refine x0 (r := (31, [l0, none, l2, none, some (.long a), none, some (.long b), none, some (.int (zI n)), some (.long (a - a / b * b)), none], [], es)) (ins := .lstore 9) (q := 0) (a := 0) (b := 0) (ret := some .long) rfl rfl ?_
      refine x0 (r := (33, [l0, none, l2, none, some (.long a), none, some (.long b), none, some (.int (zI n)), some (.long (a - a / b * b)), none], [.long b], es)) (ins := .lload 6) (q := 0) (a := 0) (b := 0) (ret := some .long) rfl rfl ?_
      refine x0 (r := (35, [l0, none, l2, none, some (.long b), none, some (.long b), none, some (.int (zI n)), some (.long (a - a / b * b)), none], [], es)) (ins := .lstore 4) (q := 0) (a := 0) (b := 0) (ret := some .long) rfl rfl ?_
      refine x0 (r := (37, [l0, none, l2, none, some (.long b), none, some (.long b), none, some (.int (zI n)), some (.long (a - a / b * b)), none], [.long (a - a / b * b)], es)) (ins := .lload 9) (q := 0) (a := 0) (b := 0) (ret := some .long) rfl rfl ?_
      refine x0 (r := (39, [l0, none, l2, none, some (.long b), none, some (.long (a - a / b * b)), none, some (.int (zI n)), some (.long (a - a / b * b)), none], [], es)) (ins := .lstore 6) (q := 0) (a := 0) (b := 0) (ret := some .long) rfl rfl ?_
      refine x_iinc (i := 8) (n := 1) (x := n) (q := 0) (a := 0) (b := 0) (ret := some .long) rfl rfl (by show 8 < 11; decide) ?_
      show aW _ _ _ _ _ _ (42, [l0, none, l2, none, some (.long b), none, some (.long (a - a / b * b)), none, some (.int (zI (n + 1))), some (.long (a - a / b * b)), none], [], es)
      refine x0 (r := (9, [l0, none, l2, none, some (.long b), none, some (.long (a - a / b * b)), none, some (.int (zI (n + 1))), some (.long (a - a / b * b)), none], [], es)) (ins := .goto (-33)) (q := 0) (a := 0) (b := 0) (ret := some .long) rfl rfl ?_
      exact ih (n + 1) b (a - a / b * b) _ _ (by omega) (by omega)
end
theorem hm_common {O : pOut} {I : PH → Prop} : conOK O gG I kc_287 := by
  refine ⟨_, rfl, fun d hd ρ vs es hE hC hS hT hI hF => ?_⟩
  obtain ⟨v1, v2, rfl, g1, g2⟩ := gS2 hS
  obtain ⟨a, rfl⟩ := arg_l g1
  obtain ⟨b, rfl⟩ := arg_l g2
  have K : ∀ z : Int64, cPost O gG I kc_287 ρ es (.inl (some (.long z)), es, 0, 0) := fun z => post_long (c := kc_287) hE hT hI (fr_refl _ _) List.mem_cons_self (Nat.le_refl _) (Nat.le_refl _)
  show aW O d 157 0 0 _ (0, [some (.long a), none, some (.long b), none, none, none, none, none, none, none, none], [], es)
  refine x0 (r := (1, [some (.long a), none, some (.long b), none, none, none, none, none, none, none, none], [.long a], es)) (ins := .lload_n 0) (q := 0) (a := 0) (b := 0) (ret := some .long) rfl rfl ?_
  refine x0 (r := (3, [some (.long a), none, some (.long b), none, some (.long a), none, none, none, none, none, none], [], es)) (ins := .lstore 4) (q := 0) (a := 0) (b := 0) (ret := some .long) rfl rfl ?_
  refine x0 (r := (4, [some (.long a), none, some (.long b), none, some (.long a), none, none, none, none, none, none], [.long b], es)) (ins := .lload_n 2) (q := 0) (a := 0) (b := 0) (ret := some .long) rfl rfl ?_
  refine x0 (r := (6, [some (.long a), none, some (.long b), none, some (.long a), none, some (.long b), none, none, none, none], [], es)) (ins := .lstore 6) (q := 0) (a := 0) (b := 0) (ret := some .long) rfl rfl ?_
  refine x0 (r := (7, [some (.long a), none, some (.long b), none, some (.long a), none, some (.long b), none, none, none, none], [.int (zI 0)], es)) (ins := .iconst 0) (q := 0) (a := 0) (b := 0) (ret := some .long) rfl rfl ?_
  refine x0 (r := (9, [some (.long a), none, some (.long b), none, some (.long a), none, some (.long b), none, some (.int (zI 0)), none, none], [], es)) (ins := .istore 8) (q := 0) (a := 0) (b := 0) (ret := some .long) rfl rfl ?_
  exact common_loop K (some (.long a)) (some (.long b)) none none 200 0 a b none none (by omega) (by omega)
