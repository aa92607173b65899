/-! THE LAW, all of it -/
def lawQ (o : pRes) : Prop := o.1 = .inl (some (.int 1)) ∧ o.2.2.1 ≤ 601024 ∧ o.2.2.2 ≤ 7293034
theorem lawNo_ok {ρ : List Int} {e : aE} {cs : List aF} (hE : gE ρ e) (hC : gC ρ cs) (h : lawNo e cs = true) : False := by
  unfold lawNo at h
  rw [List.any_eq_true] at h
  obtain ⟨k, hk, h1⟩ := h
  rw [iLe_iff] at h1
  obtain ⟨v, hv, hv0⟩ := hC k hk
  have h2 := (pLo_le hE hC hv).2
  have h3 : pHi e cs k ≤ -1 := h1
  omega
theorem law_all : ∃ row R, pM[301]? = some row ∧ lawRun1 row = some R ∧ ∀ r ∈ R, lawG row r = true := by
  have hl := lawLen_ok
  unfold lawLen at hl
  split at hl
  rotate_left
  · cases hl
  rename_i row hrow
  split at hl
  rotate_left
  · cases hl
  rename_i R hR
  rw [Nat.ble_eq] at hl
  refine ⟨row, R, hrow, hR, fun r hr => ?_⟩
  have part : ∀ k, lawPart k = true → ∀ x, x ∈ (R.drop (3 * k)).take 3 → lawG row x = true := by
    intro k hk x hx
    unfold lawPart at hk
    simp only [hrow, hR] at hk
    exact List.all_eq_true.mp hk x hx
  obtain ⟨i, hi, rfl⟩ := List.mem_iff_getElem.mp hr
  have hmem : R[i] ∈ (R.drop (3 * (i / 3))).take 3 := by
    apply List.mem_of_getElem? (i := i % 3)
    rw [List.getElem?_take_of_lt (by omega), List.getElem?_drop, show 3 * (i / 3) + i % 3 = i by omega]
    exact List.getElem?_eq_getElem hi
  have hk : i / 3 < 12 := by omega
  refine part (i / 3) ?_ _ hmem
  generalize i / 3 = k at hk
  match k, hk with
  | 0, _ => exact lawPart_0
  | 1, _ => exact lawPart_1
  | 2, _ => exact lawPart_2
  | 3, _ => exact lawPart_3
  | 4, _ => exact lawPart_4
  | 5, _ => exact lawPart_5
  | 6, _ => exact lawPart_6
  | 7, _ => exact lawPart_7
  | 8, _ => exact lawPart_8
  | 9, _ => exact lawPart_9
  | 10, _ => exact lawPart_10
  | 11, _ => exact lawPart_11
  | k + 12, h => omega
theorem law_loop {xs : Nat → Int32} {n : Nat} (hn : n ≤ 3584) : ∀ (N : Nat) (i : Int) (ρ : List Int) (es : PH) (kc ks : Nat) (L : PL), ρ[1]? = some i → 3598 - i < 7 * (N : Int) → gE ρ lawE → ρ = [(n : Int)] ++ ρ.drop 1 → gFs (pO0 xs n) ρ es lawF → gL ρ lawA L → hOK tT es → gInv es → kc + N ≤ 2000 → ks + 25 * N ≤ 200000 → aW (pO0 xs n) 41 301 kc ks lawQ (23, L, [], es) := by
  have w := aWd_I (xs := xs) hn
  obtain ⟨row, R, hrow, hR, hck⟩ := law_all
  intro N
  induction N with
  | zero =>
    intro i ρ es kc ks L h1 h3 hE
    have h9 : _ ∧ i ≤ 3591 := hE.2 1 i h1
    omega
  | succ N ih =>
    intro i ρ es kc ks L h1 h3 hE hρ hF hL hT hI hk hs
    have fin : ∀ (r : aRes) (τ : List Int) (σ' : pSt) (c' k' : Nat), lawEnd r = true → c' ≤ kc + r.2.2.1 → k' ≤ ks + r.2.2.2 → gSt (pO0 xs n) (ρ ++ τ) r.2.1 σ' → hOK tT σ'.2.2.2 → gInv σ'.2.2.2 → aEnd (pO0 xs n) 301 r.1 σ' → aW (pO0 xs n) 41 301 c' k' lawQ σ' := by
      intro r τ σ' c' k' h9 hc' hk' g' t' i' e'
      obtain ⟨pc2, L2, s2, es2⟩ := σ'
      unfold lawEnd at h9
      split at h9
      · rename_i e2 cs2 pc3 A2 st2 F2 kc2 ks2
        obtain ⟨⟨gE1, gC1, gpc, gL1, gS1⟩, gF1'⟩ := g'
        simp only at gE1 gC1 gpc gL1 gS1 gF1' t' i' hc' hk'
        rw [Bool.or_eq_true] at h9
        rcases h9 with h9 | h9
        · exact (lawNo_ok gE1 gC1 h9).elim
        simp only [Bool.and_eq_true, Nat.beq_eq, Nat.ble_eq, List.isEmpty_iff] at h9
        obtain ⟨z1, z2, z3, z5, z6⟩ := h9
        subst z1 z2
        cases gS_nil gS1
        subst gpc
        have hρτ : ρ ++ τ = [(n : Int)] ++ (ρ.drop 1 ++ τ) := by rw [← List.append_assoc, ← hρ]
        rw [hρτ] at gE1 gC1 gL1 gF1'
        obtain ⟨θ, τ', y0, y1, y2, y3, y4, y5, y6⟩ := aMat_ok gE1 gC1 gF1' (ρ := [(n : Int)]) (nv := 1) rfl z3
        have y0' : (θ.getD 1 (fC 0) == lawF7) = true := y0
        rw [beq_iff_eq] at y0'
        have hl4 : ([(n : Int)] ++ τ').length = 4 := y3.1
        obtain ⟨j, hj⟩ : ∃ j : Int, ([(n : Int)] ++ τ')[1]? = some j := ⟨_, List.getElem?_eq_getElem (by omega)⟩
        have hj2 := y2 1 j hj
        rw [y0', ← hρτ] at hj2
        have hv : j = 7 + i := by
          obtain ⟨s, u1, u2⟩ := evF_iff.mp hj2
          obtain ⟨p, q, u3, u4, u5⟩ := evT_cons.mp u1
          rw [evT_nil] at u4
          have hp : p = i := by
            have hl1 : 1 < ρ.length := (List.getElem?_eq_some_iff.mp h1).1
            rw [List.getElem?_append_left hl1, h1] at u3
            exact (Option.some.inj u3).symm
          have n1 : Int.ofNat 1 = 1 := rfl
          have n7 : Int.ofNat 7 = 7 := rfl
          simp only [lawF7, n1, n7] at u2 u5
          omega
        exact ih j ([(n : Int)] ++ τ') es2 c' k' L2 hj (by omega) y3 rfl y5 (cVs_L gE1 gC1 y1 y2 y6 gL1) t' i' (by omega) (by omega)
      · rename_i e2 cs2 pc3 A2 st2 F2 kc2 ks2
        obtain ⟨⟨gE1, gC1, gpc, gL1, gS1⟩, -⟩ := g'
        simp only at gE1 gC1 gpc gL1 gS1 t' i' hc' hk'
        rw [Bool.or_eq_true] at h9
        rcases h9 with h9 | h9
        · exact (lawNo_ok gE1 gC1 h9).elim
        simp only [Bool.and_eq_true, Nat.ble_eq] at h9
        obtain ⟨z1, z2, z3⟩ := h9
        split at z1
        rotate_left
        · cases z1
        rename_i v0
        rw [beq_iff_eq] at z1
        subst z1
        obtain ⟨v, v1, v2⟩ := e'
        simp only at v2
        obtain ⟨u, s3, rfl, gw, gs3⟩ := gS_cons gS1
        cases gS_nil gs3
        have hv : v = some u := by
          cases v with
          | none => cases v2
          | some z => simp only [Option.toList_some, List.cons.injEq, and_true] at v2; rw [v2]
        subst hv
        obtain ⟨x, rfl, hx⟩ := gw
        have hx1 : x.toInt = 1 := fC_val (f := fC 1) rfl hx
        have hx2 : x = 1 := Int32.toInt_inj.mp (by rw [hx1]; rfl)
        subst hx2
        exact aW_fin v1 ⟨rfl, by show c' ≤ 601024; omega, by show k' ≤ 7293034; omega⟩
      · cases h9
    refine aRun_ok w.1 w.2.1 (lawCL_ok hn) (w.2.2 _ (List.all_eq_true.mpr fun m hm => (List.mem_filter.mp hm).2)) (mSub_filter _) gInl2 1000000 41 301 row _ 0 0 lawS R hrow hR ρ (23, L, [], es) lawQ kc ks kc ks ⟨⟨hE, (fun f hf => by cases hf), rfl, hL, trivial⟩, hF⟩ hT hI (Nat.le_refl _) (Nat.le_refl _) ?_
    intro r hrm τ σ' c' k' hc' hk' g' t' i' f' e'
    have h9 := hck r hrm
    unfold lawG at h9
    cases hb : (Nat.beq r.1 0 && !(Nat.beq r.2.1.1.2.1 23)) with
    | false =>
      rw [hb] at h9
      exact fin r τ σ' c' k' h9 hc' hk' g' t' i' e'
    | true =>
      rw [hb] at h9
      simp only [cond_true, Bool.and_eq_true, Nat.beq_eq] at h9
      obtain ⟨⟨z1, z2⟩, z3⟩ := h9
      split at z3
      rotate_left
      · cases z3
      rename_i R2 hR2
      refine aRun_ok w.1 w.2.1 (lawCL_ok hn) (w.2.2 _ (List.all_eq_true.mpr fun m hm => (List.mem_filter.mp hm).2)) (mSub_filter _) gInl2 1000000 41 301 row _ 0 0 r.2.1 R2 hrow hR2 (ρ ++ τ) σ' lawQ c' k' kc ks g' t' i' (by omega) (by omega) ?_
      intro r2 hrm2 τ2 σ2 c2 k2 hc2 hk2 g2 t2 i2 f2 e2
      rw [List.append_assoc] at g2
      exact fin r2 (τ ++ τ2) σ2 c2 k2 (List.all_eq_true.mp z3 r2 hrm2) hc2 hk2 g2 t2 i2 e2
/-- the pure run of the law ends, and answers 1, on every script -/
theorem pure_claim (n : Nat) (hn : n ≤ 3584) (xs : Nat → Int32) : ∃ (k d : Nat) (es1 : PH) (kc ks : Nat), pRun (pO0 xs n) k d 301 (0, pEntry [.ref 7] 8, [], []) = some (.inl (some (.int 1)), es1, kc, ks) ∧ d ≤ 400 ∧ kc ≤ 601024 ∧ ks ≤ 7293034 := by
  have hO7 : pO0 xs n 7 = some (n, xs) := rfl
  have h := law_start (xs := xs) (n := n) (Q := lawQ) (fun es kc ks hT hI hS hk hs => by
    have hsh := sh_of hT
    obtain ⟨s1, s2, s3, s4⟩ := hS
    have z : (0 : Int32).toInt = 0 := rfl
    refine aW_mono (show 41 ≤ 61 by omega) (fun _ h => h) (law_loop hn 515 0 [(n : Int), 0, 0, 0] es kc ks startL rfl (by omega) ?_ rfl ?_ ⟨Or.inr ⟨_, rfl, 7, rfl, rfl⟩, Or.inr ⟨_, rfl, 64, rfl, rfl⟩, Or.inr ⟨_, rfl, 143, rfl, rfl⟩, Or.inr ⟨_, rfl, 171, rfl, rfl⟩, Or.inr ⟨_, rfl, 0, rfl, rfl⟩, Or.inl (by show 4 ≤ 4; omega), Or.inl (by show 4 ≤ 4; omega), Or.inl (by show 4 ≤ 4; omega), trivial⟩ hT hI (by omega) (by omega))
    · refine ⟨rfl, fun x v hx => ?_⟩
      match x with
      | 0 => cases hx; exact ⟨by show (0 : Int) ≤ (n : Int); omega, by show (n : Int) ≤ 3584; omega⟩
      | 1 => cases hx; exact ⟨by show (0 : Int) ≤ 0; omega, by show (0 : Int) ≤ 3591; omega⟩
      | 2 => cases hx; exact ⟨by show (0 : Int) ≤ 0; omega, by show (0 : Int) ≤ 400; omega⟩
      | 3 => cases hx; exact ⟨by show (0 : Int) ≤ 0; omega, by show (0 : Int) ≤ 1; omega⟩
      | x + 4 => simp at hx
    · intro t ht
      rcases List.mem_cons.mp ht with rfl | ht
      · exact ⟨n, xs, Or.inl ⟨by show 7 < 100; omega, hO7, fV_ev rfl⟩⟩
      rcases List.mem_cons.mp ht with rfl | ht
      · exact fact_of_gI hsh (p := 1) (b := 1) rfl rfl (by show evF _ (fV 2) = _; rw [s1]; exact fV_ev rfl)
      rcases List.mem_cons.mp ht with rfl | ht
      · exact fact_of_gI hsh (p := 79) (b := 5) rfl rfl (by show evF _ (fV 2) = _; rw [s2]; exact fV_ev rfl)
      rcases List.mem_cons.mp ht with rfl | ht
      · exact fact_of_gI hsh (p := 0) (b := 9) rfl rfl (by show evF _ (fV 3) = _; rw [s3]; exact fV_ev rfl)
      rcases List.mem_cons.mp ht with rfl | ht
      · exact fact_of_gI hsh (p := 79) (b := 3) rfl rfl (by show evF _ (fV 3) = _; rw [s4]; exact fV_ev rfl)
      · cases ht)
  obtain ⟨k, o, h1, h2, h3, h4⟩ := h
  obtain ⟨r, es1, kc, ks⟩ := o
  simp only at h2 h3 h4
  rw [h2] at h1
  exact ⟨k, 61, es1, kc, ks, h1, by omega, by omega, by omega⟩
