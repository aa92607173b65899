/-! THE LAW, all of it; printed by wip/rel/lawj.py -/
theorem gL_c {ρ : List Int} {a : aV} {A : List aV} {L : PL} (h : gL ρ (a :: A) L) : ∃ o M, L = o :: M ∧ gO ρ a o ∧ gL ρ A M := by
  cases L with
  | nil => exact h.elim
  | cons o M => exact ⟨o, M, rfl, h.1, h.2⟩
theorem gO_c {ρ ρ' : List Int} {c : Int} {o : Option Value} (h : gO ρ (1, fC c) o) : gO ρ' (1, fC c) o := by
  rcases h with h | ⟨v, rfl, y, rfl, hy⟩
  · exact absurd h (by show ¬ 4 ≤ 1; omega)
  · exact Or.inr ⟨_, rfl, y, rfl, fC_ev.trans (fC_ev.symm.trans hy)⟩
theorem gO_r {ρ : List Int} {k : Nat} {o : Option Value} (h : gO ρ (1, fC (k : Int)) o) : o = some (.ref k) := by
  rcases h with h | ⟨v, rfl, hv⟩
  · exact absurd h (by show ¬ 4 ≤ 1; omega)
  · rw [arg_r hv]
theorem gE_2 {a b l1 h1 l2 h2 : Int} (ha : l1 ≤ a ∧ a ≤ h1) (hb : l2 ≤ b ∧ b ≤ h2) : gE [a, b] [(l1, h1), (l2, h2)] := by
  refine ⟨rfl, fun x v hx => ?_⟩
  match x with
  | 0 => cases hx; exact ha
  | 1 => cases hx; exact hb
  | x + 2 => simp at hx
theorem law_all : ∃ row R, pM[301]? = some row ∧ lawRun1 row = some R ∧ ∀ r ∈ R, lawG row r = true := by
  have hl := lawLen_ok
  unfold lawLen at hl
  split at hl
  rotate_left
  · cases hl
  rename_i row hrow
  split at hl
  rotate_left
  · cases hl
  rename_i R hR
  rw [Nat.ble_eq] at hl
  refine ⟨row, R, hrow, hR, fun r hr => ?_⟩
  have part : ∀ k, lawPart k = true → ∀ x, x ∈ (R.drop (3 * k)).take 3 → lawG row x = true := by
    intro k hk x hx
    unfold lawPart at hk
    simp only [hrow, hR] at hk
    exact List.all_eq_true.mp hk x hx
  obtain ⟨i, hi, rfl⟩ := List.mem_iff_getElem.mp hr
  have hmem : R[i] ∈ (R.drop (3 * (i / 3))).take 3 := by
    apply List.mem_of_getElem? (i := i % 3)
    rw [List.getElem?_take_of_lt (by omega), List.getElem?_drop, show 3 * (i / 3) + i % 3 = i by omega]
    exact List.getElem?_eq_getElem hi
  have hk : i / 3 < 12 := by omega
  refine part (i / 3) ?_ _ hmem
  generalize i / 3 = k at hk
  match k, hk with
  | 0, _ => exact lawPart_0
  | 1, _ => exact lawPart_1
  | 2, _ => exact lawPart_2
  | 3, _ => exact lawPart_3
  | 4, _ => exact lawPart_4
  | 5, _ => exact lawPart_5
  | 6, _ => exact lawPart_6
  | 7, _ => exact lawPart_7
  | 8, _ => exact lawPart_8
  | 9, _ => exact lawPart_9
  | 10, _ => exact lawPart_10
  | 11, _ => exact lawPart_11
  | k + 12, h => omega
theorem law_loop {xs : Nat → Int32} {n : Nat} (hn : n ≤ 3584) : ∀ (N : Nat) (i : Int) (es : PH) (kc ks : Nat) (L : PL), 0 ≤ i → i ≤ 3591 → 3598 - i < 7 * (N : Int) → gL [(n : Int), i] lawA L → hOK tT es → gInv es → J es → kc + N ≤ 2000 → ks + 25 * N ≤ 200000 → aW (pO0 xs n) 41 301 kc ks lawQ (23, L, [], es) := by
  have w := aWd_I (xs := xs) hn
  obtain ⟨row, R, hrow, hR, hck⟩ := law_all
  intro N
  induction N with
  | zero => intro i es kc ks L h1 h2 h3; omega
  | succ N ih =>
    intro i es kc ks L h1 h2 h3 hL hT hI hJ hk hs
    have hO7 : pO0 xs n 7 = some (n, xs) := rfl
    have fin : ∀ (r : aRes) (τ : List Int) (σ' : pSt) (c' k' : Nat), lawEnd r = true → c' ≤ kc + r.2.2.1 → k' ≤ ks + r.2.2.2 → gSt (pO0 xs n) ([(n : Int), i] ++ τ) r.2.1 σ' → hOK tT σ'.2.2.2 → gInv σ'.2.2.2 → J σ'.2.2.2 → aEnd (pO0 xs n) 301 r.1 σ' → aW (pO0 xs n) 41 301 c' k' lawQ σ' := by
      intro r τ σ' c' k' h9 hc' hk' g' t' i' j' e'
      obtain ⟨pc2, L2, s2, es2⟩ := σ'
      unfold lawEnd at h9
      split at h9
      · rename_i e2 cs2 pc3 A2 st2 F2 kc2 ks2
        obtain ⟨⟨gE1, gC1, gpc, gL1, gS1⟩, -⟩ := g'
        simp only at gE1 gC1 gpc gL1 gS1 t' i' j' hc' hk'
        simp only [Bool.and_eq_true, Nat.beq_eq, Nat.ble_eq, List.isEmpty_iff, iLe_iff] at h9
        obtain ⟨z1, z2, z3, z4, z5, z6⟩ := h9
        subst z1 z2
        split at z3
        rotate_left
        · cases z3
        rename_i a0 a1 a2 a3 a4 a5 a6 a7
        simp only [Bool.and_eq_true, beq_iff_eq] at z3
        obtain ⟨rfl, rfl, rfl, rfl, rfl⟩ := z3
        cases gS_nil gS1
        subst gpc
        obtain ⟨o0, M0, rfl, g0, gL1⟩ := gL_c gL1
        obtain ⟨o1, M1, rfl, g1, gL1⟩ := gL_c gL1
        obtain ⟨o2, M2, rfl, g2, gL1⟩ := gL_c gL1
        obtain ⟨o3, M3, rfl, g3, gL1⟩ := gL_c gL1
        obtain ⟨o4, M4, rfl, g4, gL1⟩ := gL_c gL1
        obtain ⟨o5, M5, rfl, g5, gL1⟩ := gL_c gL1
        obtain ⟨o6, M6, rfl, g6, gL1⟩ := gL_c gL1
        obtain ⟨o7, M7, rfl, g7, gL1⟩ := gL_c gL1
        have hM7 : M7 = [] := by
          cases M7 with
          | nil => rfl
          | cons a b => exact gL1.elim
        subst hM7
        rcases g4 with g4 | ⟨v, rfl, x, rfl, hx⟩
        · exact absurd g4 (by show ¬ 4 ≤ 0; omega)
        have hv : x.toInt = 7 + i := by
          obtain ⟨s, u1, u2⟩ := evF_iff.mp hx
          obtain ⟨p, q, u3, u4, u5⟩ := evT_cons.mp u1
          rw [evT_nil] at u4
          have hp : p = i := by simpa using u3.symm
          have n1 : Int.ofNat 1 = 1 := rfl
          have n7 : Int.ofNat 7 = 7 := rfl
          simp only [lawF7, n1, n7] at u2 u5
          omega
        have hle : x.toInt ≤ pHi e2 cs2 lawF7 := (pLo_le gE1 gC1 hx).2
        have z4' : pHi e2 cs2 lawF7 ≤ 3591 := z4
        refine ih x.toInt es2 c' k' _ (by omega) (by omega) (by omega) ⟨gO_c g0, gO_c g1, gO_c g2, gO_c g3, Or.inr ⟨_, rfl, x, rfl, ?_⟩, Or.inl (by show 4 ≤ 4; omega), Or.inl (by show 4 ≤ 4; omega), Or.inl (by show 4 ≤ 4; omega), trivial⟩ t' i' j' (by omega) (by omega)
        exact fV_ev rfl
      · rename_i ec2 pc3 A2 st2 F2 kc2 ks2
        obtain ⟨⟨gE1, gC1, gpc, gL1, gS1⟩, -⟩ := g'
        simp only at gE1 gC1 gpc gL1 gS1 t' i' hc' hk'
        simp only [Bool.and_eq_true, Nat.ble_eq] at h9
        obtain ⟨z1, z2, z3⟩ := h9
        split at z1
        rotate_left
        · cases z1
        rename_i v0
        rw [beq_iff_eq] at z1
        subst z1
        obtain ⟨v, v1, v2⟩ := e'
        simp only at v2
        obtain ⟨u, s3, rfl, gw, gs3⟩ := gS_cons gS1
        cases gS_nil gs3
        have hv : v = some u := by
          cases v with
          | none => cases v2
          | some z => simp only [Option.toList_some, List.cons.injEq, and_true] at v2; rw [v2]
        subst hv
        obtain ⟨x, rfl, hx⟩ := gw
        have hx1 : x.toInt = 1 := fC_val (f := fC 1) rfl hx
        have hx2 : x = 1 := Int32.toInt_inj.mp (by rw [hx1]; rfl)
        subst hx2
        exact aW_fin v1 ⟨rfl, by show c' ≤ 601024; omega, by show k' ≤ 7293034; omega⟩
      · cases h9
    refine aRun_ok w.1 w.2.1 (lawCL_ok hn) (w.2.2 _ (List.all_eq_true.mpr fun m hm => (List.mem_filter.mp hm).2)) (mSub_filter _) gInl 1000000 41 301 row _ 0 0 lawS R hrow hR [(n : Int), i] (23, L, [], es) lawQ kc ks kc ks ⟨⟨gE_2 (show (0 : Int) ≤ (n : Int) ∧ (n : Int) ≤ 3584 from ⟨by omega, by omega⟩) (show (0 : Int) ≤ i ∧ i ≤ 3591 from ⟨h1, h2⟩), (fun f hf => by cases hf), rfl, hL, trivial⟩, ?_⟩ hT hI (Nat.le_refl _) (Nat.le_refl _) ?_
    · intro t ht
      rcases List.mem_cons.mp ht with rfl | ht
      · exact ⟨n, xs, Or.inl ⟨by show 7 < 100; omega, hO7, fV_ev rfl⟩⟩
      · cases ht
    · intro r hrm τ σ' c' k' hc' hk' g' t' i' f' e'
      have j' : J σ'.2.2.2 := J_fr hT f' hJ
      have h9 := hck r hrm
      unfold lawG at h9
      cases hb : (Nat.beq r.1 0 && !(Nat.beq r.2.1.1.2.1 23)) with
      | false =>
        rw [hb] at h9
        exact fin r τ σ' c' k' h9 hc' hk' g' t' i' j' e'
      | true =>
        rw [hb] at h9
        simp only [cond_true, Bool.and_eq_true, Nat.beq_eq] at h9
        obtain ⟨⟨z1, z2⟩, z3⟩ := h9
        cases hh : lawHand.any (fun q => q == r.2.1.1.2.1) with
        | true =>
          rw [hh] at z3
          simp only [cond_true] at z3
          obtain ⟨pc2, L2, s2, es2⟩ := σ'
          unfold lawAt at z3
          obtain ⟨⟨gE1, gC1, gpc, gL1, gS1⟩, -⟩ := g'
          simp only at gE1 gC1 gpc gL1 gS1 t' i' j' hc' hk'
          simp only [Bool.and_eq_true, List.isEmpty_iff, iLe_iff] at z3
          obtain ⟨z4, z5, z6, z7⟩ := z3
          rw [z4] at gS1
          cases gS_nil gS1
          generalize hA : r.2.1.1.2.2.1 = A2 at gL1 z5
          unfold lawAvs at z5
          split at z5
          rotate_left
          · cases z5
          rename_i a0 a1 a2 a3 a4 a5 a6 a7
          simp only [Bool.and_eq_true, beq_iff_eq] at z5
          obtain ⟨rfl, rfl, rfl, rfl, rfl⟩ := z5
          obtain ⟨o0, M0, rfl, g0, gL1⟩ := gL_c gL1
          obtain ⟨o1, M1, rfl, g1, gL1⟩ := gL_c gL1
          obtain ⟨o2, M2, rfl, g2, gL1⟩ := gL_c gL1
          obtain ⟨o3, M3, rfl, g3, gL1⟩ := gL_c gL1
          obtain ⟨o4, M4, rfl, g4, gL1⟩ := gL_c gL1
          obtain ⟨o5, M5, rfl, g5, gL1⟩ := gL_c gL1
          obtain ⟨o6, M6, rfl, g6, gL1⟩ := gL_c gL1
          obtain ⟨o7, M7, rfl, g7, gL1⟩ := gL_c gL1
          have hM7 : M7 = [] := by
            cases M7 with
            | nil => rfl
            | cons a b => exact gL1.elim
          subst hM7
          obtain rfl := gO_r (k := 7) g0
          obtain rfl := gO_r (k := 64) g1
          obtain rfl := gO_r (k := 143) g2
          obtain rfl := gO_r (k := 171) g3
          rcases g4 with g4 | ⟨v, rfl, x, rfl, hx⟩
          · exact absurd g4 (by show ¬ 4 ≤ 0; omega)
          have hx1 := evV hx
          have hxi : x.toInt = i := by simpa using hx1.symm
          have hxz : x = zI i := by rw [← hxi, zI_id]
          subst hxz
          have hn0 : evF ([(n : Int), i] ++ τ) (fV 0) = some (n : Int) := fV_ev rfl
          have hi1 : evF ([(n : Int), i] ++ τ) (fV 1) = some i := fV_ev rfl
          have hb7 := (pLo_le gE1 gC1 (fAdd_ev (k := -1) hi1 hn0)).2
          have hsub := List.any_eq_true.mp hh
          obtain ⟨q, hq1, hq2⟩ := hsub
          rw [beq_iff_eq] at hq2
          have hpc : pc2 = q := by rw [hq2]; exact gpc
          subst hpc
          refine lawHand_ok hn hq1 h1 (by omega) t' i' j' ?_
          intro es' kc' ks' y5 y6 y7 b1 b2 b3 b4 b5
          refine ih (i + 7) es' kc' ks' _ (by omega) (by omega) (by omega) ⟨Or.inr ⟨_, rfl, 7, rfl, rfl⟩, Or.inr ⟨_, rfl, 64, rfl, rfl⟩, Or.inr ⟨_, rfl, 143, rfl, rfl⟩, Or.inr ⟨_, rfl, 171, rfl, rfl⟩, Or.inr ⟨_, rfl, zI (i + 7), rfl, ?_⟩, Or.inl (by show 4 ≤ 4; omega), Or.inl (by show 4 ≤ 4; omega), Or.inl (by show 4 ≤ 4; omega), trivial⟩ b1 b2 b3 (by omega) (by omega)
          rw [zI_toInt (by unfold i32 iLO iHI; omega)]
          exact fV_ev rfl
        | false =>
          rw [hh] at z3
          simp only [cond_false] at z3
          split at z3
          rotate_left
          · cases z3
          rename_i R2 hR2
          refine aRun_ok w.1 w.2.1 (lawCL_ok hn) (w.2.2 _ (List.all_eq_true.mpr fun m hm => (List.mem_filter.mp hm).2)) (mSub_filter _) gInl 1000000 41 301 row _ 0 0 r.2.1 R2 hrow hR2 ([(n : Int), i] ++ τ) σ' lawQ c' k' kc ks g' t' i' (by omega) (by omega) ?_
          intro r2 hrm2 τ2 σ2 c2 k2 hc2 hk2 g2 t2 i2 f2 e2
          rw [List.append_assoc] at g2
          exact fin r2 (τ ++ τ2) σ2 c2 k2 (List.all_eq_true.mp z3 r2 hrm2) hc2 hk2 g2 t2 i2 (J_fr t' f2 j') e2
/-- the pure run of the law ends, and answers 1, on every script -/
theorem pure_claim (n : Nat) (hn : n ≤ 3584) (xs : Nat → Int32) : ∃ (k d : Nat) (es1 : PH) (kc ks : Nat), pRun (pO0 xs n) k d 301 (0, pEntry [.ref 7] 8, [], []) = some (.inl (some (.int 1)), es1, kc, ks) ∧ d ≤ 400 ∧ kc ≤ 601024 ∧ ks ≤ 7293034 := by
  have h := law_start (xs := xs) (n := n) (Q := lawQ) (fun es kc ks hT hI hS hk hs => aW_mono (show 41 ≤ 61 by omega) (fun _ h => h) (law_loop hn 515 0 es kc ks startL (by omega) (by omega) (by omega) ⟨Or.inr ⟨_, rfl, 7, rfl, rfl⟩, Or.inr ⟨_, rfl, 64, rfl, rfl⟩, Or.inr ⟨_, rfl, 143, rfl, rfl⟩, Or.inr ⟨_, rfl, 171, rfl, rfl⟩, Or.inr ⟨_, rfl, 0, rfl, rfl⟩, Or.inl (by show 4 ≤ 4; omega), Or.inl (by show 4 ≤ 4; omega), Or.inl (by show 4 ≤ 4; omega), trivial⟩ hT hI (J_start hS) (by omega) (by omega)))
  obtain ⟨k, o, h1, h2, h3, h4⟩ := h
  obtain ⟨r, es1, kc, ks⟩ := o
  simp only at h2 h3 h4
  rw [h2] at h1
  exact ⟨k, 61, es1, kc, ks, h1, by omega, by omega, by omega⟩
