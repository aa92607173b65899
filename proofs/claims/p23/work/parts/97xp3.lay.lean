/-! the class's search at PRICE 0 lays out what the pure one does -/
theorem lbit_and {a b : Int64} {t : Nat} : lbit (a &&& b) t = (lbit a t && lbit b t) := by
  unfold lbit
  rw [Int64.toBitVec_and, BitVec.getLsbD_and]
theorem bit_t {bi w2 w3 : Int64} {v4 : Int} {n : Nat} (hn : n < 36) (e2 : w2 = (bi.toUInt64 >>> ((zI (n : Int)).toInt64.toUInt64 &&& Int64.toUInt64 63)).toInt64) (e3 : w3 = w2 &&& (Int64.ofNat 1)) (e4 : v4 = sgn (w3.toInt - (Int64.ofNat 0).toInt)) : v4 = 0 ↔ ¬ lbit bi n = true := by
  have h1 : nL w3 = nL bi / 2 ^ n % 2 := by
    rw [e3, nL_and, e2, nL_ushr (by omega) (by omega), Int.toNat_natCast]
    exact Nat.and_one_is_mod _
  have h2 : nL bi / 2 ^ n % 2 < 2 := Nat.mod_lt _ (by decide)
  have h3 : w3.toInt = (nL w3 : Int) := by
    show w3.toBitVec.toInt = _
    rw [BitVec.toInt_eq_toNat_cond, if_pos (by show 2 * nL w3 < 2 ^ 64; omega)]
    rfl
  have h4 : (Int64.ofNat 0).toInt = 0 := rfl
  rw [e4, sgn_z, h3, h4, h1, nL_bit, Nat.testBit_eq_decide_div_mod_eq, decide_eq_true_iff]
  constructor <;> intro h <;> omega
theorem long_0 {a : Int64} (h : sgn (a.toInt - (Int64.ofNat 0).toInt) = 0) : a = Int64.ofNat 0 := by
  have h1 := sgn_z.mp h
  apply Int64.toInt_inj.mp
  omega
def clB (b nb : Nat) (wy : Int) (K : Nat → Nat × (Nat → Int × Nat)) (nt : Nat → Nat → Int) (es : PH) : Prop := hOK tT es ∧ (gI es 53 0).toInt = (b : Int) ∧ (gI es 53 1).toInt = (b : Int) + 1 ∧ (gI es 53 2).toInt = 0 ∧ (∀ i, i < 8 → (gA es 55 i).toInt = 0) ∧ (gI es 68 2).toInt = 0 ∧ (gI es 52 15).toInt = 0 ∧ (gA es 13 b).toInt = (nb : Int) ∧ (gA es 54 b).toInt = wy ∧ kdC K 9 10 es ∧ ∀ j, j < nb → ∀ q, q < 4 → (gA es 14 (96 * b + 4 * j + q)).toInt = nt j q
def clR (b k : Nat) (es : PH) : Prop := (gA es 70 (3 * k + b)).toInt = (k : Int) ∧ (gA es 71 (3 * k + b)).toInt = (k : Int) ∧ (gA es 72 (3 * k + b)).toInt = 0 ∧ (gA es 69 ((3 * k + b) * 25 + k)).toInt = 0
def clI (b nb : Nat) (wy : Int) (K : Nat → Nat × (Nat → Int × Nat)) (nt : Nat → Nat → Int) (k n x : Nat) (B : Nat → Int) (es : PH) : Prop := clB b nb wy K nt es ∧ bdC B 67 es ∧ (∀ j, j ≤ k → clR b j es) ∧ (gI es 52 16).toInt = (n : Int) ∧ (gI es 52 17).toInt = (x : Int)
def ntB (nt : Nat → Nat → Int) (nb : Nat) : Prop := ∀ j, j < nb → (-20 ≤ nt j 2 ∧ nt j 2 ≤ 20) ∧ (-20 ≤ nt j 3 ∧ nt j 3 ≤ 20)
theorem clB_c {b nb : Nat} {wy : Int} {K : Nat → Nat × (Nat → Int × Nat)} {nt : Nat → Nat → Int} {es es' : PH} (h : clB b nb wy K nt es) (hT : hOK tT es') (h0 : gI es' 53 0 = gI es 53 0) (h1 : gI es' 53 1 = gI es 53 1) (h2 : gI es' 53 2 = gI es 53 2) (h68 : gI es' 68 2 = gI es 68 2) (h52 : gI es' 52 15 = gI es 52 15) (a55 : gA es' 55 = gA es 55) (a13 : gA es' 13 = gA es 13) (a54 : gA es' 54 = gA es 54) (a9 : gA es' 9 = gA es 9) (a10 : gA es' 10 = gA es 10) (a14 : gA es' 14 = gA es 14) : clB b nb wy K nt es' := by
  obtain ⟨-, c1, c2, c3, c4, c5, c6, c7, c8, c9, c10⟩ := h
  unfold clB kdC
  rw [h0, h1, h2, h68, h52, a55, a13, a54, a9, a10, a14]
  exact ⟨hT, c1, c2, c3, c4, c5, c6, c7, c8, c9, c10⟩
theorem clR_c {b k : Nat} {es es' : PH} (h : clR b k es) (h70 : gA es' 70 (3 * k + b) = gA es 70 (3 * k + b)) (h71 : gA es' 71 (3 * k + b) = gA es 71 (3 * k + b)) (h72 : gA es' 72 (3 * k + b) = gA es 72 (3 * k + b)) (h69 : gA es' 69 ((3 * k + b) * 25 + k) = gA es 69 ((3 * k + b) * 25 + k)) : clR b k es' := by
  unfold clR
  rw [h70, h71, h72, h69]
  exact h
/-- what a search lays out from a place on, by n places so far, x deep -/
def loPk (kd : Nat → (Nat → Int) → Nat → Bool) (k : Nat) (B : Nat → Int) (n x n' x' : Nat) : Prop := n' ≤ 8001 ∧ (n + tN kd (24 - k) k B ≤ 8000 → n' = n + tN kd (24 - k) k B ∧ x' = max x (tX kd (24 - k) k B)) ∧ (8000 < n + tN kd (24 - k) k B → 8000 < n')
/-- on the way: c is the next move -/
def acc (kd : Nat → (Nat → Int) → Nat → Bool) (k : Nat) (B : Nat → Int) (T X : Nat) (c n x : Nat) : Prop := n ≤ 8001 ∧ ((n ≤ 8000 ∧ n + tSum (tG kd (23 - k) k B) (1296 - c) c = T ∧ max x (tMax (tD kd (23 - k) k B) (1296 - c) c) = X) ∨ (8000 < n ∧ 8000 < T))
theorem acc_skip {kd : Nat → (Nat → Int) → Nat → Bool} {k : Nat} {B : Nat → Int} {T X c c' n x : Nat} (h : acc kd k B T X c n x) (h1 : c ≤ c') (h2 : c' ≤ 1296) (hz : ∀ i, c ≤ i → i < c' → kd k B i = false) : acc kd k B T X c' n x := by
  obtain ⟨a, h⟩ := h
  refine ⟨a, ?_⟩
  rcases h with ⟨b, e1, e2⟩ | h
  · left
    have g1 : ∀ i, c ≤ i → i < c + (c' - c) → tG kd (23 - k) k B i = 0 := fun i q1 q2 => by
      unfold tG
      rw [hz i q1 (by omega)]
      rfl
    have g2 : ∀ i, c ≤ i → i < c + (c' - c) → tD kd (23 - k) k B i = 0 := fun i q1 q2 => by
      unfold tD
      rw [hz i q1 (by omega)]
      rfl
    rw [show 1296 - c = (c' - c) + (1296 - c') by omega, tSum_skip (c' - c) (1296 - c') c g1, show c + (c' - c) = c' by omega] at e1
    rw [show 1296 - c = (c' - c) + (1296 - c') by omega, tMax_skip (c' - c) (1296 - c') c g2, show c + (c' - c) = c' by omega] at e2
    exact ⟨b, e1, e2⟩
  · exact Or.inr h
theorem acc_spent {kd : Nat → (Nat → Int) → Nat → Bool} {k : Nat} {B : Nat → Int} {T X c c' n x : Nat} (h : acc kd k B T X c n x) (hn : 8000 < n) : acc kd k B T X c' n x := by
  obtain ⟨a, h⟩ := h
  rcases h with ⟨b, -⟩ | h
  · omega
  · exact ⟨a, Or.inr h⟩
/-- a move that is gone -/
theorem acc_go {kd : Nat → (Nat → Int) → Nat → Bool} {k : Nat} {B : Nat → Int} {T X c n x n' x' : Nat} (h : acc kd k B T X c n x) (hk : k ≤ 23) (hc : c < 1296) (hn : n ≤ 8000) (hkd : kd k B c = true) (hp : loPk kd (k + 1) (zBd B c) n x n' x') : acc kd k B T X (c + 1) n' x' := by
  obtain ⟨-, h⟩ := h
  obtain ⟨p0, p1, p2⟩ := hp
  rcases h with ⟨-, e1, e2⟩ | h
  · rw [show 1296 - c = (1296 - (c + 1)) + 1 by omega, tSum_s] at e1
    rw [show 1296 - c = (1296 - (c + 1)) + 1 by omega, tMax_s] at e2
    have g1 : tG kd (23 - k) k B c = tN kd (24 - (k + 1)) (k + 1) (zBd B c) := by
      unfold tG
      rw [if_pos hkd, show 24 - (k + 1) = 23 - k by omega]
    have g2 : tD kd (23 - k) k B c = tX kd (24 - (k + 1)) (k + 1) (zBd B c) := by
      unfold tD
      rw [if_pos hkd, show 24 - (k + 1) = 23 - k by omega]
    rw [g1] at e1
    rw [g2] at e2
    refine ⟨p0, ?_⟩
    by_cases hs : n + tN kd (24 - (k + 1)) (k + 1) (zBd B c) ≤ 8000
    · left
      obtain ⟨q1, q2⟩ := p1 hs
      refine ⟨by omega, by omega, ?_⟩
      rw [q2, Nat.max_assoc]
      exact e2
    · exact Or.inr ⟨p2 (by omega), by omega⟩
  · omega
theorem acc_end {kd : Nat → (Nat → Int) → Nat → Bool} {k : Nat} {B : Nat → Int} {n0 x0 n x : Nat} (h : acc kd k B (n0 + tN kd (24 - k) k B) (max x0 (tX kd (24 - k) k B)) 1296 n x) : loPk kd k B n0 x0 n x := by
  obtain ⟨a, h⟩ := h
  refine ⟨a, ?_⟩
  rcases h with ⟨b, e1, e2⟩ | ⟨h1, h2⟩
  · have z1 : tSum (tG kd (23 - k) k B) (1296 - 1296) 1296 = 0 := rfl
    have z2 : tMax (tD kd (23 - k) k B) (1296 - 1296) 1296 = 0 := rfl
    rw [z1] at e1
    rw [z2, Nat.max_zero] at e2
    exact ⟨fun _ => ⟨by omega, e2⟩, fun h => by omega⟩
  · exact ⟨fun h => by omega, fun _ => h1⟩
theorem tN_at {K : Nat → Nat × (Nat → Int × Nat)} {nt : Nat → Nat → Int} {wy : Int} {nb k : Nat} {B : Nat → Int} (hk : k ≤ 24) (hn : nb ≤ 24) : tN (zKid K nt wy nb) (24 - k) k B = 1 + tSum (tG (zKid K nt wy nb) (23 - k) k B) 1296 0 ∧ tX (zKid K nt wy nb) (24 - k) k B = max k (tMax (tD (zKid K nt wy nb) (23 - k) k B) 1296 0) := by
  by_cases h : k ≤ 23
  · rw [show 24 - k = (23 - k) + 1 by omega]
    exact ⟨tN_s, tX_s⟩
  · have hz : ∀ i, zKid K nt wy nb k B i = false := fun i => by
      unfold zKid
      rw [decide_eq_false (by omega), Bool.false_and]
    rw [show 24 - k = 0 by omega, tSum_z 1296 0 (fun i _ _ => by unfold tG; rw [hz i]; rfl), tMax_z 1296 0 (fun i _ _ => by unfold tD; rw [hz i]; rfl)]
    exact ⟨rfl, (Nat.max_zero k).symm⟩
theorem zFt_is {nt : Nat → Nat → Int} {wy : Int} {k : Nat} {B : Nat → Int} {c : Nat} {g : Nat → Int32} {b : Nat} (hg : ∀ q, q < 4 → (g (96 * b + 4 * k + q)).toInt = nt k q) : zFt nt wy k B c = true ↔ slipM g (b : Int) (k : Int) (B (c / 36) / 2) (c : Int) ((k : Int) % 2) wy := by
  have e : ∀ q : Nat, ((((((b : Int) * 24) + (k : Int)) * 4) + (q : Int))).toNat = 96 * b + 4 * k + q := fun q => by omega
  have e0 := e 0
  have e1 := e 1
  have e2 := e 2
  have e3 := e 3
  unfold zFt slipM
  rw [show (((((b : Int) * 24) + (k : Int)) * 4) + 0).toNat = 96 * b + 4 * k + 0 from e0, show (((((b : Int) * 24) + (k : Int)) * 4) + 1).toNat = 96 * b + 4 * k + 1 from e1, show (((((b : Int) * 24) + (k : Int)) * 4) + 2).toNat = 96 * b + 4 * k + 2 from e2, show (((((b : Int) * 24) + (k : Int)) * 4) + 3).toNat = 96 * b + 4 * k + 3 from e3]
  rw [hg 0 (by omega), hg 1 (by omega), hg 2 (by omega), hg 3 (by omega)]
  rw [Bool.and_eq_true, Bool.and_eq_true, Bool.and_eq_true, decide_eq_true_iff, decide_eq_true_iff, decide_eq_true_iff, decide_eq_true_iff]
  rw [show ((c : Int) / 36 % 6) = ((c / 36 % 6 : Nat) : Int) by omega, show ((c : Int) % 36 % 6) = ((c % 36 % 6 : Nat) : Int) by omega, show ((c : Int) % 36 / 6) = ((c % 36 / 6 : Nat) : Int) by omega]
  by_cases hh : wy = 1 ∧ k % 2 = 1
  · rw [if_pos hh, if_pos (show wy = 1 ∧ (k : Int) % 2 = 1 from ⟨hh.1, by omega⟩)]
  · rw [if_neg hh, if_neg (show ¬ (wy = 1 ∧ (k : Int) % 2 = 1) from fun h => hh ⟨h.1, by omega⟩)]
section
variable {xs : Nat → Int32} {N b nb : Nat} {wy : Int} {K : Nat → Nat × (Nat → Int × Nat)} {nt : Nat → Nat → Int}
/-- what is read ahead of a level -/
theorem cl_at {k n x : Nat} {B : Nat → Int} {es : PH} (h : clI b nb wy K nt k n x B es) : (gI es 53 0).toInt = (b : Int) ∧ (gI es 53 1).toInt = ((b : Int) + 1) ∧ (gI es 53 2).toInt = 0 ∧ (∀ i, i < 8 → (gA es 55 i).toInt = 0) ∧ (gI es 68 2).toInt = 0 ∧ (gA es 13 ((b : Int)).toNat).toInt = (nb : Int) ∧ (gA es 54 ((b : Int)).toNat).toInt = wy ∧ (gA es 70 (((k : Int) * 3) + (b : Int)).toNat).toInt = (k : Int) ∧ (gA es 71 (((k : Int) * 3) + (b : Int)).toNat).toInt = (k : Int) ∧ (gA es 72 (((k : Int) * 3) + (b : Int)).toNat).toInt = 0 ∧ (gA es 69 (((((k : Int) * 3) + (b : Int)) * 25) + (k : Int)).toNat).toInt = 0 := by
  obtain ⟨⟨-, c1, c2, c3, c4, c5, -, c7, c8, -, -⟩, -, hr, -, -⟩ := h
  obtain ⟨r1, r2, r3, r4⟩ := hr k (Nat.le_refl _)
  rw [Int.toNat_natCast, show (((k : Int) * 3) + (b : Int)).toNat = 3 * k + b by omega, show (((((k : Int) * 3) + (b : Int)) * 25) + (k : Int)).toNat = (3 * k + b) * 25 + k by omega]
  exact ⟨c1, c2, c3, c4, c5, c7, c8, r1, r2, r3, r4⟩
theorem cl_note {k n x : Nat} {B : Nat → Int} {es : PH} (h : clI b nb wy K nt k n x B es) (hk : k < nb) (hN : ntB nt nb) : (-20 ≤ (gA es 14 (((((b : Int) * 24) + (k : Int)) * 4) + 2).toNat).toInt ∧ (gA es 14 (((((b : Int) * 24) + (k : Int)) * 4) + 2).toNat).toInt ≤ 20) ∧ (-20 ≤ (gA es 14 (((((b : Int) * 24) + (k : Int)) * 4) + 3).toNat).toInt ∧ (gA es 14 (((((b : Int) * 24) + (k : Int)) * 4) + 3).toNat).toInt ≤ 20) := by
  have hg := h.1.2.2.2.2.2.2.2.2.2.2 k hk
  rw [show (((((b : Int) * 24) + (k : Int)) * 4) + 2).toNat = 96 * b + 4 * k + 2 by omega, show (((((b : Int) * 24) + (k : Int)) * 4) + 3).toNat = 96 * b + 4 * k + 3 by omega, hg 2 (by omega), hg 3 (by omega)]
  exact hN k hk
/-- a layer of the search, as its callers see it -/
def loS (xs : Nat → Int32) (N b nb : Nat) (wy : Int) (K : Nat → Nat × (Nat → Int × Nat)) (nt : Nat → Nat → Int) (D k : Nat) : Prop := ∀ (Q : pRes → Prop) (kc ks : Nat) (B : Nat → Int) (n x : Nat) (es : PH), rwB B → n ≤ 8000 → clI b nb wy K nt k n x B es → (∀ (es' : PH) (n' x' : Nat), clI b nb wy K nt k n' x' B es' → loPk (zKid K nt wy nb) k B n x n' x' → Q (.inl none, es', kc, ks)) → aW (pO0 xs N) D 29 kc ks Q (0, [some (.ref 116), some (.int (zI (k : Int))), none, none, none, none, none, none, none, none, none, none, none], [], es)
theorem tell_sp {d kc ks : Nat} {Q : pRes → Prop} {es : PH} {m : Int} (hN : N ≤ 3584) (hT : hOK tT es) (im : i32 m) (KQ : ∀ es1, hOK tT es1 → fr kc_221.2.2.2.2.2.1 es es1 → Q (.inl none, es1, kc, ks)) : aW (pO0 xs N) (d + 3) 33 kc ks Q (0, [some (.ref 116), some (.int (zI m)), none, none, none, none], [], es) :=
  con_void (c := kc_221) (kv_221 (aWd_T (xs := xs) hN)) (by show 3 ≤ d + 3; omega) (ρ := [m]) (vs := [.ref 116, .int (zI m)]) rfl (gE_all rfl (by decide) (fun v hv => by
    simp only [List.mem_cons, List.not_mem_nil, or_false] at hv
    subst hv; exact im)) rfl ⟨⟨116, rfl, rfl⟩, gV_i im rfl, trivial⟩ hT rfl (by decide) KQ
theorem cl_tell {k n x : Nat} {B : Nat → Int} {es es1 : PH} (h : clI b nb wy K nt k n x B es) (hT1 : hOK tT es1) (f : fr kc_221.2.2.2.2.2.1 es es1) : clI b nb wy K nt k n x B es1 := by
  have hs := sh_of h.1.1
  obtain ⟨h1, h2, h3, h4, h5⟩ := h
  have r67 : gA es1 67 = gA es 67 := keepF f hs (p := 67) (t := 0) (n := 36) rfl (by decide) (by decide)
  have r70 : gA es1 70 = gA es 70 := keepF f hs (p := 70) (t := 0) (n := 93) rfl (by decide) (by decide)
  have r71 : gA es1 71 = gA es 71 := keepF f hs (p := 71) (t := 0) (n := 93) rfl (by decide) (by decide)
  have r72 : gA es1 72 = gA es 72 := keepF f hs (p := 72) (t := 0) (n := 93) rfl (by decide) (by decide)
  have r69 : gA es1 69 = gA es 69 := keepF f hs (p := 69) (t := 0) (n := 2325) rfl (by decide) (by decide)
  refine ⟨clB_c h1 hT1 (keepI f hs (p := 53) (b := 0) rfl (by decide)) (keepI f hs (p := 53) (b := 1) rfl (by decide)) (keepI f hs (p := 53) (b := 2) rfl (by decide)) (keepI f hs (p := 68) (b := 2) rfl (by decide)) (keepI f hs (p := 52) (b := 15) rfl (by decide)) (keepF f hs (p := 55) (t := 0) (n := 8) rfl (by decide) (by decide)) (keepF f hs (p := 13) (t := 0) (n := 3) rfl (by decide) (by decide)) (keepF f hs (p := 54) (t := 0) (n := 3) rfl (by decide) (by decide)) (keepF f hs (p := 9) (t := 0) (n := 5) rfl (by decide) (by decide)) (keepF f hs (p := 10) (t := 0) (n := 60) rfl (by decide) (by decide)) (keepF f hs (p := 14) (t := 0) (n := 288) rfl (by decide) (by decide)), ?_, ?_, ?_, ?_⟩
  · unfold bdC at h2 ⊢
    rw [r67]; exact h2
  · intro j hj
    have := h3 j hj
    unfold clR at this ⊢
    rw [r70, r71, r72, r69]; exact this
  · rw [keepI f hs (p := 52) (b := 16) rfl (by decide)]; exact h4
  · rw [keepI f hs (p := 52) (b := 17) rfl (by decide)]; exact h5
end
