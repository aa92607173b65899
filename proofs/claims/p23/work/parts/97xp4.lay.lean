section
variable {xs : Nat → Int32} {N b nb : Nat} {wy : Int} {K : Nat → Nat × (Nat → Int × Nat)} {nt : Nat → Nat → Int}
theorem cl_wm {k n x : Nat} {B : Nat → Int} {es es1 : PH} {kd mo v : Int} (hk24 : k ≤ 24) (h : clI b nb wy K nt k n x B es) (p : wmP (b : Int) (k : Int) kd mo es v es1) : clI b nb wy K nt k n x B es1 ∧ (v = 0 → clR b (k + 1) es1) := by
  obtain ⟨h1, h2, h3, h4, h5⟩ := h
  obtain ⟨p1, p2, p3, -, p5, p6, p7⟩ := p
  refine ⟨⟨clB_c h1 p1 (p2 53 0) (p2 53 1) (p2 53 2) (p2 68 2) (p2 52 15) (p3 55 (by decide) (by decide) (by decide) (by decide)) (p3 13 (by decide) (by decide) (by decide) (by decide)) (p3 54 (by decide) (by decide) (by decide) (by decide)) (p3 9 (by decide) (by decide) (by decide) (by decide)) (p3 10 (by decide) (by decide) (by decide) (by decide)) (p3 14 (by decide) (by decide) (by decide) (by decide)), ?_, ?_, by rw [p2]; exact h4, by rw [p2]; exact h5⟩, fun hv => ?_⟩
  · unfold bdC at h2 ⊢
    rw [p3 67 (by decide) (by decide) (by decide) (by decide)]
    exact h2
  · intro j hj
    obtain ⟨q1, q2, q3⟩ := p5 (3 * j + b) (by omega)
    exact clR_c (h3 j hj) q1 q2 q3 (p6 _ (by omega))
  · rcases p7 with ⟨e, -⟩ | ⟨-, -, c1, c2, c3, c4⟩
    · omega
    · rw [show ((((k : Int) * 3) + (b : Int)) + 3).toNat = 3 * (k + 1) + b by omega] at c1 c2 c3
      rw [show (((((((k : Int) * 3) + (b : Int)) + 3) * 25) + ((k : Int) + 1))).toNat = (3 * (k + 1) + b) * 25 + (k + 1) by omega] at c4
      exact ⟨by rw [c1]; omega, by rw [c2]; omega, c3, c4⟩
/-- a move is made, or taken back: the board and the path alone -/
theorem cl_bd {k k' n x : Nat} {B B' : Nat → Int} {es es1 : PH} (h : clI b nb wy K nt k n x B es) (hT1 : hOK tT es1) (hg : ∀ p c, gI es1 p c = gI es p c) (ha : ∀ p, p ≠ 67 → p ≠ 64 → gA es1 p = gA es p) (hB : bdC B' 67 es1) (hk : ∀ j, j ≤ k' → clR b j es) : clI b nb wy K nt k' n x B' es1 := by
  obtain ⟨h1, h2, h3, h4, h5⟩ := h
  refine ⟨clB_c h1 hT1 (hg 53 0) (hg 53 1) (hg 53 2) (hg 68 2) (hg 52 15) (ha 55 (by decide) (by decide)) (ha 13 (by decide) (by decide)) (ha 54 (by decide) (by decide)) (ha 9 (by decide) (by decide)) (ha 10 (by decide) (by decide)) (ha 14 (by decide) (by decide)), hB, ?_, by rw [hg]; exact h4, by rw [hg]; exact h5⟩
  intro j hj
  have := hk j hj
  unfold clR at this ⊢
  rw [ha 70 (by decide) (by decide), ha 71 (by decide) (by decide), ha 72 (by decide) (by decide), ha 69 (by decide) (by decide)]
  exact this
theorem lo_layer {d k : Nat} (hN3 : N ≤ 3584) (hb : b ≤ 2) (hk : k ≤ nb) (hn : nb ≤ 24) (hNT : ntB nt nb) (ih : k < nb → loS xs N b nb wy K nt (d + 4) (k + 1)) : loS xs N b nb wy K nt (d + 5) k := by
  intro Q kc ks B n x es hBr hn8 hI KQ
  have hT := hI.1.1
  have hb' : 0 ≤ (b : Int) ∧ (b : Int) ≤ 2 := ⟨by omega, by omega⟩
  have hk' : 0 ≤ (k : Int) ∧ (k : Int) ≤ 24 := ⟨by omega, by omega⟩
  have up : ∀ (v1 v3 v4 : Int) (es2 es5 : PH), v1 = (gI es 52 16).toInt → es2 = sI es 52 16 (.int (zI (v1 + 1))) → v3 = (gI es2 52 17).toInt → v4 = max v3 (k : Int) → es5 = sI es2 52 17 (.int (zI v4)) → clI b nb wy K nt k (n + 1) (max x k) B es5 := by
    intro v1 v3 v4 es2 es5 e1 e2 e3 e4 e5
    obtain ⟨h1, h2, h3, h4, h5⟩ := hI
    have hx := i32_rng (gI es 52 17)
    rw [h5] at hx
    unfold iLO iHI at hx
    have hT2 : hOK tT es2 := by rw [e2]; exact hOK_sI hT (p := 52) (b := 16) (lo := iLO) (hi := iHI) rfl rfl (i32_rng _)
    have hT5 : hOK tT es5 := by rw [e5]; exact hOK_sI hT2 (p := 52) (b := 17) (lo := iLO) (hi := iHI) rfl rfl (i32_rng _)
    have a17 : (gI es2 52 17).toInt = (x : Int) := by rw [e2, gI_sI_ne (Or.inr (by decide))]; exact h5
    rw [a17] at e3
    rw [h4] at e1
    refine ⟨clB_c h1 hT5 ?_ ?_ ?_ ?_ ?_ ?_ ?_ ?_ ?_ ?_ ?_, ?_, ?_, ?_, ?_⟩
    · rw [e5, gI_sI_ne (Or.inl (by decide)), e2, gI_sI_ne (Or.inl (by decide))]
    · rw [e5, gI_sI_ne (Or.inl (by decide)), e2, gI_sI_ne (Or.inl (by decide))]
    · rw [e5, gI_sI_ne (Or.inl (by decide)), e2, gI_sI_ne (Or.inl (by decide))]
    · rw [e5, gI_sI_ne (Or.inl (by decide)), e2, gI_sI_ne (Or.inl (by decide))]
    · rw [e5, gI_sI_ne (Or.inr (by decide)), e2, gI_sI_ne (Or.inr (by decide))]
    · rw [e5, gA_sI, e2, gA_sI]
    · rw [e5, gA_sI, e2, gA_sI]
    · rw [e5, gA_sI, e2, gA_sI]
    · rw [e5, gA_sI, e2, gA_sI]
    · rw [e5, gA_sI, e2, gA_sI]
    · rw [e5, gA_sI, e2, gA_sI]
    · unfold bdC at h2 ⊢
      rw [e5, gA_sI, e2, gA_sI]
      exact h2
    · intro j hj
      have := h3 j hj
      unfold clR at this ⊢
      rw [e5, gA_sI, gA_sI, gA_sI, gA_sI, e2, gA_sI, gA_sI, gA_sI, gA_sI]
      exact this
    · rw [e5, gI_sI_ne (Or.inr (by decide)), e2, gI_sI (sh_of hT) (p := 52) (b := 16) rfl (by decide), zI_toInt (by unfold i32 iLO iHI; omega)]
      omega
    · rw [e5, gI_sI (sh_of hT2) (p := 52) (b := 17) rfl (by decide), zI_toInt (by unfold i32 iLO iHI; omega)]
      omega
  obtain ⟨t1, t2⟩ := tN_at (K := K) (nt := nt) (wy := wy) (nb := nb) (k := k) (B := B) (by omega) hn
  have tn1 := tN_1 (kd := zKid K nt wy nb) (24 - k) k B
  refine s_lo0 (d := d + 4) (sh_of hT) hk' hI.1.2.2.2.1 (fun v1 e1 es2 e2 v3 e3 v4 e4 es5 e5 v6 e6 c => ?_) (fun v1 e1 es2 e2 v3 e3 v4 e4 es5 e5 v6 e6 c => ?_)
  rotate_left
  · have h5 := up v1 v3 v4 es2 es5 e1 e2 e3 e4 e5
    have e16 := h5.2.2.2.1
    rw [e16] at e6
    exact KQ es5 (n + 1) (max x k) h5 ⟨by omega, fun h => by omega, fun _ => by omega⟩
  have h5 := up v1 v3 v4 es2 es5 e1 e2 e3 e4 e5
  have e16 := h5.2.2.2.1
  rw [e16] at e6
  refine x_call (vs := [.ref 116, .int (zI (k : Int))]) (rs := []) i_29_51 rfl (fun _ => rfl) rfl rfl rfl rfl rfl (pCall_v (p := 52) (sh_of h5.1.1) rfl rfl rfl rfl rfl (by decide) rfl rfl rfl rfl rfl) ?_
  show aW _ _ _ _ _ _ (0, [some (.ref 116), some (.int (zI (k : Int))), none, none, none, none], [], es5)
  refine tell_sp (d := d + 1) hN3 h5.1.1 (by unfold i32 iLO iHI; omega) (fun es6 hT6 f6 => ?_)
  have h6 := cl_tell h5 hT6 f6
  show aW _ _ _ _ _ _ (54, [some (.ref 116), some (.int (zI (k : Int))), none, none, none, none, none, none, none, none, none, none, none], [], es6)
  obtain ⟨q0, q1, q2, q3, q4, q5, q6, q7, q8, q9, q10⟩ := cl_at h6
  have h23 : (k : Int) + 1 ≤ (nb : Int) → (-20 ≤ (gA es6 14 (((((b : Int) * 24) + (k : Int)) * 4) + 2).toNat).toInt ∧ (gA es6 14 (((((b : Int) * 24) + (k : Int)) * 4) + 2).toNat).toInt ≤ 20) ∧ (-20 ≤ (gA es6 14 (((((b : Int) * 24) + (k : Int)) * 4) + 3).toNat).toInt ∧ (gA es6 14 (((((b : Int) * 24) + (k : Int)) * 4) + 3).toNat).toInt ≤ 20) := fun h => cl_note h6 (by omega) hNT
  refine s_lo54 (d := d + 1) (sh_of h6.1.1) hb' ⟨by omega, by omega⟩ (by omega) (by omega) q0 q1 q2 q3 q4 q5 q6 q7 q8 q9 q10 h23 (fun w pw => ?_)
  obtain ⟨pw0, pw1⟩ := pw
  obtain ⟨T, hTT⟩ : ∃ T, T = n + tN (zKid K nt wy nb) (24 - k) k B := ⟨_, rfl⟩
  obtain ⟨X, hXX⟩ : ∃ X, X = max x (tX (zKid K nt wy nb) (24 - k) k B) := ⟨_, rfl⟩
  have a0 : acc (zKid K nt wy nb) k B T X (36 * 0) (n + 1) (max x k) := by
    refine ⟨by omega, Or.inl ⟨by omega, ?_, ?_⟩⟩
    · rw [hTT, t1]
      show n + 1 + tSum (tG (zKid K nt wy nb) (23 - k) k B) 1296 0 = _
      omega
    · rw [hXX, t2, ← Nat.max_assoc]
  have fin : ∀ (n1 x1 : Nat) (e : PH), acc (zKid K nt wy nb) k B T X 1296 n1 x1 → clI b nb wy K nt k n1 x1 B e → Q (.inl none, e, kc, ks) := fun n1 x1 e ha hc => by
    rw [hTT, hXX] at ha
    exact KQ e n1 x1 hc (acc_end ha)
  have hg14 : k < nb → ∀ q, q < 4 → (gA es6 14 (96 * b + 4 * k + q)).toInt = nt k q := fun h => h6.1.2.2.2.2.2.2.2.2.2.2 k h
  have kz : ∀ c, c < 1296 → zKid K nt wy nb k B c = true → k < nb ∧ lbit w (c % 36) = true ∧ zGo B K ((k : Int) % 2) (c / 36) (c % 36) = true := by
    intro c hc hkd
    unfold zKid at hkd
    rw [Bool.and_eq_true, Bool.and_eq_true, decide_eq_true_iff] at hkd
    obtain ⟨g1, g2, g3⟩ := hkd
    refine ⟨g1, ?_, g2⟩
    have g4 := g3
    unfold zFt at g4
    rw [Bool.and_eq_true, Bool.and_eq_true, Bool.and_eq_true, decide_eq_true_iff, decide_eq_true_iff, decide_eq_true_iff, decide_eq_true_iff] at g4
    obtain ⟨-, -, g6, g7⟩ := g4
    refine pw1 (by omega) (c % 36) (by omega) ?_ ?_
    · rw [show (((((b : Int) * 24) + (k : Int)) * 4) + 2).toNat = 96 * b + 4 * k + 2 by omega, hg14 g1 2 (by omega)]
      exact g6
    · rw [show (((((b : Int) * 24) + (k : Int)) * 4) + 3).toNat = 96 * b + 4 * k + 3 by omega, hg14 g1 3 (by omega), g7, q6]
      by_cases hh : wy = 1 ∧ k % 2 = 1
      · rw [if_pos hh, if_pos (show wy = 1 ∧ (k : Int) % 2 = 1 from ⟨hh.1, by omega⟩)]
      · rw [if_neg hh, if_neg (show ¬ (wy = 1 ∧ (k : Int) % 2 = 1) from fun h => hh ⟨h.1, by omega⟩)]
  have out : ∀ (i fr n1 x1 : Nat) (e : PH) (x6 x7 x8 x9 x10 x11 x12 : Option Value), fr + i = 36 → acc (zKid K nt wy nb) k B T X (36 * fr) n1 x1 → clI b nb wy K nt k n1 x1 B e → aW (pO0 xs N) (d + 5) 29 kc ks Q (101, [some (.ref 116), some (.int (zI (k : Int))), some (.int (zI 0)), some (.long w), none, some (.int (zI (fr : Int))), x6, x7, x8, x9, x10, x11, x12], [], e) := by
    intro i
    induction i with
    | zero =>
      intro fr n1 x1 e x6 x7 x8 x9 x10 x11 x12 hfr ha hc
      have h36 : 36 * fr = 1296 := by omega
      rw [h36] at ha
      exact s_lo101 (d := d + 4) (sh_of hc.1.1) hk' ⟨by omega, by omega⟩ (fun _ => fin n1 x1 e ha hc) (fun c => absurd (by omega) c) (fun c => absurd (by omega) c) (fun c => absurd (by omega) c)
    | succ i ih2 =>
      intro fr n1 x1 e x6 x7 x8 x9 x10 x11 x12 hfr ha hc
      have hfr' : 0 ≤ (fr : Int) ∧ (fr : Int) ≤ 36 := ⟨by omega, by omega⟩
      have hfr5 : 0 ≤ (fr : Int) ∧ (fr : Int) ≤ 35 := ⟨by omega, by omega⟩
      refine s_lo101 (d := d + 4) (sh_of hc.1.1) hk' hfr' (fun c => absurd c (by omega)) (fun c v2 e2 c2 => ?_) (fun c v2 e2 c2 v4 e4 c4 v6 e6 => ?_) (fun c v2 e2 c2 v4 e4 c4 => ?_)
      · have hw : w = Int64.ofNat 0 := long_0 (by rw [← e2]; exact c2)
        refine fin n1 x1 e (acc_skip ha (by omega) (Nat.le_refl _) (fun c' r1 r2 => ?_)) hc
        cases hkd : zKid K nt wy nb k B c' with
        | false => rfl
        | true =>
          have h1 := (kz c' r2 hkd).2.1
          rw [hw, lbit_0] at h1
          cases h1
      · have hv6 : v6 = (k : Int) % 2 := by rw [e6]; exact and1 (by unfold i32 iLO iHI; omega)
        rw [hv6]
        refine x_call (vs := [.ref 130, .int (zI (fr : Int)), .int (zI ((k : Int) % 2))]) (rs := []) i_29_130 rfl (fun _ => rfl) rfl rfl rfl rfl rfl (pCall_v (p := 66) (sh_of hc.1.1) rfl rfl rfl rfl rfl (by decide) rfl rfl rfl rfl rfl) ?_
        show aW _ _ _ _ _ _ (0, [some (.ref 130), some (.int (zI (fr : Int))), some (.int (zI ((k : Int) % 2))), none, none, none, none, none], [], e)
        refine ro_specA (d := d + 1) hc.1.1 hc.2.1 hc.1.2.2.2.2.2.2.2.2.2.1 hfr5 ⟨by omega, by omega⟩ (fun al hal => ?_)
        rw [Int.toNat_natCast] at hal
        show aW _ _ _ _ _ _ (133, [some (.ref 116), some (.int (zI (k : Int))), some (.int (zI 0)), some (.long w), none, some (.int (zI (fr : Int))), x6, x7, x8, x9, x10, x11, x12], [.long al], e)
        refine s_lo133 (d := d + 4) (sh_of hc.1.1) hk' hfr5 (fun w1 ew1 v2' ev2 v3 ev3 => ?_)
        have hw1 : ∀ t, lbit w1 t = (lbit al t && lbit w t) := fun t => by rw [ew1, lbit_and]
        obtain ⟨m1, m2, m3⟩ := hc.2.1 fr (by omega)
        have hv2 : v2' = B fr + 1 := by rw [ev2, Int.toNat_natCast]; exact m1
        have inn : ∀ (j to n2 x2 : Nat) (e2 : PH) (y10 y11 y12 : Option Value), to + j = 36 → acc (zKid K nt wy nb) k B T X (36 * fr + to) n2 x2 → clI b nb wy K nt k n2 x2 B e2 → aW (pO0 xs N) (d + 5) 29 kc ks Q (157, [some (.ref 116), some (.int (zI (k : Int))), some (.int (zI 0)), some (.long w), none, some (.int (zI (fr : Int))), some (.long w1), none, some (.int (zI v3)), some (.int (zI (to : Int))), y10, y11, y12], [], e2) := by
          intro j
          induction j with
          | zero =>
            intro to n2 x2 e2 y10 y11 y12 hto ha2 hc2
            refine s_lo157 (d := d + 4) (sh_of hc2.1.1) hk' hfr5 ⟨by omega, by omega⟩ (fun _ => ?_) (fun c => absurd (by omega) c) (fun c => absurd (by omega) c) (fun c => absurd (by omega) c) (fun c => absurd (by omega) c)
            have h9 := ih2 (fr + 1) n2 x2 e2 (some (.long w1)) none (some (.int (zI v3))) (some (.int (zI (to : Int)))) y10 y11 y12 (by omega) (by rw [show 36 * (fr + 1) = 36 * fr + to by omega]; exact ha2) hc2
            rw [show ((fr + 1 : Nat) : Int) = (fr : Int) + 1 by omega] at h9
            exact h9
          | succ j ih3 =>
            intro to n2 x2 e2 y10 y11 y12 hto ha2 hc2
            have hto' : 0 ≤ (to : Int) ∧ (to : Int) ≤ 36 := ⟨by omega, by omega⟩
            have hto5 : 0 ≤ (to : Int) ∧ (to : Int) ≤ 35 := ⟨by omega, by omega⟩
            have hcl : 36 * fr + to < 1296 := by omega
            have cq : (36 * fr + to) / 36 = fr := by omega
            have cm : (36 * fr + to) % 36 = to := by omega
            have next : ∀ (n4 x4 : Nat) (e4 : PH) (z10 z11 z12 : Option Value), acc (zKid K nt wy nb) k B T X (36 * fr + to + 1) n4 x4 → clI b nb wy K nt k n4 x4 B e4 → aW (pO0 xs N) (d + 5) 29 kc ks Q (157, [some (.ref 116), some (.int (zI (k : Int))), some (.int (zI 0)), some (.long w), none, some (.int (zI (fr : Int))), some (.long w1), none, some (.int (zI v3)), some (.int (zI ((to : Int) + 1))), z10, z11, z12], [], e4) := fun n4 x4 e4 z10 z11 z12 ha4 hc4 => by
              have h9 := ih3 (to + 1) n4 x4 e4 z10 z11 z12 (by omega) (by rw [show 36 * fr + (to + 1) = 36 * fr + to + 1 by omega]; exact ha4) hc4
              rw [show ((to + 1 : Nat) : Int) = (to : Int) + 1 by omega] at h9
              exact h9
            have row : acc (zKid K nt wy nb) k B T X (36 * (fr + 1)) n2 x2 → aW (pO0 xs N) (d + 5) 29 kc ks Q (101, [some (.ref 116), some (.int (zI (k : Int))), some (.int (zI 0)), some (.long w), none, some (.int (zI ((fr : Int) + 1))), some (.long w1), none, some (.int (zI v3)), some (.int (zI (to : Int))), y10, y11, y12], [], e2) := fun ha4 => by
              have h9 := ih2 (fr + 1) n2 x2 e2 (some (.long w1)) none (some (.int (zI v3))) (some (.int (zI (to : Int)))) y10 y11 y12 (by omega) ha4 hc2
              rw [show ((fr + 1 : Nat) : Int) = (fr : Int) + 1 by omega] at h9
              exact h9
            refine s_lo157 (d := d + 4) (sh_of hc2.1.1) hk' hfr5 hto' (fun c => absurd c (by omega)) (fun c u2 f2 c2 => row ?_) (fun c u2 f2 c2 u4 f4 c4 w6 f6 w7 f7 u8 f8 c8 => next n2 x2 e2 _ _ _ ?_ hc2) (fun c u2 f2 c2 u4 f4 c4 w6 f6 w7 f7 u8 f8 c8 => ?_) (fun c u2 f2 c2 u4 f4 c4 => row ?_)
            · have hz : w1 = Int64.ofNat 0 := long_0 (by rw [← f2]; exact c2)
              refine acc_skip ha2 (by omega) (by omega) (fun c' r1 r2 => ?_)
              cases hkd : zKid K nt wy nb k B c' with
              | false => rfl
              | true =>
                obtain ⟨-, h1, h2⟩ := kz c' (by omega) hkd
                have hq : c' / 36 = fr := by omega
                rw [hq, ← hal] at h2
                have h3 := hw1 (c' % 36)
                rw [h1, h2, hz, lbit_0] at h3
                cases h3
            · refine acc_skip ha2 (by omega) (by omega) (fun c' r1 r2 => ?_)
              have hcc : c' = 36 * fr + to := by omega
              cases hkd : zKid K nt wy nb k B c' with
              | false => rfl
              | true =>
                obtain ⟨-, h1, h2⟩ := kz c' (by omega) hkd
                rw [hcc, cm] at h1
                rw [hcc, cm, cq, ← hal] at h2
                have h3 := hw1 to
                rw [h1, h2] at h3
                exact absurd h3 ((bit_t (by omega) f6 f7 f8).mp c8)
            · have hbit : lbit w1 to = true := by
                cases hh : lbit w1 to with
                | true => rfl
                | false => exact absurd ((bit_t (by omega) f6 f7 f8).mpr (by rw [hh]; decide)) c8
              have h3 := hw1 to
              rw [hbit] at h3
              have h4 : lbit al to = true ∧ lbit w to = true := by
                rw [eq_comm, Bool.and_eq_true] at h3
                exact h3
              have hnb : k < nb := by
                rcases Nat.lt_or_ge k nb with h | h
                · exact h
                · exfalso
                  have hw0 := pw0 (by omega)
                  have h5' := h4.2
                  rw [hw0, lbit_0] at h5'
                  cases h5'
              have hgo : zGo B K ((k : Int) % 2) fr to = true := by rw [← hal]; exact h4.1
              have hman : 0 ≤ B fr := by
                have h := hgo
                unfold zGo at h
                rw [Bool.and_eq_true, decide_eq_true_iff] at h
                exact h.1
              have hv3 : v3 = B fr / 2 := by rw [ev3, hv2, show B fr + 1 - 1 = B fr by omega]; exact shr1B hman m3
              have hk23 : 0 ≤ (k : Int) ∧ (k : Int) ≤ 23 := ⟨by omega, by omega⟩
              have e16b := hc2.2.2.2.1
              rw [e16b] at f4
              have hn2 : n2 ≤ 8000 := by omega
              have emo : ((36 * (fr : Int)) + (to : Int)) = ((36 * fr + to : Nat) : Int) := by omega
              obtain ⟨s0, s1, s2, s3, s4, s5, s6, s7, s8, s9, s10⟩ := cl_at hc2
              have hmo : 0 ≤ ((36 * fr + to : Nat) : Int) ∧ ((36 * fr + to : Nat) : Int) ≤ 1295 := ⟨by omega, by omega⟩
              rw [emo, hv3]
              refine x_call (vs := [.ref 132, .int (zI (k : Int)), .int (zI (B fr / 2)), .int (zI ((36 * fr + to : Nat) : Int))]) (rs := []) i_29_209 rfl (fun _ => rfl) rfl rfl rfl rfl rfl (pCall_v (p := 68) (sh_of hc2.1.1) rfl rfl rfl rfl rfl (by decide) rfl rfl rfl rfl rfl) ?_
              show aW _ _ _ _ _ _ (0, [some (.ref 132), some (.int (zI (k : Int))), some (.int (zI (B fr / 2))), some (.int (zI ((36 * fr + to : Nat) : Int))), none, none, none, none, none, none, none, none, none, none, none, none, none, none, none], [], e2)
              have hnote := (cl_note hc2 hnb hNT).2
              have hnote2 := (cl_note hc2 hnb hNT).1
              refine wm_spec (d := d + 1) (nb := (nb : Int)) (wy := wy) hc2.1.1 hb' hk23 (by omega) (by omega) s0 s1 s2 s3 s4 s5 s6 s7 s8 s9 s10 ⟨by omega, by omega⟩ hmo ⟨by omega, by omega⟩ ⟨by omega, by omega⟩ (fun v e3 hv => ?_)
              obtain ⟨hc3, hr3⟩ := cl_wm (by omega) hc2 hv
              have hM : zFt nt wy k B (36 * fr + to) = true ↔ slipM (gA e2 14) (b : Int) (k : Int) (B fr / 2) ((36 * fr + to : Nat) : Int) ((k : Int) % 2) wy := by
                have h := zFt_is (nt := nt) (wy := wy) (k := k) (B := B) (c := 36 * fr + to) (g := gA e2 14) (b := b) (hc2.1.2.2.2.2.2.2.2.2.2.2 k hnb)
                rw [cq] at h
                exact h
              have hvb : 0 ≤ v ∧ v ≤ 1000 := by
                rcases hv.2.2.2.2.2.2 with ⟨h, -⟩ | ⟨h, -⟩ <;> omega
              have hli3 : (gI e3 68 2).toInt = 0 := hc3.1.2.2.2.2.2.1
              have hpu3 : (gI e3 52 15).toInt = 0 := hc3.1.2.2.2.2.2.2.1
              show aW _ _ _ _ _ _ (212, [some (.ref 116), some (.int (zI (k : Int))), some (.int (zI 0)), some (.long w), none, some (.int (zI (fr : Int))), some (.long w1), none, some (.int (zI (B fr / 2))), some (.int (zI (to : Int))), some (.int (zI ((36 * fr + to : Nat) : Int))), y11, y12], [.int (zI v)], e3)
              refine s_lo212 (d := d + 3) (sh_of hc3.1.1) hk23 hfr5 hto5 hmo hvb hli3 hpu3 (fun cv => ?_) (fun cv v2 f2' v3' f3' es4 g4 es5' g5 es6' g6 => ?_)
              · rcases hv.2.2.2.2.2.2 with ⟨-, hno⟩ | ⟨h, -⟩
                rotate_left
                · omega
                rw [s6] at hno
                have h9 := next n2 x2 e3 (some (.int (zI ((36 * fr + to : Nat) : Int)))) y11 y12 (acc_skip ha2 (by omega) (by omega) (fun c' r1 r2 => by
                  have hcc : c' = 36 * fr + to := by omega
                  rw [hcc]
                  unfold zKid
                  cases hz : zFt nt wy k B (36 * fr + to) with
                  | false => rw [Bool.and_false, Bool.and_false]
                  | true => exact absurd (hM.mp hz) hno)) hc3
                rw [hv3] at h9
                exact h9
              · rcases hv.2.2.2.2.2.2 with ⟨h, -⟩ | ⟨hv0, hyes, -⟩
                · omega
                rw [s6] at hyes
                have hkd : zKid K nt wy nb k B (36 * fr + to) = true := by
                  unfold zKid
                  rw [decide_eq_true hnb, hM.mpr hyes]
                  unfold zMv
                  rw [cq, cm, hgo]
                  rfl
                have i1 : (((36 * fr + to : Nat) : Int) % 36).toNat = to := by omega
                have i2 : (((36 * fr + to : Nat) : Int) / 36).toNat = fr := by omega
                rw [i1] at f2' g4
                rw [i2] at f3' g5
                have hT4 : hOK tT es4 := by rw [g4]; exact hOK_sA hc3.1.1 (p := 67) (t := 0) (n := 36) rfl (fun _ => i32_rng _)
                have hT5 : hOK tT es5' := by rw [g5]; exact hOK_sA hT4 (p := 67) (t := 0) (n := 36) rfl (fun _ => i32_rng _)
                have hT6' : hOK tT es6' := by rw [g6]; exact hOK_sA hT5 (p := 64) (t := 0) (n := 30) rfl (fun _ => i32_rng _)
                have b67 : ∀ s, gA es6' 67 s = if s = fr then zI 0 else if s = to then zI v3' else gA e3 67 s := fun s => by
                  rw [g6, gA_sA_ne (by decide), g5, gA_sA (sh_of hT4) (p := 67) (t := 0) (n := 36) rfl (by decide), g4, gA_sA (sh_of hc3.1.1) (p := 67) (t := 0) (n := 36) rfl (by decide)]
                  rfl
                have mto := hc3.2.1 to (by omega)
                have mfr := hc3.2.1 fr (by omega)
                have hv3' : v3' = B fr + 1 := by rw [f3']; exact mfr.1
                have hv2' : v2 = B to + 1 := by rw [f2']; exact mto.1
                have hbd : bdC (zBd B (36 * fr + to)) 67 es6' := fun s hs => by
                  refine ⟨?_, zBd_r hBr s⟩
                  rw [b67]
                  unfold zBd
                  rw [cq, cm]
                  by_cases r1 : s = fr
                  · rw [if_pos r1, if_pos r1]; rfl
                  · rw [if_neg r1, if_neg r1]
                    by_cases r2 : s = to
                    · rw [if_pos r2, if_pos r2, hv3', zI_toInt (by unfold i32 iLO iHI; omega)]
                    · rw [if_neg r2, if_neg r2]
                      exact (hc3.2.1 s hs).1
                have hg6 : ∀ p c, gI es6' p c = gI e3 p c := fun p c => by rw [g6, gI_sA, g5, gI_sA, g4, gI_sA]
                have ha6 : ∀ p, p ≠ 67 → p ≠ 64 → gA es6' p = gA e3 p := fun p r1 r2 => by rw [g6, gA_sA_ne r2, g5, gA_sA_ne r1, g4, gA_sA_ne r1]
                have hI6 := cl_bd (k' := k + 1) hc3 hT6' hg6 ha6 hbd (fun j hj => by
                  by_cases hjk : j ≤ k
                  · exact hc3.2.2.1 j hjk
                  · rw [show j = k + 1 by omega]; exact hr3 hv0)
                refine x_call (vs := [.ref 116, .int (zI ((k : Int) + 1))]) (rs := []) i_29_300 rfl (fun _ => rfl) rfl rfl rfl rfl rfl (pCall_v (p := 52) (sh_of hT6') rfl rfl rfl rfl rfl (by decide) rfl rfl rfl rfl rfl) ?_
                rw [show (k : Int) + 1 = ((k + 1 : Nat) : Int) by omega]
                show aW _ _ _ _ _ _ (0, [some (.ref 116), some (.int (zI ((k + 1 : Nat) : Int))), none, none, none, none, none, none, none, none, none, none, none], [], es6')
                refine ih hnb _ kc ks (zBd B (36 * fr + to)) n2 x2 es6' (zBd_r hBr) hn2 hI6 (fun es7 n7 x7 hI7 hp => ?_)
                show aW _ _ _ _ _ _ (303, [some (.ref 116), some (.int (zI (k : Int))), some (.int (zI 0)), some (.long w), none, some (.int (zI (fr : Int))), some (.long w1), none, some (.int (zI (B fr / 2))), some (.int (zI (to : Int))), some (.int (zI ((36 * fr + to : Nat) : Int))), some (.int (zI v2)), y12], [], es7)
                refine s_lo303 (d := d + 3) (sh_of hI7.1.1) hk23 hfr5 hto5 hmo (fun u1 k1 es8 k8 es9 k9 => ?_)
                rw [i1] at k1 k9
                rw [i2] at k8
                have hT8 : hOK tT es8 := by rw [k8]; exact hOK_sA hI7.1.1 (p := 67) (t := 0) (n := 36) rfl (fun _ => i32_rng _)
                have hT9 : hOK tT es9 := by rw [k9]; exact hOK_sA hT8 (p := 67) (t := 0) (n := 36) rfl (fun _ => i32_rng _)
                have b9 : ∀ s, gA es9 67 s = if s = to then zI v2 else if s = fr then zI u1 else gA es7 67 s := fun s => by
                  rw [k9, gA_sA (sh_of hT8) (p := 67) (t := 0) (n := 36) rfl (by decide), k8, gA_sA (sh_of hI7.1.1) (p := 67) (t := 0) (n := 36) rfl (by decide)]
                  rfl
                have hb9 : bdC B 67 es9 := fun s hs => by
                  refine ⟨?_, hBr s⟩
                  rw [b9]
                  by_cases r2 : s = to
                  · rw [if_pos r2, hv2', zI_toInt (by unfold i32 iLO iHI; omega), r2]
                  · rw [if_neg r2]
                    by_cases r1 : s = fr
                    · rw [if_pos r1, k1]
                      have h8 := (hI7.2.1 to (by omega)).1
                      rw [h8]
                      unfold zBd
                      rw [cq, cm, if_neg (by omega), if_pos rfl, zI_toInt (by unfold i32 iLO iHI; omega), r1]
                    · rw [if_neg r1, (hI7.2.1 s hs).1]
                      unfold zBd
                      rw [cq, cm, if_neg r1, if_neg r2]
                have hI9 := cl_bd (k' := k) hI7 hT9 (fun p c => by rw [k9, gI_sA, k8, gI_sA]) (fun p r1 r2 => by rw [k9, gA_sA_ne r1, k8, gA_sA_ne r1]) hb9 (fun j hj => hI7.2.2.1 j (by omega))
                have h9 := next n7 x7 es9 (some (.int (zI ((36 * fr + to : Nat) : Int)))) (some (.int (zI v2))) y12 (acc_go ha2 (by omega) hcl hn2 hkd hp) hI9
                rw [hv3] at h9
                exact h9
            · have e16b := hc2.2.2.2.1
              rw [e16b] at f4
              exact acc_spent ha2 (by omega)
        exact inn 36 0 n1 x1 e x10 x11 x12 (by omega) ha hc
      · have e16b := hc.2.2.2.1
        rw [e16b] at e4
        exact fin n1 x1 e (acc_spent ha (by omega)) hc
  exact out 36 0 (n + 1) (max x k) es6 none none none none none none none (by omega) a0 h6
/-- all layers -/
theorem lo_all {d : Nat} (hN3 : N ≤ 3584) (hb : b ≤ 2) (hn : nb ≤ 24) (hNT : ntB nt nb) : ∀ (f k : Nat), k + f = nb → loS xs N b nb wy K nt (d + f + 5) k := by
  intro f
  induction f with
  | zero =>
    intro k hk
    exact lo_layer (d := d) hN3 hb (by omega) hn hNT (fun h => absurd h (by omega))
  | succ f ih =>
    intro k hk
    exact lo_layer (d := d + (f + 1)) hN3 hb (by omega) hn hNT (fun _ => ih (k + 1) (by omega))
end
