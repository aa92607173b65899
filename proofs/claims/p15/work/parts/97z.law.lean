/-! THE LAW'S LOOP, by the checker, printed by wip/ai2/lawem.py -/
def lawCL : List aCon := [kc_3, kc_307, kc_4, kc_308, kc_377, kc_319, kc_378, kc_379, kc_53, kc_320, kc_380, kc_321, kc_381, kc_331, kc_382, kc_332, kc_383, kc_333, kc_384, kc_334, kc_385, kc_335, kc_386, kc_376, kc_387, kc_336, kc_388, kc_337, kc_389, kc_338, kc_168, kc_343, kc_169, kc_344, kc_390, kc_345, kc_391, kc_346, kc_392, kc_393, kc_394, kc_395, kc_396, kc_347, kc_397, kc_349, kc_281, kc_350, kc_398, kc_351, kc_399, kc_400, kc_401, kc_402, kc_403, kc_352, kc_404, kc_353, kc_405, kc_354, kc_299, kc_406, kc_301, kc_407, kc_305, kc_355]
def lawMo : List aMod := [(2, 0, 0, 400), (1, 3, 0, 1), (79, 2, 0, 1), (83, 0, 0, 5), (82, 0, 0, 400), (79, 7, 0, 1), (3, 4, 0, 1), (3, 5, 0, 1), (3, 6, 0, 1), (3, 9, 0, 1), (3, 10, 0, 1), (6, 0, 0, 401), (5, 0, 0, 401), (4, 0, 0, 400), (0, 10, 0, 1), (8, 0, 0, 5), (9, 0, 0, 5), (10, 0, 0, 60), (7, 2, 0, 1), (0, 12, 0, 1), (73, 5, 0, 1), (107, 0, 0, 1), (79, 9, 0, 1), (79, 8, 0, 1), (79, 14, 0, 1), (79, 10, 0, 1), (84, 0, 0, 12), (79, 12, 0, 1), (7, 15, 0, 1), (17, 0, 0, 400), (79, 11, 0, 1), (11, 0, 0, 36), (30, 0, 0, 36), (88, 0, 0, 40176), (12, 0, 0, 3), (13, 0, 0, 3), (7, 7, 0, 1), (14, 0, 0, 288), (79, 53, 0, 1), (87, 0, 0, 1116), (7, 12, 0, 1), (16, 0, 0, 30), (7, 13, 0, 1), (32, 2, 0, 1), (32, 3, 0, 1), (32, 4, 0, 1), (33, 0, 0, 3), (34, 0, 0, 8), (31, 9, 0, 1), (31, 10, 0, 1), (31, 18, 0, 1), (39, 3, 0, 1), (31, 11, 0, 1), (31, 17, 0, 1), (31, 20, 0, 1), (46, 0, 0, 36), (47, 4, 0, 1), (49, 0, 0, 93), (50, 0, 0, 93), (51, 0, 0, 93), (48, 0, 0, 2325), (31, 19, 0, 1), (38, 0, 0, 30), (37, 3, 0, 1), (37, 4, 0, 1), (36, 0, 0, 30), (35, 3, 0, 1), (35, 4, 0, 1), (40, 0, 0, 30), (39, 4, 0, 1), (31, 13, 0, 1), (31, 12, 0, 1), (43, 0, 0, 30), (41, 8, 0, 1), (41, 4, 0, 1), (41, 5, 0, 1), (41, 6, 0, 1), (41, 7, 0, 1), (41, 9, 0, 1), (41, 3, 0, 1), (42, 0, 0, 64), (44, 0, 1, 31), (79, 20, 0, 1), (89, 0, 0, 3), (90, 0, 0, 8), (79, 29, 0, 1), (79, 31, 0, 1), (79, 32, 0, 1), (79, 37, 0, 1), (79, 27, 0, 1), (79, 28, 0, 1), (79, 30, 0, 1), (79, 39, 0, 1), (79, 43, 0, 1), (79, 44, 0, 1), (79, 45, 0, 1), (79, 46, 0, 1), (91, 0, 0, 31), (92, 0, 0, 2232), (93, 0, 0, 2232), (94, 0, 0, 2325), (95, 0, 0, 31), (96, 0, 0, 24), (97, 0, 0, 24), (98, 0, 0, 30), (99, 0, 0, 30), (100, 0, 0, 30), (101, 0, 0, 31), (85, 0, 0, 6), (86, 0, 0, 400), (78, 0, 0, 36), (75, 0, 0, 90), (74, 0, 0, 72), (76, 0, 0, 30), (79, 38, 0, 1), (102, 0, 0, 24), (103, 0, 0, 30), (53, 2, 0, 1), (53, 3, 0, 1), (53, 4, 0, 1), (54, 0, 0, 3), (55, 0, 0, 8), (52, 18, 0, 1), (52, 19, 0, 1), (52, 17, 0, 1), (52, 20, 0, 1), (67, 0, 0, 36), (68, 4, 0, 1), (70, 0, 0, 93), (71, 0, 0, 93), (72, 0, 0, 93), (69, 0, 0, 2325), (59, 0, 0, 30), (58, 3, 0, 1), (58, 4, 0, 1), (57, 0, 0, 30), (56, 3, 0, 1), (56, 4, 0, 1), (61, 0, 0, 30), (60, 3, 0, 1), (60, 4, 0, 1), (52, 13, 0, 1), (52, 12, 0, 1), (64, 0, 0, 30), (62, 8, 0, 1), (62, 4, 0, 1), (62, 5, 0, 1), (62, 6, 0, 1), (62, 7, 0, 1), (62, 9, 0, 1), (62, 3, 0, 1), (63, 0, 0, 64), (65, 0, 1, 31), (31, 21, 0, 1), (104, 0, 0, 24), (105, 0, 0, 30), (106, 0, 0, 625), (52, 9, 0, 1), (52, 10, 0, 1), (52, 11, 0, 1), (18, 2, 0, 1), (19, 0, 0, 5), (20, 0, 0, 5), (21, 0, 0, 60), (22, 0, 0, 36), (18, 7, 0, 1), (23, 0, 0, 3), (24, 0, 0, 3), (25, 0, 0, 288), (26, 0, 0, 8), (18, 12, 0, 1), (18, 13, 0, 1), (27, 0, 0, 30), (18, 15, 0, 1), (28, 0, 0, 400), (0, 11, 0, 1), (79, 5, 0, 1), (81, 0, 0, 1284), (15, 0, 0, 8), (80, 0, 0, 2125)]
def lawA : List aV := [(1, fC 7), (1, fC 64), (1, fC 143), (1, fC 171), (0, fV 1), aX, aX, aX]
def lawS : aSS := ((([(.ofNat 0, .ofNat 3584), (.ofNat 0, .ofNat 3591)], []), 23, lawA, []), [(7, 1, fC 0, fV 0)])
def lawF7 : aF := (.ofNat 7, [(.ofNat 1, 1)])
def lawEnd (r : aRes) : Bool := match r with
  | (0, (((e, cs), pc, A, st), _), kc, ks) => Nat.beq pc 23 && (st.isEmpty && ((match A with
    | [a0, a1, a2, a3, a4, _, _, _] => a0 == (1, fC 7) && (a1 == (1, fC 64) && (a2 == (1, fC 143) && (a3 == (1, fC 171) && a4 == (0, lawF7))))
    | _ => false) && (iLe (pHi e cs lawF7) (.ofNat 3591) && (Nat.ble kc 1 && Nat.ble ks 25))))
  | (1, ((_, _, _, st), _), kc, ks) => (match st with
    | [v] => v == (0, fC 1)
    | _ => false) && (Nat.ble kc 1 && Nat.ble ks 25)
  | _ => false
def lawRun (row : pMrow) : Option (List aRes) := aRun gG lawCL gInl (lawMo.filter (mFree gProt)) lawMo 1000000 41 301 row (fun pc => pc == 23) 0 0 lawS
def lawCk : Bool := match pM[301]? with
  | some row => (match lawRun row with
    | some R => R.all lawEnd
    | none => false)
  | none => false
theorem lawCk_ok : lawCk = true := by decide +kernel
theorem lawCL_ok {xs : Nat → Int32} {n : Nat} (hn : n ≤ 3584) : ∀ c ∈ lawCL, conOK (pO0 xs n) gG gInv c := by
  have w := aWd_I (xs := xs) hn
  have h364 : conOK (pO0 xs n) gG gInv kc_364 := hm_measured
  have h365 : conOK (pO0 xs n) gG gInv kc_365 := kv_365 w h364
  have hm_287 : conOK (pO0 xs n) gG gInv kc_287 := hm_common
  have hm_292 : conOK (pO0 xs n) gG gInv kc_292 := hm_alike hn
  have hm_306 : conOK (pO0 xs n) gG gInv kc_306 := hm_cwrite hn
  have hm_319 : conOK (pO0 xs n) gG gInv kc_319 := hm_kind hn
  have hm_321 : conOK (pO0 xs n) gG gInv kc_321 := hm_put
  have hm_323 : conOK (pO0 xs n) gG gInv kc_323 := hm_off
  have hm_340 : conOK (pO0 xs n) gG gInv kc_340 := hm_laysAll h365
  have hm_376 : conOK (pO0 xs n) gG gInv kc_376 := hm_write hn
  have hm_379 : conOK (pO0 xs n) gG gInv kc_379 := hm_measure (words_ok (aWd_T hn))
  have hm_393 : conOK (pO0 xs n) gG gInv kc_393 := hm_slip h365
  have hm_395 : conOK (pO0 xs n) gG gInv kc_395 := hm_slips h365
  have hm_400 : conOK (pO0 xs n) gG gInv kc_400 := hm_odds h365
  have hm_402 : conOK (pO0 xs n) gG gInv kc_402 := hm_shared h365
  have hm_406 : conOK (pO0 xs n) gG gInv kc_406 := hm_image
  have hm_407 : conOK (pO0 xs n) gG gInv kc_407 := hm_back
  exact cl_cons (kv_3 w) (cl_cons (kv_307 w) (cl_cons (kv_4 w) (cl_cons (kv_308 w) (cl_cons (kv_377 w) (cl_cons (hm_319) (cl_cons (kv_378 w) (cl_cons (hm_379) (cl_cons (kv_53 w) (cl_cons (kv_320 w) (cl_cons (kv_380 w) (cl_cons (hm_321) (cl_cons (kv_381 w) (cl_cons (kv_331 w hm_323) (cl_cons (kv_382 w) (cl_cons (kv_332 w) (cl_cons (kv_383 w) (cl_cons (kv_333 w) (cl_cons (kv_384 w) (cl_cons (kv_334 w) (cl_cons (kv_385 w) (cl_cons (kv_335 w) (cl_cons (kv_386 w hm_306) (cl_cons (hm_376) (cl_cons (kv_387 w) (cl_cons (kv_336 w) (cl_cons (kv_388 w) (cl_cons (kv_337 w) (cl_cons (kv_389 w) (cl_cons (kv_338 w) (cl_cons (kv_168 w) (cl_cons (kv_343 w hm_340) (cl_cons (kv_169 w) (cl_cons (kv_344 w hm_340) (cl_cons (kv_390 w) (cl_cons (kv_345 w hm_340) (cl_cons (kv_391 w) (cl_cons (kv_346 w hm_340) (cl_cons (kv_392 w) (cl_cons (hm_393) (cl_cons (kv_394 w) (cl_cons (hm_395) (cl_cons (kv_396 w) (cl_cons (kv_347 w hm_340) (cl_cons (kv_397 w) (cl_cons (kv_349 w hm_323 hm_340) (cl_cons (kv_281 w) (cl_cons (kv_350 w hm_340) (cl_cons (kv_398 w) (cl_cons (kv_351 w hm_340) (cl_cons (kv_399 w hm_287) (cl_cons (hm_400) (cl_cons (kv_401 w) (cl_cons (hm_402) (cl_cons (kv_403 w hm_292) (cl_cons (kv_352 w) (cl_cons (kv_404 w) (cl_cons (kv_353 w hm_340) (cl_cons (kv_405 w) (cl_cons (kv_354 w hm_340) (cl_cons (kv_299 w) (cl_cons (hm_406) (cl_cons (kv_301 w) (cl_cons (hm_407) (cl_cons (kv_305 w) (cl_cons (kv_355 w hm_340) (cl_nil))))))))))))))))))))))))))))))))))))))))))))))))))))))))))))))))))
def lawQ (o : pRes) : Prop := o.1 = .inl (some (.int 1)) ∧ o.2.2.1 ≤ 601024 ∧ o.2.2.2 ≤ 7293034
theorem gO_c {ρ ρ' : List Int} {c : Int} {o : Option Value} (h : gO ρ (1, fC c) o) : gO ρ' (1, fC c) o := by
  rcases h with h | ⟨v, rfl, y, rfl, hy⟩
  · exact absurd h (by show ¬ 4 ≤ 1; omega)
  · exact Or.inr ⟨_, rfl, y, rfl, fC_ev.trans (fC_ev.symm.trans hy)⟩
theorem gE_2 {a b l1 h1 l2 h2 : Int} (ha : l1 ≤ a ∧ a ≤ h1) (hb : l2 ≤ b ∧ b ≤ h2) : gE [a, b] [(l1, h1), (l2, h2)] := by
  refine ⟨rfl, fun x v hx => ?_⟩
  match x with
  | 0 => cases hx; exact ha
  | 1 => cases hx; exact hb
  | x + 2 => simp at hx
theorem law_loop {xs : Nat → Int32} {n : Nat} (hn : n ≤ 3584) : ∀ (N : Nat) (i : Int) (es : PH) (kc ks : Nat) (L : PL), 0 ≤ i → i ≤ 3591 → 3598 - i < 7 * (N : Int) → gL [(n : Int), i] lawA L → hOK tT es → gInv es → kc + N ≤ 2000 → ks + 25 * N ≤ 200000 → aW (pO0 xs n) 41 301 kc ks lawQ (23, L, [], es) := by
  have w := aWd_I (xs := xs) hn
  have hck := lawCk_ok
  unfold lawCk at hck
  split at hck
  rotate_left
  · cases hck
  rename_i row hrow
  split at hck
  rotate_left
  · cases hck
  rename_i R hR
  intro N
  induction N with
  | zero => intro i es kc ks L h1 h2 h3; omega
  | succ N ih =>
    intro i es kc ks L h1 h2 h3 hL hT hI hk hs
    have hO7 : pO0 xs n 7 = some (n, xs) := rfl
    refine aRun_ok w.1 w.2.1 (lawCL_ok hn) (w.2.2 _ (List.all_eq_true.mpr fun m hm => (List.mem_filter.mp hm).2)) (mSub_filter _) gInl 1000000 41 301 row _ 0 0 lawS R hrow hR [(n : Int), i] (23, L, [], es) lawQ kc ks kc ks ⟨⟨gE_2 (show (0 : Int) ≤ (n : Int) ∧ (n : Int) ≤ 3584 from ⟨by omega, by omega⟩) (show (0 : Int) ≤ i ∧ i ≤ 3591 from ⟨h1, h2⟩), (fun f hf => by cases hf), rfl, hL, trivial⟩, ?_⟩ hT hI (Nat.le_refl _) (Nat.le_refl _) ?_
    · intro t ht
      rcases List.mem_cons.mp ht with rfl | ht
      · exact ⟨n, xs, Or.inl ⟨by show 7 < 100; omega, hO7, rfl⟩⟩
      · cases ht
    · intro r hrm τ σ' c' k' hc' hk' g' t' i' f' e'
      have h9 := List.all_eq_true.mp hck r hrm
      obtain ⟨pc2, L2, s2, es2⟩ := σ'
      unfold lawEnd at h9
      split at h9
      · rename_i e2 cs2 pc3 A2 st2 F2 kc2 ks2
        obtain ⟨⟨gE1, gC1, gpc, gL1, gS1⟩, -⟩ := g'
        simp only at gE1 gC1 gpc gL1 gS1 t' i' hc' hk'
        simp only [Bool.and_eq_true, Nat.beq_eq, Nat.ble_eq, List.isEmpty_iff, iLe_iff] at h9
        obtain ⟨z1, z2, z3, z4, z5, z6⟩ := h9
        subst z1 z2
        split at z3
        rotate_left
        · cases z3
        rename_i a0 a1 a2 a3 a4 a5 a6 a7
        simp only [Bool.and_eq_true, beq_iff_eq] at z3
        obtain ⟨rfl, rfl, rfl, rfl, rfl⟩ := z3
        cases gS_nil gS1
        subst gpc
        match L2, gL1 with
        | [o0, o1, o2, o3, o4, o5, o6, o7], gL1 =>
          obtain ⟨g0, g1, g2, g3, g4, -⟩ := gL1
          rcases g4 with g4 | ⟨v, rfl, x, rfl, hx⟩
          · exact absurd g4 (by show ¬ 4 ≤ 0; omega)
          have hv : x.toInt = 7 + i := by
            obtain ⟨s, u1, u2⟩ := evF_iff.mp hx
            obtain ⟨p, q, u3, u4, u5⟩ := evT_cons.mp u1
            rw [evT_nil] at u4
            have hp : p = i := by simpa using u3.symm
            have n1 : Int.ofNat 1 = 1 := rfl
            have n7 : Int.ofNat 7 = 7 := rfl
            simp only [lawF7, n1, n7] at u2 u5
            omega
          have hle := (pLo_le gE1 gC1 hx).2
          have z4' : pHi e2 cs2 lawF7 ≤ 3591 := z4
          refine ih x.toInt es2 c' k' _ (by omega) (by omega) (by omega) ⟨gO_c g0, gO_c g1, gO_c g2, gO_c g3, Or.inr ⟨_, rfl, x, rfl, ?_⟩, Or.inl (by show 4 ≤ 4; omega), Or.inl (by show 4 ≤ 4; omega), Or.inl (by show 4 ≤ 4; omega), trivial⟩ t' i' (by omega) (by omega)
          exact fV_ev rfl
      · rename_i ec2 pc3 A2 st2 F2 kc2 ks2
        obtain ⟨⟨gE1, gC1, gpc, gL1, gS1⟩, -⟩ := g'
        simp only at gE1 gC1 gpc gL1 gS1 t' i' hc' hk'
        simp only [Bool.and_eq_true, Nat.ble_eq] at h9
        obtain ⟨z1, z2, z3⟩ := h9
        split at z1
        rotate_left
        · cases z1
        rename_i v0
        rw [beq_iff_eq] at z1
        subst z1
        obtain ⟨v, v1, v2⟩ := e'
        simp only at v2
        obtain ⟨u, s3, rfl, gw, gs3⟩ := gS_cons gS1
        cases gS_nil gs3
        have hv : v = some u := by
          cases v with
          | none => cases v2
          | some z => simp only [Option.toList_some, List.cons.injEq, and_true] at v2; rw [v2]
        subst hv
        obtain ⟨x, rfl, hx⟩ := gw
        have hx1 : x.toInt = 1 := fC_val (f := fC 1) rfl hx
        have hx2 : x = 1 := Int32.toInt_inj.mp (by rw [hx1]; rfl)
        subst hx2
        exact aW_fin v1 ⟨rfl, by show c' ≤ 601024; omega, by show k' ≤ 7293034; omega⟩
      · cases h9
/-- the pure run of the law ends, and answers 1, on every script -/
theorem pure_claim (n : Nat) (hn : n ≤ 3584) (xs : Nat → Int32) : ∃ (k d : Nat) (es1 : PH) (kc ks : Nat), pRun (pO0 xs n) k d 301 (0, pEntry [.ref 7] 8, [], []) = some (.inl (some (.int 1)), es1, kc, ks) ∧ d ≤ 400 ∧ kc ≤ 601024 ∧ ks ≤ 7293034 := by
  have h := law_start (xs := xs) (n := n) (Q := lawQ) (fun es kc ks hT hI hk hs => aW_mono (show 41 ≤ 61 by omega) (fun _ h => h) (law_loop hn 514 0 es kc ks startL (by omega) (by omega) (by omega) ⟨Or.inr ⟨_, rfl, 7, rfl, rfl⟩, Or.inr ⟨_, rfl, 64, rfl, rfl⟩, Or.inr ⟨_, rfl, 143, rfl, rfl⟩, Or.inr ⟨_, rfl, 171, rfl, rfl⟩, Or.inr ⟨_, rfl, 0, rfl, rfl⟩, Or.inl (by show 4 ≤ 4; omega), Or.inl (by show 4 ≤ 4; omega), Or.inl (by show 4 ≤ 4; omega), trivial⟩ hT hI (by omega) (by omega)))
  obtain ⟨k, o, h1, h2, h3, h4⟩ := h
  obtain ⟨r, es1, kc, ks⟩ := o
  simp only at h2 h3 h4
  rw [h2] at h1
  exact ⟨k, 61, es1, kc, ks, h1, by omega, by omega, by omega⟩
