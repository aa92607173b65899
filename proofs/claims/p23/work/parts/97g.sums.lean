theorem s_sums2 {O : pOut} {d kc ks : Nat} {Q : pRes → Prop} {es : PH} {b m n : Int} {x4 : Option Value} (hs_es : sh es) (hb : 0 ≤ b ∧ b ≤ 2) (hm : 0 ≤ m ∧ m ≤ 30) (hn : 0 ≤ n ∧ n ≤ 25) (hN : (gA es 80 ((119 + (98 * b)) + 1).toNat).toInt ≤ 24) (hT_es : hOK tT es)
    (K1 : ∀ v1 : Int, v1 = (gA es 80 ((119 + (98 * b)) + 1).toNat).toInt → v1 < n → Q (.inl (none), es, kc, ks))
    (K2 : ∀ v1 : Int, v1 = (gA es 80 ((119 + (98 * b)) + 1).toNat).toInt → ¬ (v1 < n) → (m + n) ≠ 0 → ∀ v4 : Int, mvP m n b es v4 → ∀ v5 : Int, loP m n b es v5 → ∀ v6 : Int, ttP m n b es v6 → ∀ v7 : Int, v7 = min v5 v6 → ∀ v8 : Int, v8 = min v4 v7 → ∀ v9 : Int, v9 = min 1000 v8 → ∀ es10 : PH, es10 = sA es 94 ((25 * ((31 * b) + m)) + n).toNat (zI v9) → aW O (d + 4) 236 kc ks Q (2, [some (.ref 143), some (.int (zI b)), some (.int (zI m)), some (.int (zI (n + 1))), some (.int (zI v8))], [], es10))
    (K3 : ∀ v1 : Int, v1 = (gA es 80 ((119 + (98 * b)) + 1).toNat).toInt → ¬ (v1 < n) → ¬ ((m + n) ≠ 0) → ∀ v11 : Int, v11 = min 1000 0 → ∀ es12 : PH, es12 = sA es 94 ((25 * ((31 * b) + m)) + n).toNat (zI v11) → aW O (d + 4) 236 kc ks Q (2, [some (.ref 143), some (.int (zI b)), some (.int (zI m)), some (.int (zI (n + 1))), some (.int (zI 0))], [], es12)) :
    aW O (d + 4) 236 kc ks Q (2, [some (.ref 143), some (.int (zI b)), some (.int (zI m)), some (.int (zI n)), x4], [], es) := by
  refine x0 (r := (3, [some (.ref 143), some (.int (zI b)), some (.int (zI m)), some (.int (zI n)), x4], [.int (zI n)], es)) i_236_2 rfl ?_
  refine x0 (r := (4, [some (.ref 143), some (.int (zI b)), some (.int (zI m)), some (.int (zI n)), x4], [.ref 143, .int (zI n)], es)) i_236_3 rfl ?_
  refine x0 (r := (5, [some (.ref 143), some (.int (zI b)), some (.int (zI m)), some (.int (zI n)), x4], [.int (zI b), .ref 143, .int (zI n)], es)) i_236_4 rfl ?_
  refine x_call (vs := [.ref 143, .int (zI b)]) (rs := [.int (zI n)]) i_236_5 rfl (fun _ => rfl) rfl rfl rfl rfl rfl (pCall_v (p := 79) hs_es rfl rfl rfl rfl rfl (by decide) rfl rfl rfl rfl rfl) ?_
  show aW _ _ _ _ _ _ (0, [some (.ref 143), some (.int (zI b))], [], es)
  refine x0 (r := (1, [some (.ref 143), some (.int (zI b))], [.ref 143], es)) i_205_0 rfl ?_
  refine x0 (r := (2, [some (.ref 143), some (.int (zI b))], [.int (zI b), .ref 143], es)) i_205_1 rfl ?_
  refine x0 (r := (3, [some (.ref 143), some (.int (zI b))], [.int (zI 1), .int (zI b), .ref 143], es)) i_205_2 (by rfl) ?_
  refine x_call (vs := [.ref 143, .int (zI b), .int (zI 1)]) (rs := []) i_205_3 rfl (fun _ => rfl) rfl rfl rfl rfl rfl (pCall_v (p := 79) hs_es rfl rfl rfl rfl rfl (by decide) rfl rfl rfl rfl rfl) ?_
  show aW _ _ _ _ _ _ (0, [some (.ref 143), some (.int (zI b)), some (.int (zI 1))], [], es)
  refine x0 (r := (1, [some (.ref 143), some (.int (zI b)), some (.int (zI 1))], [.ref 143], es)) i_206_0 rfl ?_
  refine x_getr (p := 79) (k := 144) i_206_1 hs_es rfl rfl ?_
  show aW _ _ _ _ _ _ (4, [some (.ref 143), some (.int (zI b)), some (.int (zI 1))], [.ref 144], es)
  refine x0 (r := (6, [some (.ref 143), some (.int (zI b)), some (.int (zI 1))], [.int (zI 119), .ref 144], es)) i_206_4 (by rfl) ?_
  refine x0 (r := (8, [some (.ref 143), some (.int (zI b)), some (.int (zI 1))], [.int (zI 98), .int (zI 119), .ref 144], es)) i_206_6 (by rfl) ?_
  refine x0 (r := (9, [some (.ref 143), some (.int (zI b)), some (.int (zI 1))], [.int (zI b), .int (zI 98), .int (zI 119), .ref 144], es)) i_206_8 rfl ?_
  refine x_imul i_206_9 ?_
  refine x_iadd i_206_10 ?_
  refine x0 (r := (12, [some (.ref 143), some (.int (zI b)), some (.int (zI 1))], [.int (zI 1), .int (zI (119 + (98 * b))), .ref 144], es)) i_206_11 rfl ?_
  refine x_iadd i_206_12 ?_
  refine x_iald (p := 80) i_206_13 hs_es rfl (by unfold i32 iLO iHI; omega) (by omega) (by omega) ?_
  obtain ⟨v1, e_v1⟩ : ∃ z : Int, z = (gA es 80 ((119 + (98 * b)) + 1).toNat).toInt := ⟨_, rfl⟩
  rw [← e_v1]
  have r_v1 : iLO ≤ v1 ∧ v1 ≤ iHI := by rw [e_v1]; exact i32_rng _
  unfold iLO iHI at r_v1
  refine x_ret (v := some (.int (zI v1))) i_206_14 rfl (fun _ => rfl) rfl rfl rfl ?_
  show aW _ _ _ _ _ _ (6, [some (.ref 143), some (.int (zI b))], [.int (zI v1)], es)
  refine x_ret (v := some (.int (zI v1))) i_205_6 rfl (fun _ => rfl) rfl rfl rfl ?_
  show aW _ _ _ _ _ _ (8, [some (.ref 143), some (.int (zI b)), some (.int (zI m)), some (.int (zI n)), x4], [.int (zI v1), .int (zI n)], es)
  by_cases c2 : v1 < n
  · refine x_cmpT i_236_8 (by unfold i32 iLO iHI; omega) (by unfold i32 iLO iHI; omega) rfl (by simp only [zC, cR]; omega) ?_
    refine x_ret (v := none) i_236_75 rfl (fun _ => rfl) rfl rfl rfl ?_
    exact K1 v1 e_v1 c2
  · refine x_cmpF i_236_8 (by unfold i32 iLO iHI; omega) (by unfold i32 iLO iHI; omega) rfl (by simp only [zC, cR]; omega) ?_
    refine x0 (r := (12, [some (.ref 143), some (.int (zI b)), some (.int (zI m)), some (.int (zI n)), x4], [.int (zI m)], es)) i_236_11 rfl ?_
    refine x0 (r := (13, [some (.ref 143), some (.int (zI b)), some (.int (zI m)), some (.int (zI n)), x4], [.int (zI n), .int (zI m)], es)) i_236_12 rfl ?_
    refine x_iadd i_236_13 ?_
    by_cases c3 : (m + n) ≠ 0
    · refine x_ifT i_236_14 (by unfold i32 iLO iHI; omega) rfl (by simp only [zC, cR]; omega) ?_
      refine x0 (r := (22, [some (.ref 143), some (.int (zI b)), some (.int (zI m)), some (.int (zI n)), x4], [.ref 143], es)) i_236_21 rfl ?_
      refine x0 (r := (23, [some (.ref 143), some (.int (zI b)), some (.int (zI m)), some (.int (zI n)), x4], [.int (zI m), .ref 143], es)) i_236_22 rfl ?_
      refine x0 (r := (24, [some (.ref 143), some (.int (zI b)), some (.int (zI m)), some (.int (zI n)), x4], [.int (zI n), .int (zI m), .ref 143], es)) i_236_23 rfl ?_
      refine x0 (r := (25, [some (.ref 143), some (.int (zI b)), some (.int (zI m)), some (.int (zI n)), x4], [.int (zI b), .int (zI n), .int (zI m), .ref 143], es)) i_236_24 rfl ?_
      refine x_call (vs := [.ref 143, .int (zI m), .int (zI n), .int (zI b)]) (rs := []) i_236_25 rfl (fun _ => rfl) rfl rfl rfl rfl rfl (pCall_v (p := 79) hs_es rfl rfl rfl rfl rfl (by decide) rfl rfl rfl rfl rfl) ?_
      show aW _ _ _ _ _ _ (0, [some (.ref 143), some (.int (zI m)), some (.int (zI n)), some (.int (zI b))], [], es)
      refine mv_spec hs_es (by omega) (by omega) (by omega) hT_es (fun v4 p_v4 => ?_)
      have r_v4 := p_v4.2
      show aW _ _ _ _ _ _ (28, [some (.ref 143), some (.int (zI b)), some (.int (zI m)), some (.int (zI n)), x4], [.int (zI v4)], es)
      refine x0 (r := (29, [some (.ref 143), some (.int (zI b)), some (.int (zI m)), some (.int (zI n)), x4], [.ref 143, .int (zI v4)], es)) i_236_28 rfl ?_
      refine x0 (r := (30, [some (.ref 143), some (.int (zI b)), some (.int (zI m)), some (.int (zI n)), x4], [.int (zI m), .ref 143, .int (zI v4)], es)) i_236_29 rfl ?_
      refine x0 (r := (31, [some (.ref 143), some (.int (zI b)), some (.int (zI m)), some (.int (zI n)), x4], [.int (zI n), .int (zI m), .ref 143, .int (zI v4)], es)) i_236_30 rfl ?_
      refine x0 (r := (32, [some (.ref 143), some (.int (zI b)), some (.int (zI m)), some (.int (zI n)), x4], [.int (zI b), .int (zI n), .int (zI m), .ref 143, .int (zI v4)], es)) i_236_31 rfl ?_
      refine x_call (vs := [.ref 143, .int (zI m), .int (zI n), .int (zI b)]) (rs := [.int (zI v4)]) i_236_32 rfl (fun _ => rfl) rfl rfl rfl rfl rfl (pCall_v (p := 79) hs_es rfl rfl rfl rfl rfl (by decide) rfl rfl rfl rfl rfl) ?_
      show aW _ _ _ _ _ _ (0, [some (.ref 143), some (.int (zI m)), some (.int (zI n)), some (.int (zI b))], [], es)
      refine lo_spec hs_es (by omega) (by omega) (by omega) hT_es (fun v5 p_v5 => ?_)
      have r_v5 := p_v5.2
      show aW _ _ _ _ _ _ (35, [some (.ref 143), some (.int (zI b)), some (.int (zI m)), some (.int (zI n)), x4], [.int (zI v5), .int (zI v4)], es)
      refine x0 (r := (36, [some (.ref 143), some (.int (zI b)), some (.int (zI m)), some (.int (zI n)), x4], [.ref 143, .int (zI v5), .int (zI v4)], es)) i_236_35 rfl ?_
      refine x0 (r := (37, [some (.ref 143), some (.int (zI b)), some (.int (zI m)), some (.int (zI n)), x4], [.int (zI m), .ref 143, .int (zI v5), .int (zI v4)], es)) i_236_36 rfl ?_
      refine x0 (r := (38, [some (.ref 143), some (.int (zI b)), some (.int (zI m)), some (.int (zI n)), x4], [.int (zI n), .int (zI m), .ref 143, .int (zI v5), .int (zI v4)], es)) i_236_37 rfl ?_
      refine x0 (r := (39, [some (.ref 143), some (.int (zI b)), some (.int (zI m)), some (.int (zI n)), x4], [.int (zI b), .int (zI n), .int (zI m), .ref 143, .int (zI v5), .int (zI v4)], es)) i_236_38 rfl ?_
      refine x_call (vs := [.ref 143, .int (zI m), .int (zI n), .int (zI b)]) (rs := [.int (zI v5), .int (zI v4)]) i_236_39 rfl (fun _ => rfl) rfl rfl rfl rfl rfl (pCall_v (p := 79) hs_es rfl rfl rfl rfl rfl (by decide) rfl rfl rfl rfl rfl) ?_
      show aW _ _ _ _ _ _ (0, [some (.ref 143), some (.int (zI m)), some (.int (zI n)), some (.int (zI b))], [], es)
      refine tt_spec hs_es (by omega) (by omega) (by omega) hT_es (fun v6 p_v6 => ?_)
      have r_v6 := p_v6.2
      show aW _ _ _ _ _ _ (42, [some (.ref 143), some (.int (zI b)), some (.int (zI m)), some (.int (zI n)), x4], [.int (zI v6), .int (zI v5), .int (zI v4)], es)
      refine x_min i_236_42 (by unfold i32 iLO iHI; omega) (by unfold i32 iLO iHI; omega) (Nat.le_of_ble_eq_true rfl) ?_
      obtain ⟨v7, e_v7⟩ : ∃ z : Int, z = min v5 v6 := ⟨_, rfl⟩
      rw [← e_v7]
      refine x_min i_236_45 (by unfold i32 iLO iHI; omega) (by unfold i32 iLO iHI; omega) (Nat.le_of_ble_eq_true rfl) ?_
      obtain ⟨v8, e_v8⟩ : ∃ z : Int, z = min v4 v7 := ⟨_, rfl⟩
      rw [← e_v8]
      refine x0 (r := (50, [some (.ref 143), some (.int (zI b)), some (.int (zI m)), some (.int (zI n)), some (.int (zI v8))], [], es)) i_236_48 rfl ?_
      refine x0 (r := (51, [some (.ref 143), some (.int (zI b)), some (.int (zI m)), some (.int (zI n)), some (.int (zI v8))], [.ref 143], es)) i_236_50 rfl ?_
      refine x_getr (p := 79) (k := 158) i_236_51 hs_es rfl rfl ?_
      show aW _ _ _ _ _ _ (54, [some (.ref 143), some (.int (zI b)), some (.int (zI m)), some (.int (zI n)), some (.int (zI v8))], [.ref 158], es)
      refine x0 (r := (55, [some (.ref 143), some (.int (zI b)), some (.int (zI m)), some (.int (zI n)), some (.int (zI v8))], [.int (zI b), .ref 158], es)) i_236_54 rfl ?_
      refine x0 (r := (56, [some (.ref 143), some (.int (zI b)), some (.int (zI m)), some (.int (zI n)), some (.int (zI v8))], [.int (zI m), .int (zI b), .ref 158], es)) i_236_55 rfl ?_
      refine x0 (r := (57, [some (.ref 143), some (.int (zI b)), some (.int (zI m)), some (.int (zI n)), some (.int (zI v8))], [.int (zI n), .int (zI m), .int (zI b), .ref 158], es)) i_236_56 rfl ?_
      refine x_call (vs := [.int (zI b), .int (zI m), .int (zI n)]) (rs := [.ref 158]) i_236_57 rfl (fun _ => rfl) rfl rfl rfl rfl rfl rfl ?_
      show aW _ _ _ _ _ _ (0, [some (.int (zI b)), some (.int (zI m)), some (.int (zI n))], [], es)
      refine x0 (r := (2, [some (.int (zI b)), some (.int (zI m)), some (.int (zI n))], [.int (zI 25)], es)) i_238_0 (by rfl) ?_
      refine x0 (r := (4, [some (.int (zI b)), some (.int (zI m)), some (.int (zI n))], [.int (zI 31), .int (zI 25)], es)) i_238_2 (by rfl) ?_
      refine x0 (r := (5, [some (.int (zI b)), some (.int (zI m)), some (.int (zI n))], [.int (zI b), .int (zI 31), .int (zI 25)], es)) i_238_4 rfl ?_
      refine x_imul i_238_5 ?_
      refine x0 (r := (7, [some (.int (zI b)), some (.int (zI m)), some (.int (zI n))], [.int (zI m), .int (zI (31 * b)), .int (zI 25)], es)) i_238_6 rfl ?_
      refine x_iadd i_238_7 ?_
      refine x_imul i_238_8 ?_
      refine x0 (r := (10, [some (.int (zI b)), some (.int (zI m)), some (.int (zI n))], [.int (zI n), .int (zI (25 * ((31 * b) + m)))], es)) i_238_9 rfl ?_
      refine x_iadd i_238_10 ?_
      refine x_ret (v := some (.int (zI ((25 * ((31 * b) + m)) + n)))) i_238_11 rfl (fun _ => rfl) rfl rfl rfl ?_
      show aW _ _ _ _ _ _ (60, [some (.ref 143), some (.int (zI b)), some (.int (zI m)), some (.int (zI n)), some (.int (zI v8))], [.int (zI ((25 * ((31 * b) + m)) + n)), .ref 158], es)
      refine x0 (r := (63, [some (.ref 143), some (.int (zI b)), some (.int (zI m)), some (.int (zI n)), some (.int (zI v8))], [.int (zI 1000), .int (zI ((25 * ((31 * b) + m)) + n)), .ref 158], es)) i_236_60 (by rfl) ?_
      refine x0 (r := (65, [some (.ref 143), some (.int (zI b)), some (.int (zI m)), some (.int (zI n)), some (.int (zI v8))], [.int (zI v8), .int (zI 1000), .int (zI ((25 * ((31 * b) + m)) + n)), .ref 158], es)) i_236_63 rfl ?_
      refine x_min i_236_65 (by unfold i32 iLO iHI; omega) (by unfold i32 iLO iHI; omega) (Nat.le_of_ble_eq_true rfl) ?_
      obtain ⟨v9, e_v9⟩ : ∃ z : Int, z = min 1000 v8 := ⟨_, rfl⟩
      rw [← e_v9]
      refine x_iast (p := 94) i_236_68 hs_es rfl (by unfold i32 iLO iHI; omega) (by omega) (by omega) ?_
      obtain ⟨es10, e_es10⟩ : ∃ z : PH, z = sA es 94 ((25 * ((31 * b) + m)) + n).toNat (zI v9) := ⟨_, rfl⟩
      have hs_es10 : sh es10 := by rw [e_es10]; exact sh_sA hs_es
      have hT_es10 : hOK tT es10 := by rw [e_es10]; exact hOK_sA hT_es (p := 94) (n := 2325) rfl (fun _ => by rw [zI_toInt (by unfold i32 iLO iHI; omega)]; exact ⟨by show (0 : Int) ≤ v9; omega, by show v9 ≤ (1000 : Int); omega⟩)
      rw [← e_es10]
      refine x_iinc (x := n) i_236_69 rfl (by show 3 < 5; decide) ?_
      show aW _ _ _ _ _ _ (72, [some (.ref 143), some (.int (zI b)), some (.int (zI m)), some (.int (zI (n + 1))), some (.int (zI v8))], [], es10)
      refine x0 (r := (2, [some (.ref 143), some (.int (zI b)), some (.int (zI m)), some (.int (zI (n + 1))), some (.int (zI v8))], [], es10)) i_236_72 rfl ?_
      exact K2 v1 e_v1 c2 c3 v4 p_v4 v5 p_v5 v6 p_v6 v7 e_v7 v8 e_v8 v9 e_v9 es10 e_es10
    · refine x_ifF i_236_14 (by unfold i32 iLO iHI; omega) rfl (by simp only [zC, cR]; omega) ?_
      refine x0 (r := (18, [some (.ref 143), some (.int (zI b)), some (.int (zI m)), some (.int (zI n)), x4], [.int (zI 0)], es)) i_236_17 (by rfl) ?_
      refine x0 (r := (48, [some (.ref 143), some (.int (zI b)), some (.int (zI m)), some (.int (zI n)), x4], [.int (zI 0)], es)) i_236_18 rfl ?_
      refine x0 (r := (50, [some (.ref 143), some (.int (zI b)), some (.int (zI m)), some (.int (zI n)), some (.int (zI 0))], [], es)) i_236_48 rfl ?_
      refine x0 (r := (51, [some (.ref 143), some (.int (zI b)), some (.int (zI m)), some (.int (zI n)), some (.int (zI 0))], [.ref 143], es)) i_236_50 rfl ?_
      refine x_getr (p := 79) (k := 158) i_236_51 hs_es rfl rfl ?_
      show aW _ _ _ _ _ _ (54, [some (.ref 143), some (.int (zI b)), some (.int (zI m)), some (.int (zI n)), some (.int (zI 0))], [.ref 158], es)
      refine x0 (r := (55, [some (.ref 143), some (.int (zI b)), some (.int (zI m)), some (.int (zI n)), some (.int (zI 0))], [.int (zI b), .ref 158], es)) i_236_54 rfl ?_
      refine x0 (r := (56, [some (.ref 143), some (.int (zI b)), some (.int (zI m)), some (.int (zI n)), some (.int (zI 0))], [.int (zI m), .int (zI b), .ref 158], es)) i_236_55 rfl ?_
      refine x0 (r := (57, [some (.ref 143), some (.int (zI b)), some (.int (zI m)), some (.int (zI n)), some (.int (zI 0))], [.int (zI n), .int (zI m), .int (zI b), .ref 158], es)) i_236_56 rfl ?_
      refine x_call (vs := [.int (zI b), .int (zI m), .int (zI n)]) (rs := [.ref 158]) i_236_57 rfl (fun _ => rfl) rfl rfl rfl rfl rfl rfl ?_
      show aW _ _ _ _ _ _ (0, [some (.int (zI b)), some (.int (zI m)), some (.int (zI n))], [], es)
      refine x0 (r := (2, [some (.int (zI b)), some (.int (zI m)), some (.int (zI n))], [.int (zI 25)], es)) i_238_0 (by rfl) ?_
      refine x0 (r := (4, [some (.int (zI b)), some (.int (zI m)), some (.int (zI n))], [.int (zI 31), .int (zI 25)], es)) i_238_2 (by rfl) ?_
      refine x0 (r := (5, [some (.int (zI b)), some (.int (zI m)), some (.int (zI n))], [.int (zI b), .int (zI 31), .int (zI 25)], es)) i_238_4 rfl ?_
      refine x_imul i_238_5 ?_
      refine x0 (r := (7, [some (.int (zI b)), some (.int (zI m)), some (.int (zI n))], [.int (zI m), .int (zI (31 * b)), .int (zI 25)], es)) i_238_6 rfl ?_
      refine x_iadd i_238_7 ?_
      refine x_imul i_238_8 ?_
      refine x0 (r := (10, [some (.int (zI b)), some (.int (zI m)), some (.int (zI n))], [.int (zI n), .int (zI (25 * ((31 * b) + m)))], es)) i_238_9 rfl ?_
      refine x_iadd i_238_10 ?_
      refine x_ret (v := some (.int (zI ((25 * ((31 * b) + m)) + n)))) i_238_11 rfl (fun _ => rfl) rfl rfl rfl ?_
      show aW _ _ _ _ _ _ (60, [some (.ref 143), some (.int (zI b)), some (.int (zI m)), some (.int (zI n)), some (.int (zI 0))], [.int (zI ((25 * ((31 * b) + m)) + n)), .ref 158], es)
      refine x0 (r := (63, [some (.ref 143), some (.int (zI b)), some (.int (zI m)), some (.int (zI n)), some (.int (zI 0))], [.int (zI 1000), .int (zI ((25 * ((31 * b) + m)) + n)), .ref 158], es)) i_236_60 (by rfl) ?_
      refine x0 (r := (65, [some (.ref 143), some (.int (zI b)), some (.int (zI m)), some (.int (zI n)), some (.int (zI 0))], [.int (zI 0), .int (zI 1000), .int (zI ((25 * ((31 * b) + m)) + n)), .ref 158], es)) i_236_63 rfl ?_
      refine x_min i_236_65 (by unfold i32 iLO iHI; omega) (by unfold i32 iLO iHI; omega) (Nat.le_of_ble_eq_true rfl) ?_
      obtain ⟨v11, e_v11⟩ : ∃ z : Int, z = min 1000 0 := ⟨_, rfl⟩
      rw [← e_v11]
      refine x_iast (p := 94) i_236_68 hs_es rfl (by unfold i32 iLO iHI; omega) (by omega) (by omega) ?_
      obtain ⟨es12, e_es12⟩ : ∃ z : PH, z = sA es 94 ((25 * ((31 * b) + m)) + n).toNat (zI v11) := ⟨_, rfl⟩
      have hs_es12 : sh es12 := by rw [e_es12]; exact sh_sA hs_es
      have hT_es12 : hOK tT es12 := by rw [e_es12]; exact hOK_sA hT_es (p := 94) (n := 2325) rfl (fun _ => by rw [zI_toInt (by unfold i32 iLO iHI; omega)]; exact ⟨by show (0 : Int) ≤ v11; omega, by show v11 ≤ (1000 : Int); omega⟩)
      rw [← e_es12]
      refine x_iinc (x := n) i_236_69 rfl (by show 3 < 5; decide) ?_
      show aW _ _ _ _ _ _ (72, [some (.ref 143), some (.int (zI b)), some (.int (zI m)), some (.int (zI (n + 1))), some (.int (zI 0))], [], es12)
      refine x0 (r := (2, [some (.ref 143), some (.int (zI b)), some (.int (zI m)), some (.int (zI (n + 1))), some (.int (zI 0))], [], es12)) i_236_72 rfl ?_
      exact K3 v1 e_v1 c2 c3 v11 e_v11 es12 e_es12
/-! sums: the row m of a book out of the row ahead of it -/
def loV (po : Nat → Int32) (m : Nat) (p : Int) : Int := if m = 0 then 1000 else if (po 6).toInt = 0 then 1000 else p + (po 6).toInt
noncomputable def rowF (W po : Nat → Int32) (b m : Nat) (pv ft : Nat → Int) : Nat → Int
  | 0 => if m = 0 then 0 else min 1000 (min 1000 (min (loV po m (pv 0)) 1000))
  | n + 1 => min 1000 (min (if m = 0 then 1000 else pv n + ft n) (min (loV po m (pv (n + 1))) (if twI W po b n = 0 then 1000 else rowF W po b m pv ft n + (po 7).toInt)))
def smS (es : PH) (b m : Nat) : Nat → Int := fun n => (gA es 94 (25 * (31 * b + m) + n)).toInt
def ftS (es : PH) (b m : Nat) : Nat → Int := fun n => (gA es 92 (72 * m + 24 * b + n)).toInt
noncomputable def rwS (es : PH) (b m : Nat) : Nat → Int := rowF (gA es 80) (gA es 90) b m (smS es b (m - 1)) (ftS es b (m - 1))
def sumsN (b m : Nat) (es es' : PH) : Prop := sh es' ∧ hOK tT es' ∧ fr [(94, 0, 25 * (31 * b + m), 25 * (31 * b + m) + 25)] es es' ∧ ∀ n, n ≤ nW (gA es 80) b → smS es' b m n = rwS es b m n
def sumsP (b m : Int) (es es' : PH) : Prop := sumsN b.toNat m.toNat es es'
theorem nW_bd {es : PH} (hT : hOK tT es) {b : Nat} (hb : b ≤ 2) : (gA es 80 (119 + 98 * b + 1)).toInt = (nW (gA es 80) b : Int) ∧ nW (gA es 80) b ≤ 24 := by
  have h := gA_bd hT (p := 80) (t := 0) (n := 2125) (sp := tS80) (k := 119 + 98 * b + 1) rfl (by omega) (by decide)
  rw [(tS80_bw b (by omega)).2] at h
  have h' : 0 ≤ (gA es 80 (119 + 98 * b + 1)).toInt ∧ (gA es 80 (119 + 98 * b + 1)).toInt ≤ 24 := h
  unfold nW
  omega
section
variable {O : pOut} {d kc ks : Nat} {Q : pRes → Prop} {es : PH}
theorem sums_loop {b m : Nat} (hb : b ≤ 2) (hm : m ≤ 30) (hT : hOK tT es) (K : ∀ es', sumsN b m es es' → Q (.inl none, es', kc, ks)) :
    ∀ (j n : Nat) (es1 : PH) (x4 : Option Value), n + j = nW (gA es 80) b + 1 → hOK tT es1 → fr [(94, 0, 25 * (31 * b + m), 25 * (31 * b + m) + 25)] es es1 → (∀ k, k < n → smS es1 b m k = rwS es b m k) →
      aW O (d + 4) 236 kc ks Q (2, [some (.ref 143), some (.int (zI (b : Int))), some (.int (zI (m : Int))), some (.int (zI (n : Int))), x4], [], es1) := by
  have hnb := nW_bd hT hb
  have jn : ((119 + (98 * (b : Int))) + 1).toNat = 119 + 98 * b + 1 := by omega
  intro j
  induction j with
  | zero =>
    intro n es1 x4 hn hT1 hf1 hk
    have hW : gA es1 80 = gA es 80 := fr_row hf1 (sh_of hT) (p := 80) (t := 0) (n := 2125) (sp := tS80) rfl (by decide) (fun k => by simp only [mHq, true_and, and_true, false_and, and_false, or_false, false_or, not_false_eq_true, Nat.reduceEqDiff] <;> omega)
    refine s_sums2 (d := d) (sh_of hT1) ⟨by omega, by omega⟩ ⟨by omega, by omega⟩ ⟨by omega, by omega⟩ (by rw [jn, hW]; omega) hT1 (fun v1 e1 h1 => K es1 ⟨sh_of hT1, hT1, hf1, fun k hk' => hk k (by omega)⟩) (fun v1 e1 h1 => ?_) (fun v1 e1 h1 => ?_)
    all_goals
      rw [jn, hW] at e1
      omega
  | succ j ih =>
    intro n es1 x4 hn hT1 hf1 hk
    have hs0 := sh_of hT
    have hW : gA es1 80 = gA es 80 := fr_row hf1 hs0 (p := 80) (t := 0) (n := 2125) (sp := tS80) rfl (by decide) (fun k => by simp only [mHq, true_and, and_true, false_and, and_false, or_false, false_or, not_false_eq_true, Nat.reduceEqDiff] <;> omega)
    have hP : gA es1 90 = gA es 90 := fr_row hf1 hs0 (p := 90) (t := 0) (n := 8) rfl (by decide) (fun k => by simp only [mHq, true_and, and_true, false_and, and_false, or_false, false_or, not_false_eq_true, Nat.reduceEqDiff] <;> omega)
    have hF : gA es1 92 = gA es 92 := fr_row hf1 hs0 (p := 92) (t := 0) (n := 2232) rfl (by decide) (fun k => by simp only [mHq, true_and, and_true, false_and, and_false, or_false, false_or, not_false_eq_true, Nat.reduceEqDiff] <;> omega)
    have hS : m ≠ 0 → ∀ i, i ≤ 24 → gA es1 94 (25 * (31 * b + (m - 1)) + i) = gA es 94 (25 * (31 * b + (m - 1)) + i) := fun hm0 i hi => fr_at hf1 hs0 (p := 94) (t := 0) (n := 2325) rfl (by decide) (by simp only [mHq, true_and, and_true, false_and, and_false, or_false, false_or, not_false_eq_true, Nat.reduceEqDiff] <;> omega)
    have jx : ((25 * ((31 * (b : Int)) + (m : Int))) + (n : Int)).toNat = 25 * (31 * b + m) + n := by omega
    have e9 : ((n + 1 : Nat) : Int) = (n : Int) + 1 := by omega
    have go : ∀ (v : Int) (x : Option Value) (es2 : PH), 0 ≤ v ∧ v ≤ 1000 → v = rwS es b m n → es2 = sA es1 94 (25 * (31 * b + m) + n) (zI v) →
        aW O (d + 4) 236 kc ks Q (2, [some (.ref 143), some (.int (zI (b : Int))), some (.int (zI (m : Int))), some (.int (zI ((n : Int) + 1))), x], [], es2) := by
      intro v x es2 hv hv2 h2
      have hz : (zI v).toInt = v := zI_toInt (by unfold i32 iLO iHI; omega)
      have := ih (n + 1) es2 x (by omega) (by rw [h2]; exact hOK_sA hT1 (p := 94) (t := 0) (n := 2325) rfl (fun _ => by rw [hz]; exact hv)) (by rw [h2]; exact fr_trans hf1 (fr_sA (mIn_yes (by simp only [mHq, true_and, and_true, false_and, and_false, or_false, false_or, not_false_eq_true, Nat.reduceEqDiff] <;> omega)))) (fun k hk' => by
        unfold smS
        rw [h2, gA_sA (sh_of hT1) (p := 94) (t := 0) (n := 2325) rfl (by decide)]
        unfold upd
        by_cases hkn : k = n
        · rw [if_pos (by omega), hz, hkn]; exact hv2
        · rw [if_neg (by omega)]
          exact hk k (by omega))
      rw [e9] at this
      exact this
    refine s_sums2 (d := d) (sh_of hT1) ⟨by omega, by omega⟩ ⟨by omega, by omega⟩ ⟨by omega, by omega⟩ (by rw [jn, hW]; omega) hT1 (fun v1 e1 h1 => ?_) (fun v1 e1 h1 h0 v4 p4 v5 p5 v6 p6 v7 e7 v8 e8 v9 e9 es10 e10 => ?_) (fun v1 e1 h1 h0 v9 f9 es10 e10 => ?_)
    · rw [jn, hW] at e1
      omega
    · rw [jx] at e10
      refine go v9 _ _ (by have := p4.2; have := p5.2; have := p6.2; omega) ?_ e10
      have q4 := p4.1
      have q5 := p5.1
      have q6 := p6.1
      simp only [Int.toNat_natCast] at q4 q5 q6
      rw [e9, e8, e7]
      unfold rwS
      unfold mvI at q4
      unfold loI at q5
      unfold ttI at q6
      rw [hP] at q5 q6
      rw [hW] at q6
      rw [hF] at q4
      cases n with
      | zero =>
        rw [rowF]
        have hm0 : m ≠ 0 := by omega
        rw [if_neg hm0]
        rw [if_neg hm0] at q4 q5
        rw [if_pos rfl] at q4 q6
        rw [hS hm0 0 (by omega)] at q5
        rw [q4, q6, q5]
        unfold loV smS
        rw [if_neg hm0]
      | succ n =>
        rw [rowF]
        have hk' := hk n (by omega)
        have q4' : v4 = if m = 0 then 1000 else smS es b (m - 1) n + ftS es b (m - 1) n := by
          rw [q4]
          by_cases hm0 : m = 0
          · rw [if_pos hm0, if_pos hm0]
          · rw [if_neg hm0, if_neg hm0, if_neg (by omega), Nat.add_sub_cancel, hS hm0 n (by omega)]
            rfl
        have q5' : v5 = loV (gA es 90) m (smS es b (m - 1) (n + 1)) := by
          rw [q5]
          unfold loV
          by_cases hm0 : m = 0
          · rw [if_pos hm0, if_pos hm0]
          · rw [if_neg hm0, if_neg hm0, hS hm0 (n + 1) (by omega)]
            rfl
        have q6' : v6 = if twI (gA es 80) (gA es 90) b n = 0 then 1000 else rwS es b m n + (gA es 90 7).toInt := by
          rw [q6, if_neg (by omega), Nat.add_sub_cancel, ← hk']
          rfl
        rw [q4', q5', q6']
        rfl
    · rw [jx] at e10
      refine go v9 _ _ (by omega) ?_ e10
      have hn0 : n = 0 := by omega
      have hm0 : m = 0 := by omega
      subst hn0
      unfold rwS
      rw [rowF, if_pos hm0, f9]
      rfl
theorem sums_spec {b m : Int} (hs : sh es) (hb : 0 ≤ b ∧ b ≤ 2) (hm : 0 ≤ m ∧ m ≤ 30) (hT : hOK tT es) (K : ∀ es', sumsP b m es es' → Q (.inl none, es', kc, ks)) :
    aW O (d + 4) 236 kc ks Q (0, [some (.ref 143), some (.int (zI b)), some (.int (zI m)), none, none], [], es) := by
  obtain ⟨b, rfl⟩ := Int.eq_ofNat_of_zero_le hb.1
  obtain ⟨m, rfl⟩ := Int.eq_ofNat_of_zero_le hm.1
  refine s_sums0 (d := d + 4) hs hb hm hT ?_
  exact sums_loop (b := b) (m := m) (by omega) (by omega) hT (fun es' h => K es' (by unfold sumsP; simp only [Int.toNat_natCast]; exact h)) _ 0 es none (Nat.zero_add _) hT (fr_refl _ _) (fun k hk => absurd hk (by omega))
end
