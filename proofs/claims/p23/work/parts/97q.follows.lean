/-! follows: the first reading's rows once more, and the way back through them -/
def frFo : List aMod := [(91, 0, 0, 31), (92, 0, 0, 2232), (93, 0, 0, 2232), (94, 0, 0, 2325), (87, 0, 0, 1116), (102, 0, 0, 24), (103, 0, 0, 30)]
def followsN (es es' : PH) : Prop := sh es' ∧ hOK tT es' ∧ fr frFo es es'
theorem sums_T {O : pOut} {d kc ks : Nat} {Q : pRes → Prop} {es : PH} {b m : Int} (hs : sh es) (hT : hOK tT es) (hb : 0 ≤ b ∧ b ≤ 2) (hm : 0 ≤ m ∧ m ≤ 30) (K : ∀ es', sumsP b m es es' → Q (.inl none, es', kc, ks)) :
    aW O (d + 4) 236 kc ks Q (0, [some (.ref 143), some (.int (zI b)), some (.int (zI m)), none, none], [], es) := sums_spec hs hb hm hT K
theorem s_fo0 {O : pOut} {d kc ks : Nat} {Q : pRes → Prop} {es : PH} {b : Int} (hs_es : sh es) (hb : 0 ≤ b ∧ b ≤ 2) (hT_es : hOK tT es)
    (K1 : ∀ es1 : PH, beginsT  es es1 → ∀ es2 : PH, sumsP b 0 es1 es2 → aW O (d + 5) 261 kc ks Q (12, [some (.ref 143), some (.int (zI b)), some (.int (zI 0)), none, none], [], es2)) :
    aW O (d + 5) 261 kc ks Q (0, [some (.ref 143), some (.int (zI b)), none, none, none], [], es) := by
  refine x0 (r := (1, [some (.ref 143), some (.int (zI b)), none, none, none], [.ref 143], es)) i_261_0 rfl ?_
  refine x_call (vs := [.ref 143]) (rs := []) i_261_1 rfl (fun _ => rfl) rfl rfl rfl rfl rfl (pCall_v (p := 79) hs_es rfl rfl rfl rfl rfl (by decide) rfl rfl rfl rfl rfl) ?_
  show aW _ _ _ _ _ _ (0, [some (.ref 143), none], [], es)
  refine begins_T hs_es hT_es (fun es1 p_es1 => ?_)
  have hs_es1 : sh es1 := p_es1.1
  have hT_es1 : hOK tT es1 := p_es1.2.1
  show aW _ _ _ _ _ _ (4, [some (.ref 143), some (.int (zI b)), none, none, none], [], es1)
  refine x0 (r := (5, [some (.ref 143), some (.int (zI b)), none, none, none], [.ref 143], es1)) i_261_4 rfl ?_
  refine x0 (r := (6, [some (.ref 143), some (.int (zI b)), none, none, none], [.int (zI b), .ref 143], es1)) i_261_5 rfl ?_
  refine x0 (r := (7, [some (.ref 143), some (.int (zI b)), none, none, none], [.int (zI 0), .int (zI b), .ref 143], es1)) i_261_6 (by rfl) ?_
  refine x_call (vs := [.ref 143, .int (zI b), .int (zI 0)]) (rs := []) i_261_7 rfl (fun _ => rfl) rfl rfl rfl rfl rfl (pCall_v (p := 79) hs_es1 rfl rfl rfl rfl rfl (by decide) rfl rfl rfl rfl rfl) ?_
  show aW _ _ _ _ _ _ (0, [some (.ref 143), some (.int (zI b)), some (.int (zI 0)), none, none], [], es1)
  refine sums_T hs_es1 hT_es1 (by omega) (by omega) (fun es2 p_es2 => ?_)
  have hs_es2 : sh es2 := p_es2.1
  have hT_es2 : hOK tT es2 := p_es2.2.1
  show aW _ _ _ _ _ _ (10, [some (.ref 143), some (.int (zI b)), none, none, none], [], es2)
  refine x0 (r := (11, [some (.ref 143), some (.int (zI b)), none, none, none], [.int (zI 0)], es2)) i_261_10 (by rfl) ?_
  refine x0 (r := (12, [some (.ref 143), some (.int (zI b)), some (.int (zI 0)), none, none], [], es2)) i_261_11 rfl ?_
  exact K1 es1 p_es1 es2 p_es2

theorem s_fo12 {O : pOut} {d kc ks : Nat} {Q : pRes → Prop} {es : PH} {b m : Int} {x3 x4 : Option Value} (hs_es : sh es) (hb : 0 ≤ b ∧ b ≤ 2) (hm : 0 ≤ m ∧ m ≤ 30) (hx : m ≤ 29 → 0 ≤ (gA es 98 m.toNat).toInt ∧ (gA es 98 m.toNat).toInt ≤ 1295) (hL : (gI es 79 41).toInt ≤ 30) (hT_es : hOK tT es)
    (K1 : ∀ v1 : Int, v1 = (gI es 79 41).toInt → v1 ≤ m → aW O d 261 kc ks Q (81, [some (.ref 143), some (.int (zI b)), some (.int (zI m)), x3, x4], [], es))
    (K2 : ∀ v1 : Int, v1 = (gI es 79 41).toInt → ¬ (v1 ≤ m) → ∀ v3 : Int, v3 = (gA es 98 m.toNat).toInt → ∀ es4 : PH, es4 = sA es 91 m.toNat (zI v3) → aW O d 261 kc ks Q (32, [some (.ref 143), some (.int (zI b)), some (.int (zI m)), x3, x4], [], es4)) :
    aW O d 261 kc ks Q (12, [some (.ref 143), some (.int (zI b)), some (.int (zI m)), x3, x4], [], es) := by
  refine x0 (r := (13, [some (.ref 143), some (.int (zI b)), some (.int (zI m)), x3, x4], [.int (zI m)], es)) i_261_12 rfl ?_
  refine x0 (r := (14, [some (.ref 143), some (.int (zI b)), some (.int (zI m)), x3, x4], [.ref 143, .int (zI m)], es)) i_261_13 rfl ?_
  refine x_geti (p := 79) i_261_14 hs_es rfl rfl ?_
  obtain ⟨v1, e_v1⟩ : ∃ z : Int, z = (gI es 79 41).toInt := ⟨_, rfl⟩
  rw [← e_v1]
  have r_v1 : iLO ≤ v1 ∧ v1 ≤ iHI := by rw [e_v1]; exact i32_rng _
  unfold iLO iHI at r_v1
  have b_v1 : (0 : Int) ≤ v1 ∧ v1 ≤ (30 : Int) := by rw [e_v1]; exact gI_bd hT_es (p := 79) (b := 41) rfl rfl
  by_cases c2 : v1 ≤ m
  · refine x_cmpT i_261_17 (by unfold i32 iLO iHI; omega) (by unfold i32 iLO iHI; omega) rfl (by simp only [zC, cR]; omega) ?_
    exact K1 v1 e_v1 c2
  · refine x_cmpF i_261_17 (by unfold i32 iLO iHI; omega) (by unfold i32 iLO iHI; omega) rfl (by simp only [zC, cR]; omega) ?_
    refine x0 (r := (21, [some (.ref 143), some (.int (zI b)), some (.int (zI m)), x3, x4], [.ref 143], es)) i_261_20 rfl ?_
    refine x_getr (p := 79) (k := 155) i_261_21 hs_es rfl rfl ?_
    show aW _ _ _ _ _ _ (24, [some (.ref 143), some (.int (zI b)), some (.int (zI m)), x3, x4], [.ref 155], es)
    refine x0 (r := (25, [some (.ref 143), some (.int (zI b)), some (.int (zI m)), x3, x4], [.int (zI m), .ref 155], es)) i_261_24 rfl ?_
    refine x0 (r := (26, [some (.ref 143), some (.int (zI b)), some (.int (zI m)), x3, x4], [.ref 143, .int (zI m), .ref 155], es)) i_261_25 rfl ?_
    refine x_getr (p := 79) (k := 162) i_261_26 hs_es rfl rfl ?_
    show aW _ _ _ _ _ _ (29, [some (.ref 143), some (.int (zI b)), some (.int (zI m)), x3, x4], [.ref 162, .int (zI m), .ref 155], es)
    refine x0 (r := (30, [some (.ref 143), some (.int (zI b)), some (.int (zI m)), x3, x4], [.int (zI m), .ref 162, .int (zI m), .ref 155], es)) i_261_29 rfl ?_
    refine x_iald (p := 98) i_261_30 hs_es rfl (by unfold i32 iLO iHI; omega) (by omega) (by omega) ?_
    obtain ⟨v3, e_v3⟩ : ∃ z : Int, z = (gA es 98 m.toNat).toInt := ⟨_, rfl⟩
    rw [← e_v3]
    have r_v3 : iLO ≤ v3 ∧ v3 ≤ iHI := by rw [e_v3]; exact i32_rng _
    unfold iLO iHI at r_v3
    have b_v3 : (0 : Int) ≤ v3 ∧ v3 ≤ (1295 : Int) := by rw [e_v3]; exact gA_bd hT_es (p := 98) (k := m.toNat) rfl (by omega) (by decide)
    refine x_iast (p := 91) i_261_31 hs_es rfl (by unfold i32 iLO iHI; omega) (by omega) (by omega) ?_
    obtain ⟨es4, e_es4⟩ : ∃ z : PH, z = sA es 91 m.toNat (zI v3) := ⟨_, rfl⟩
    have hs_es4 : sh es4 := by rw [e_es4]; exact sh_sA hs_es
    have hT_es4 : hOK tT es4 := by rw [e_es4]; exact hOK_sA hT_es (p := 91) (n := 31) rfl (fun _ => by rw [zI_toInt (by unfold i32 iLO iHI; omega)]; exact ⟨by show (0 : Int) ≤ v3; omega, by show v3 ≤ (1295 : Int); omega⟩)
    rw [← e_es4]
    exact K2 v1 e_v1 c2 v3 e_v3 es4 e_es4

theorem s_fo32 {O : pOut} {d kc ks : Nat} {Q : pRes → Prop} {es : PH} {b m : Int} {x3 x4 : Option Value} (hs_es : sh es) (hb : 0 ≤ b ∧ b ≤ 2) (hm : 0 ≤ m ∧ m ≤ 29) (hT_es : hOK tT es)
    (K1 : ∀ v1 : Int, v1 = (gA es 98 m.toNat).toInt → ∀ es2 : PH, makesT m v1 es es2 → aW O (d + 2) 261 kc ks Q (45, [some (.ref 143), some (.int (zI b)), some (.int (zI m)), some (.int (zI 0)), x4], [], es2)) :
    aW O (d + 2) 261 kc ks Q (32, [some (.ref 143), some (.int (zI b)), some (.int (zI m)), x3, x4], [], es) := by
  refine x0 (r := (33, [some (.ref 143), some (.int (zI b)), some (.int (zI m)), x3, x4], [.ref 143], es)) i_261_32 rfl ?_
  refine x0 (r := (34, [some (.ref 143), some (.int (zI b)), some (.int (zI m)), x3, x4], [.int (zI m), .ref 143], es)) i_261_33 rfl ?_
  refine x0 (r := (35, [some (.ref 143), some (.int (zI b)), some (.int (zI m)), x3, x4], [.ref 143, .int (zI m), .ref 143], es)) i_261_34 rfl ?_
  refine x_getr (p := 79) (k := 162) i_261_35 hs_es rfl rfl ?_
  show aW _ _ _ _ _ _ (38, [some (.ref 143), some (.int (zI b)), some (.int (zI m)), x3, x4], [.ref 162, .int (zI m), .ref 143], es)
  refine x0 (r := (39, [some (.ref 143), some (.int (zI b)), some (.int (zI m)), x3, x4], [.int (zI m), .ref 162, .int (zI m), .ref 143], es)) i_261_38 rfl ?_
  refine x_iald (p := 98) i_261_39 hs_es rfl (by unfold i32 iLO iHI; omega) (by omega) (by omega) ?_
  obtain ⟨v1, e_v1⟩ : ∃ z : Int, z = (gA es 98 m.toNat).toInt := ⟨_, rfl⟩
  rw [← e_v1]
  have r_v1 : iLO ≤ v1 ∧ v1 ≤ iHI := by rw [e_v1]; exact i32_rng _
  unfold iLO iHI at r_v1
  have b_v1 : (0 : Int) ≤ v1 ∧ v1 ≤ (1295 : Int) := by rw [e_v1]; exact gA_bd hT_es (p := 98) (k := m.toNat) rfl (by omega) (by decide)
  refine x_call (vs := [.ref 143, .int (zI m), .int (zI v1)]) (rs := []) i_261_40 rfl (fun _ => rfl) rfl rfl rfl rfl rfl (pCall_v (p := 79) hs_es rfl rfl rfl rfl rfl (by decide) rfl rfl rfl rfl rfl) ?_
  show aW _ _ _ _ _ _ (0, [some (.ref 143), some (.int (zI m)), some (.int (zI v1)), none], [], es)
  refine makes_T hs_es hT_es (by omega) (by omega) (fun es2 p_es2 => ?_)
  have hs_es2 : sh es2 := p_es2.1
  have hT_es2 : hOK tT es2 := p_es2.2.1
  show aW _ _ _ _ _ _ (43, [some (.ref 143), some (.int (zI b)), some (.int (zI m)), x3, x4], [], es2)
  refine x0 (r := (44, [some (.ref 143), some (.int (zI b)), some (.int (zI m)), x3, x4], [.int (zI 0)], es2)) i_261_43 (by rfl) ?_
  refine x0 (r := (45, [some (.ref 143), some (.int (zI b)), some (.int (zI m)), some (.int (zI 0)), x4], [], es2)) i_261_44 rfl ?_
  exact K1 v1 e_v1 es2 p_es2

theorem s_fo45 {O : pOut} {d kc ks : Nat} {Q : pRes → Prop} {es : PH} {b m n : Int} {x4 : Option Value} (hs_es : sh es) (hb : 0 ≤ b ∧ b ≤ 2) (hm : 0 ≤ m ∧ m ≤ 29) (hn : 0 ≤ n ∧ n ≤ 24) (hN : 0 ≤ (gA es 80 ((119 + (98 * b)) + 1).toNat).toInt ∧ (gA es 80 ((119 + (98 * b)) + 1).toNat).toInt ≤ 24) (hT_es : hOK tT es)
    (K1 : ∀ v1 : Int, v1 = (gA es 80 ((119 + (98 * b)) + 1).toNat).toInt → v1 ≤ n → ∀ es3 : PH, sumsP b (m + 1) es es3 → aW O (d + 5) 261 kc ks Q (12, [some (.ref 143), some (.int (zI b)), some (.int (zI (m + 1))), some (.int (zI n)), x4], [], es3))
    (K2 : ∀ v1 : Int, v1 = (gA es 80 ((119 + (98 * b)) + 1).toNat).toInt → ¬ (v1 ≤ n) → ∀ es4 : PH, triesZ m b n es es4 → aW O (d + 5) 261 kc ks Q (45, [some (.ref 143), some (.int (zI b)), some (.int (zI m)), some (.int (zI (n + 1))), x4], [], es4)) :
    aW O (d + 5) 261 kc ks Q (45, [some (.ref 143), some (.int (zI b)), some (.int (zI m)), some (.int (zI n)), x4], [], es) := by
  refine x0 (r := (46, [some (.ref 143), some (.int (zI b)), some (.int (zI m)), some (.int (zI n)), x4], [.int (zI n)], es)) i_261_45 rfl ?_
  refine x0 (r := (47, [some (.ref 143), some (.int (zI b)), some (.int (zI m)), some (.int (zI n)), x4], [.ref 143, .int (zI n)], es)) i_261_46 rfl ?_
  refine x0 (r := (48, [some (.ref 143), some (.int (zI b)), some (.int (zI m)), some (.int (zI n)), x4], [.int (zI b), .ref 143, .int (zI n)], es)) i_261_47 rfl ?_
  refine x_call (vs := [.ref 143, .int (zI b)]) (rs := [.int (zI n)]) i_261_48 rfl (fun _ => rfl) rfl rfl rfl rfl rfl (pCall_v (p := 79) hs_es rfl rfl rfl rfl rfl (by decide) rfl rfl rfl rfl rfl) ?_
  show aW _ _ _ _ _ _ (0, [some (.ref 143), some (.int (zI b))], [], es)
  refine x0 (r := (1, [some (.ref 143), some (.int (zI b))], [.ref 143], es)) i_205_0 rfl ?_
  refine x0 (r := (2, [some (.ref 143), some (.int (zI b))], [.int (zI b), .ref 143], es)) i_205_1 rfl ?_
  refine x0 (r := (3, [some (.ref 143), some (.int (zI b))], [.int (zI 1), .int (zI b), .ref 143], es)) i_205_2 (by rfl) ?_
  refine x_call (vs := [.ref 143, .int (zI b), .int (zI 1)]) (rs := []) i_205_3 rfl (fun _ => rfl) rfl rfl rfl rfl rfl (pCall_v (p := 79) hs_es rfl rfl rfl rfl rfl (by decide) rfl rfl rfl rfl rfl) ?_
  show aW _ _ _ _ _ _ (0, [some (.ref 143), some (.int (zI b)), some (.int (zI 1))], [], es)
  refine x0 (r := (1, [some (.ref 143), some (.int (zI b)), some (.int (zI 1))], [.ref 143], es)) i_206_0 rfl ?_
  refine x_getr (p := 79) (k := 144) i_206_1 hs_es rfl rfl ?_
  show aW _ _ _ _ _ _ (4, [some (.ref 143), some (.int (zI b)), some (.int (zI 1))], [.ref 144], es)
  refine x0 (r := (6, [some (.ref 143), some (.int (zI b)), some (.int (zI 1))], [.int (zI 119), .ref 144], es)) i_206_4 (by rfl) ?_
  refine x0 (r := (8, [some (.ref 143), some (.int (zI b)), some (.int (zI 1))], [.int (zI 98), .int (zI 119), .ref 144], es)) i_206_6 (by rfl) ?_
  refine x0 (r := (9, [some (.ref 143), some (.int (zI b)), some (.int (zI 1))], [.int (zI b), .int (zI 98), .int (zI 119), .ref 144], es)) i_206_8 rfl ?_
  refine x_imul i_206_9 ?_
  refine x_iadd i_206_10 ?_
  refine x0 (r := (12, [some (.ref 143), some (.int (zI b)), some (.int (zI 1))], [.int (zI 1), .int (zI (119 + (98 * b))), .ref 144], es)) i_206_11 rfl ?_
  refine x_iadd i_206_12 ?_
  refine x_iald (p := 80) i_206_13 hs_es rfl (by unfold i32 iLO iHI; omega) (by omega) (by omega) ?_
  obtain ⟨v1, e_v1⟩ : ∃ z : Int, z = (gA es 80 ((119 + (98 * b)) + 1).toNat).toInt := ⟨_, rfl⟩
  rw [← e_v1]
  have r_v1 : iLO ≤ v1 ∧ v1 ≤ iHI := by rw [e_v1]; exact i32_rng _
  unfold iLO iHI at r_v1
  refine x_ret (v := some (.int (zI v1))) i_206_14 rfl (fun _ => rfl) rfl rfl rfl ?_
  show aW _ _ _ _ _ _ (6, [some (.ref 143), some (.int (zI b))], [.int (zI v1)], es)
  refine x_ret (v := some (.int (zI v1))) i_205_6 rfl (fun _ => rfl) rfl rfl rfl ?_
  show aW _ _ _ _ _ _ (51, [some (.ref 143), some (.int (zI b)), some (.int (zI m)), some (.int (zI n)), x4], [.int (zI v1), .int (zI n)], es)
  by_cases c2 : v1 ≤ n
  · refine x_cmpT i_261_51 (by unfold i32 iLO iHI; omega) (by unfold i32 iLO iHI; omega) rfl (by simp only [zC, cR]; omega) ?_
    refine x0 (r := (68, [some (.ref 143), some (.int (zI b)), some (.int (zI m)), some (.int (zI n)), x4], [.ref 143], es)) i_261_67 rfl ?_
    refine x0 (r := (69, [some (.ref 143), some (.int (zI b)), some (.int (zI m)), some (.int (zI n)), x4], [.int (zI b), .ref 143], es)) i_261_68 rfl ?_
    refine x0 (r := (70, [some (.ref 143), some (.int (zI b)), some (.int (zI m)), some (.int (zI n)), x4], [.int (zI m), .int (zI b), .ref 143], es)) i_261_69 rfl ?_
    refine x0 (r := (71, [some (.ref 143), some (.int (zI b)), some (.int (zI m)), some (.int (zI n)), x4], [.int (zI 1), .int (zI m), .int (zI b), .ref 143], es)) i_261_70 (by rfl) ?_
    refine x_iadd i_261_71 ?_
    refine x_call (vs := [.ref 143, .int (zI b), .int (zI (m + 1))]) (rs := []) i_261_72 rfl (fun _ => rfl) rfl rfl rfl rfl rfl (pCall_v (p := 79) hs_es rfl rfl rfl rfl rfl (by decide) rfl rfl rfl rfl rfl) ?_
    show aW _ _ _ _ _ _ (0, [some (.ref 143), some (.int (zI b)), some (.int (zI (m + 1))), none, none], [], es)
    refine sums_T hs_es hT_es (by omega) (by omega) (fun es3 p_es3 => ?_)
    have hs_es3 : sh es3 := p_es3.1
    have hT_es3 : hOK tT es3 := p_es3.2.1
    show aW _ _ _ _ _ _ (75, [some (.ref 143), some (.int (zI b)), some (.int (zI m)), some (.int (zI n)), x4], [], es3)
    refine x_iinc (x := m) i_261_75 rfl (by show 2 < 5; decide) ?_
    show aW _ _ _ _ _ _ (78, [some (.ref 143), some (.int (zI b)), some (.int (zI (m + 1))), some (.int (zI n)), x4], [], es3)
    refine x0 (r := (12, [some (.ref 143), some (.int (zI b)), some (.int (zI (m + 1))), some (.int (zI n)), x4], [], es3)) i_261_78 rfl ?_
    exact K1 v1 e_v1 c2 es3 p_es3
  · refine x_cmpF i_261_51 (by unfold i32 iLO iHI; omega) (by unfold i32 iLO iHI; omega) rfl (by simp only [zC, cR]; omega) ?_
    refine x0 (r := (55, [some (.ref 143), some (.int (zI b)), some (.int (zI m)), some (.int (zI n)), x4], [.ref 143], es)) i_261_54 rfl ?_
    refine x0 (r := (56, [some (.ref 143), some (.int (zI b)), some (.int (zI m)), some (.int (zI n)), x4], [.int (zI m), .ref 143], es)) i_261_55 rfl ?_
    refine x0 (r := (57, [some (.ref 143), some (.int (zI b)), some (.int (zI m)), some (.int (zI n)), x4], [.int (zI b), .int (zI m), .ref 143], es)) i_261_56 rfl ?_
    refine x0 (r := (58, [some (.ref 143), some (.int (zI b)), some (.int (zI m)), some (.int (zI n)), x4], [.int (zI n), .int (zI b), .int (zI m), .ref 143], es)) i_261_57 rfl ?_
    refine x_call (vs := [.ref 143, .int (zI m), .int (zI b), .int (zI n)]) (rs := []) i_261_58 rfl (fun _ => rfl) rfl rfl rfl rfl rfl (pCall_v (p := 79) hs_es rfl rfl rfl rfl rfl (by decide) rfl rfl rfl rfl rfl) ?_
    show aW _ _ _ _ _ _ (0, [some (.ref 143), some (.int (zI m)), some (.int (zI b)), some (.int (zI n)), none, none, none, none, none, none, none, none, none, none], [], es)
    refine tries_T hs_es hT_es (by omega) (by omega) (by omega) (fun es4 p_es4 => ?_)
    have hs_es4 : sh es4 := p_es4.1
    have hT_es4 : hOK tT es4 := p_es4.2.1
    show aW _ _ _ _ _ _ (61, [some (.ref 143), some (.int (zI b)), some (.int (zI m)), some (.int (zI n)), x4], [], es4)
    refine x_iinc (x := n) i_261_61 rfl (by show 3 < 5; decide) ?_
    show aW _ _ _ _ _ _ (64, [some (.ref 143), some (.int (zI b)), some (.int (zI m)), some (.int (zI (n + 1))), x4], [], es4)
    refine x0 (r := (45, [some (.ref 143), some (.int (zI b)), some (.int (zI m)), some (.int (zI (n + 1))), x4], [], es4)) i_261_64 rfl ?_
    exact K2 v1 e_v1 c2 es4 p_es4

theorem s_fo81 {O : pOut} {d kc ks : Nat} {Q : pRes → Prop} {es : PH} {b m : Int} {x3 x4 : Option Value} (hs_es : sh es) (hb : 0 ≤ b ∧ b ≤ 2) (hT_es : hOK tT es)
    (K1 : ∀ v1 : Int, v1 = (gI es 79 41).toInt → ∀ v2 : Int, v2 = (gA es 80 ((119 + (98 * b)) + 1).toNat).toInt → aW O (d + 2) 261 kc ks Q (92, [some (.ref 143), some (.int (zI b)), some (.int (zI v1)), some (.int (zI v2)), x4], [], es)) :
    aW O (d + 2) 261 kc ks Q (81, [some (.ref 143), some (.int (zI b)), some (.int (zI m)), x3, x4], [], es) := by
  refine x0 (r := (82, [some (.ref 143), some (.int (zI b)), some (.int (zI m)), x3, x4], [.ref 143], es)) i_261_81 rfl ?_
  refine x_geti (p := 79) i_261_82 hs_es rfl rfl ?_
  obtain ⟨v1, e_v1⟩ : ∃ z : Int, z = (gI es 79 41).toInt := ⟨_, rfl⟩
  rw [← e_v1]
  have r_v1 : iLO ≤ v1 ∧ v1 ≤ iHI := by rw [e_v1]; exact i32_rng _
  unfold iLO iHI at r_v1
  have b_v1 : (0 : Int) ≤ v1 ∧ v1 ≤ (30 : Int) := by rw [e_v1]; exact gI_bd hT_es (p := 79) (b := 41) rfl rfl
  refine x0 (r := (86, [some (.ref 143), some (.int (zI b)), some (.int (zI v1)), x3, x4], [], es)) i_261_85 rfl ?_
  refine x0 (r := (87, [some (.ref 143), some (.int (zI b)), some (.int (zI v1)), x3, x4], [.ref 143], es)) i_261_86 rfl ?_
  refine x0 (r := (88, [some (.ref 143), some (.int (zI b)), some (.int (zI v1)), x3, x4], [.int (zI b), .ref 143], es)) i_261_87 rfl ?_
  refine x_call (vs := [.ref 143, .int (zI b)]) (rs := []) i_261_88 rfl (fun _ => rfl) rfl rfl rfl rfl rfl (pCall_v (p := 79) hs_es rfl rfl rfl rfl rfl (by decide) rfl rfl rfl rfl rfl) ?_
  show aW _ _ _ _ _ _ (0, [some (.ref 143), some (.int (zI b))], [], es)
  refine x0 (r := (1, [some (.ref 143), some (.int (zI b))], [.ref 143], es)) i_205_0 rfl ?_
  refine x0 (r := (2, [some (.ref 143), some (.int (zI b))], [.int (zI b), .ref 143], es)) i_205_1 rfl ?_
  refine x0 (r := (3, [some (.ref 143), some (.int (zI b))], [.int (zI 1), .int (zI b), .ref 143], es)) i_205_2 (by rfl) ?_
  refine x_call (vs := [.ref 143, .int (zI b), .int (zI 1)]) (rs := []) i_205_3 rfl (fun _ => rfl) rfl rfl rfl rfl rfl (pCall_v (p := 79) hs_es rfl rfl rfl rfl rfl (by decide) rfl rfl rfl rfl rfl) ?_
  show aW _ _ _ _ _ _ (0, [some (.ref 143), some (.int (zI b)), some (.int (zI 1))], [], es)
  refine x0 (r := (1, [some (.ref 143), some (.int (zI b)), some (.int (zI 1))], [.ref 143], es)) i_206_0 rfl ?_
  refine x_getr (p := 79) (k := 144) i_206_1 hs_es rfl rfl ?_
  show aW _ _ _ _ _ _ (4, [some (.ref 143), some (.int (zI b)), some (.int (zI 1))], [.ref 144], es)
  refine x0 (r := (6, [some (.ref 143), some (.int (zI b)), some (.int (zI 1))], [.int (zI 119), .ref 144], es)) i_206_4 (by rfl) ?_
  refine x0 (r := (8, [some (.ref 143), some (.int (zI b)), some (.int (zI 1))], [.int (zI 98), .int (zI 119), .ref 144], es)) i_206_6 (by rfl) ?_
  refine x0 (r := (9, [some (.ref 143), some (.int (zI b)), some (.int (zI 1))], [.int (zI b), .int (zI 98), .int (zI 119), .ref 144], es)) i_206_8 rfl ?_
  refine x_imul i_206_9 ?_
  refine x_iadd i_206_10 ?_
  refine x0 (r := (12, [some (.ref 143), some (.int (zI b)), some (.int (zI 1))], [.int (zI 1), .int (zI (119 + (98 * b))), .ref 144], es)) i_206_11 rfl ?_
  refine x_iadd i_206_12 ?_
  refine x_iald (p := 80) i_206_13 hs_es rfl (by unfold i32 iLO iHI; omega) (by omega) (by omega) ?_
  obtain ⟨v2, e_v2⟩ : ∃ z : Int, z = (gA es 80 ((119 + (98 * b)) + 1).toNat).toInt := ⟨_, rfl⟩
  rw [← e_v2]
  have r_v2 : iLO ≤ v2 ∧ v2 ≤ iHI := by rw [e_v2]; exact i32_rng _
  unfold iLO iHI at r_v2
  refine x_ret (v := some (.int (zI v2))) i_206_14 rfl (fun _ => rfl) rfl rfl rfl ?_
  show aW _ _ _ _ _ _ (6, [some (.ref 143), some (.int (zI b))], [.int (zI v2)], es)
  refine x_ret (v := some (.int (zI v2))) i_205_6 rfl (fun _ => rfl) rfl rfl rfl ?_
  show aW _ _ _ _ _ _ (91, [some (.ref 143), some (.int (zI b)), some (.int (zI v1)), x3, x4], [.int (zI v2)], es)
  refine x0 (r := (92, [some (.ref 143), some (.int (zI b)), some (.int (zI v1)), some (.int (zI v2)), x4], [], es)) i_261_91 rfl ?_
  exact K1 v1 e_v1 v2 e_v2

theorem s_fo92 {O : pOut} {d kc ks : Nat} {Q : pRes → Prop} {es : PH} {b m n : Int} {x4 : Option Value} (hs_es : sh es) (hb : 0 ≤ b ∧ b ≤ 2) (hm : 0 ≤ m ∧ m ≤ 30) (hn : 0 ≤ n ∧ n ≤ 24) (hT_es : hOK tT es)
    (K1 : (m + n) ≤ 0 → Q (.inl (none), es, kc, ks))
    (K2 : ¬ ((m + n) ≤ 0) → ∀ v2 : Int, v2 = (gA es 94 ((25 * ((31 * b) + m)) + n).toNat).toInt → ∀ v3 : Int, mvP m n b es v3 → v2 ≠ v3 → ∀ v5 : Int, loP m n b es v5 → v2 ≠ v5 → aW O (d + 2) 261 kc ks Q (181, [some (.ref 143), some (.int (zI b)), some (.int (zI m)), some (.int (zI n)), some (.int (zI v2))], [], es))
    (K3 : ¬ ((m + n) ≤ 0) → ∀ v2 : Int, v2 = (gA es 94 ((25 * ((31 * b) + m)) + n).toNat).toInt → ∀ v3 : Int, mvP m n b es v3 → v2 ≠ v3 → ∀ v5 : Int, loP m n b es v5 → ¬ (v2 ≠ v5) → aW O (d + 2) 261 kc ks Q (168, [some (.ref 143), some (.int (zI b)), some (.int (zI m)), some (.int (zI n)), some (.int (zI v2))], [], es))
    (K4 : ¬ ((m + n) ≤ 0) → ∀ v2 : Int, v2 = (gA es 94 ((25 * ((31 * b) + m)) + n).toNat).toInt → ∀ v3 : Int, mvP m n b es v3 → ¬ (v2 ≠ v3) → aW O (d + 2) 261 kc ks Q (123, [some (.ref 143), some (.int (zI b)), some (.int (zI m)), some (.int (zI n)), some (.int (zI v2))], [], es)) :
    aW O (d + 2) 261 kc ks Q (92, [some (.ref 143), some (.int (zI b)), some (.int (zI m)), some (.int (zI n)), x4], [], es) := by
  refine x0 (r := (93, [some (.ref 143), some (.int (zI b)), some (.int (zI m)), some (.int (zI n)), x4], [.int (zI m)], es)) i_261_92 rfl ?_
  refine x0 (r := (94, [some (.ref 143), some (.int (zI b)), some (.int (zI m)), some (.int (zI n)), x4], [.int (zI n), .int (zI m)], es)) i_261_93 rfl ?_
  refine x_iadd i_261_94 ?_
  by_cases c1 : (m + n) ≤ 0
  · refine x_ifT i_261_95 (by unfold i32 iLO iHI; omega) rfl (by simp only [zC, cR]; omega) ?_
    refine x_ret (v := none) i_261_195 rfl (fun _ => rfl) rfl rfl rfl ?_
    exact K1 c1
  · refine x_ifF i_261_95 (by unfold i32 iLO iHI; omega) rfl (by simp only [zC, cR]; omega) ?_
    refine x0 (r := (99, [some (.ref 143), some (.int (zI b)), some (.int (zI m)), some (.int (zI n)), x4], [.ref 143], es)) i_261_98 rfl ?_
    refine x_getr (p := 79) (k := 158) i_261_99 hs_es rfl rfl ?_
    show aW _ _ _ _ _ _ (102, [some (.ref 143), some (.int (zI b)), some (.int (zI m)), some (.int (zI n)), x4], [.ref 158], es)
    refine x0 (r := (103, [some (.ref 143), some (.int (zI b)), some (.int (zI m)), some (.int (zI n)), x4], [.int (zI b), .ref 158], es)) i_261_102 rfl ?_
    refine x0 (r := (104, [some (.ref 143), some (.int (zI b)), some (.int (zI m)), some (.int (zI n)), x4], [.int (zI m), .int (zI b), .ref 158], es)) i_261_103 rfl ?_
    refine x0 (r := (105, [some (.ref 143), some (.int (zI b)), some (.int (zI m)), some (.int (zI n)), x4], [.int (zI n), .int (zI m), .int (zI b), .ref 158], es)) i_261_104 rfl ?_
    refine x_call (vs := [.int (zI b), .int (zI m), .int (zI n)]) (rs := [.ref 158]) i_261_105 rfl (fun _ => rfl) rfl rfl rfl rfl rfl rfl ?_
    show aW _ _ _ _ _ _ (0, [some (.int (zI b)), some (.int (zI m)), some (.int (zI n))], [], es)
    refine x0 (r := (2, [some (.int (zI b)), some (.int (zI m)), some (.int (zI n))], [.int (zI 25)], es)) i_238_0 (by rfl) ?_
    refine x0 (r := (4, [some (.int (zI b)), some (.int (zI m)), some (.int (zI n))], [.int (zI 31), .int (zI 25)], es)) i_238_2 (by rfl) ?_
    refine x0 (r := (5, [some (.int (zI b)), some (.int (zI m)), some (.int (zI n))], [.int (zI b), .int (zI 31), .int (zI 25)], es)) i_238_4 rfl ?_
    refine x_imul i_238_5 ?_
    refine x0 (r := (7, [some (.int (zI b)), some (.int (zI m)), some (.int (zI n))], [.int (zI m), .int (zI (31 * b)), .int (zI 25)], es)) i_238_6 rfl ?_
    refine x_iadd i_238_7 ?_
    refine x_imul i_238_8 ?_
    refine x0 (r := (10, [some (.int (zI b)), some (.int (zI m)), some (.int (zI n))], [.int (zI n), .int (zI (25 * ((31 * b) + m)))], es)) i_238_9 rfl ?_
    refine x_iadd i_238_10 ?_
    refine x_ret (v := some (.int (zI ((25 * ((31 * b) + m)) + n)))) i_238_11 rfl (fun _ => rfl) rfl rfl rfl ?_
    show aW _ _ _ _ _ _ (108, [some (.ref 143), some (.int (zI b)), some (.int (zI m)), some (.int (zI n)), x4], [.int (zI ((25 * ((31 * b) + m)) + n)), .ref 158], es)
    refine x_iald (p := 94) i_261_108 hs_es rfl (by unfold i32 iLO iHI; omega) (by omega) (by omega) ?_
    obtain ⟨v2, e_v2⟩ : ∃ z : Int, z = (gA es 94 ((25 * ((31 * b) + m)) + n).toNat).toInt := ⟨_, rfl⟩
    rw [← e_v2]
    have r_v2 : iLO ≤ v2 ∧ v2 ≤ iHI := by rw [e_v2]; exact i32_rng _
    unfold iLO iHI at r_v2
    have b_v2 : (0 : Int) ≤ v2 ∧ v2 ≤ (1000 : Int) := by rw [e_v2]; exact gA_bd hT_es (p := 94) (k := ((25 * ((31 * b) + m)) + n).toNat) rfl (by omega) (by decide)
    refine x0 (r := (111, [some (.ref 143), some (.int (zI b)), some (.int (zI m)), some (.int (zI n)), some (.int (zI v2))], [], es)) i_261_109 rfl ?_
    refine x0 (r := (113, [some (.ref 143), some (.int (zI b)), some (.int (zI m)), some (.int (zI n)), some (.int (zI v2))], [.int (zI v2)], es)) i_261_111 rfl ?_
    refine x0 (r := (114, [some (.ref 143), some (.int (zI b)), some (.int (zI m)), some (.int (zI n)), some (.int (zI v2))], [.ref 143, .int (zI v2)], es)) i_261_113 rfl ?_
    refine x0 (r := (115, [some (.ref 143), some (.int (zI b)), some (.int (zI m)), some (.int (zI n)), some (.int (zI v2))], [.int (zI m), .ref 143, .int (zI v2)], es)) i_261_114 rfl ?_
    refine x0 (r := (116, [some (.ref 143), some (.int (zI b)), some (.int (zI m)), some (.int (zI n)), some (.int (zI v2))], [.int (zI n), .int (zI m), .ref 143, .int (zI v2)], es)) i_261_115 rfl ?_
    refine x0 (r := (117, [some (.ref 143), some (.int (zI b)), some (.int (zI m)), some (.int (zI n)), some (.int (zI v2))], [.int (zI b), .int (zI n), .int (zI m), .ref 143, .int (zI v2)], es)) i_261_116 rfl ?_
    refine x_call (vs := [.ref 143, .int (zI m), .int (zI n), .int (zI b)]) (rs := [.int (zI v2)]) i_261_117 rfl (fun _ => rfl) rfl rfl rfl rfl rfl (pCall_v (p := 79) hs_es rfl rfl rfl rfl rfl (by decide) rfl rfl rfl rfl rfl) ?_
    show aW _ _ _ _ _ _ (0, [some (.ref 143), some (.int (zI m)), some (.int (zI n)), some (.int (zI b))], [], es)
    refine mv_spec hs_es (by omega) (by omega) (by omega) hT_es (fun v3 p_v3 => ?_)
    have r_v3 := p_v3.2
    show aW _ _ _ _ _ _ (120, [some (.ref 143), some (.int (zI b)), some (.int (zI m)), some (.int (zI n)), some (.int (zI v2))], [.int (zI v3), .int (zI v2)], es)
    by_cases c4 : v2 ≠ v3
    · refine x_cmpT i_261_120 (by unfold i32 iLO iHI; omega) (by unfold i32 iLO iHI; omega) rfl (by simp only [zC, cR]; omega) ?_
      refine x0 (r := (158, [some (.ref 143), some (.int (zI b)), some (.int (zI m)), some (.int (zI n)), some (.int (zI v2))], [.int (zI v2)], es)) i_261_156 rfl ?_
      refine x0 (r := (159, [some (.ref 143), some (.int (zI b)), some (.int (zI m)), some (.int (zI n)), some (.int (zI v2))], [.ref 143, .int (zI v2)], es)) i_261_158 rfl ?_
      refine x0 (r := (160, [some (.ref 143), some (.int (zI b)), some (.int (zI m)), some (.int (zI n)), some (.int (zI v2))], [.int (zI m), .ref 143, .int (zI v2)], es)) i_261_159 rfl ?_
      refine x0 (r := (161, [some (.ref 143), some (.int (zI b)), some (.int (zI m)), some (.int (zI n)), some (.int (zI v2))], [.int (zI n), .int (zI m), .ref 143, .int (zI v2)], es)) i_261_160 rfl ?_
      refine x0 (r := (162, [some (.ref 143), some (.int (zI b)), some (.int (zI m)), some (.int (zI n)), some (.int (zI v2))], [.int (zI b), .int (zI n), .int (zI m), .ref 143, .int (zI v2)], es)) i_261_161 rfl ?_
      refine x_call (vs := [.ref 143, .int (zI m), .int (zI n), .int (zI b)]) (rs := [.int (zI v2)]) i_261_162 rfl (fun _ => rfl) rfl rfl rfl rfl rfl (pCall_v (p := 79) hs_es rfl rfl rfl rfl rfl (by decide) rfl rfl rfl rfl rfl) ?_
      show aW _ _ _ _ _ _ (0, [some (.ref 143), some (.int (zI m)), some (.int (zI n)), some (.int (zI b))], [], es)
      refine lo_spec hs_es (by omega) (by omega) (by omega) hT_es (fun v5 p_v5 => ?_)
      have r_v5 := p_v5.2
      show aW _ _ _ _ _ _ (165, [some (.ref 143), some (.int (zI b)), some (.int (zI m)), some (.int (zI n)), some (.int (zI v2))], [.int (zI v5), .int (zI v2)], es)
      by_cases c6 : v2 ≠ v5
      · refine x_cmpT i_261_165 (by unfold i32 iLO iHI; omega) (by unfold i32 iLO iHI; omega) rfl (by simp only [zC, cR]; omega) ?_
        exact K2 c1 v2 e_v2 v3 p_v3 c4 v5 p_v5 c6
      · refine x_cmpF i_261_165 (by unfold i32 iLO iHI; omega) (by unfold i32 iLO iHI; omega) rfl (by simp only [zC, cR]; omega) ?_
        exact K3 c1 v2 e_v2 v3 p_v3 c4 v5 p_v5 c6
    · refine x_cmpF i_261_120 (by unfold i32 iLO iHI; omega) (by unfold i32 iLO iHI; omega) rfl (by simp only [zC, cR]; omega) ?_
      exact K4 c1 v2 e_v2 v3 p_v3 c4

theorem s_fo123 {O : pOut} {d kc ks : Nat} {Q : pRes → Prop} {es : PH} {b m n v : Int} (hs_es : sh es) (hb : 0 ≤ b ∧ b ≤ 2) (hm : 1 ≤ m ∧ m ≤ 30) (hn : 1 ≤ n ∧ n ≤ 24) (hT_es : hOK tT es)
    (K1 : ∀ v1 : Int, v1 = (gA es 93 ((((3 * (m + (-1))) + b) * 24) + (n + (-1))).toNat).toInt → ∀ es2 : PH, es2 = sA es 102 (n + (-1)).toNat (zI v1) → ∀ es3 : PH, es3 = sA es2 103 (m + (-1)).toNat (zI (n + (-1))) → aW O (d + 1) 261 kc ks Q (92, [some (.ref 143), some (.int (zI b)), some (.int (zI (m + (-1)))), some (.int (zI (n + (-1)))), some (.int (zI v))], [], es3)) :
    aW O (d + 1) 261 kc ks Q (123, [some (.ref 143), some (.int (zI b)), some (.int (zI m)), some (.int (zI n)), some (.int (zI v))], [], es) := by
  refine x_iinc (x := m) i_261_123 rfl (by show 2 < 5; decide) ?_
  show aW _ _ _ _ _ _ (126, [some (.ref 143), some (.int (zI b)), some (.int (zI (m + (-1)))), some (.int (zI n)), some (.int (zI v))], [], es)
  refine x_iinc (x := n) i_261_126 rfl (by show 3 < 5; decide) ?_
  show aW _ _ _ _ _ _ (129, [some (.ref 143), some (.int (zI b)), some (.int (zI (m + (-1)))), some (.int (zI (n + (-1)))), some (.int (zI v))], [], es)
  refine x0 (r := (130, [some (.ref 143), some (.int (zI b)), some (.int (zI (m + (-1)))), some (.int (zI (n + (-1)))), some (.int (zI v))], [.ref 143], es)) i_261_129 rfl ?_
  refine x_getr (p := 79) (k := 166) i_261_130 hs_es rfl rfl ?_
  show aW _ _ _ _ _ _ (133, [some (.ref 143), some (.int (zI b)), some (.int (zI (m + (-1)))), some (.int (zI (n + (-1)))), some (.int (zI v))], [.ref 166], es)
  refine x0 (r := (134, [some (.ref 143), some (.int (zI b)), some (.int (zI (m + (-1)))), some (.int (zI (n + (-1)))), some (.int (zI v))], [.int (zI (n + (-1))), .ref 166], es)) i_261_133 rfl ?_
  refine x0 (r := (135, [some (.ref 143), some (.int (zI b)), some (.int (zI (m + (-1)))), some (.int (zI (n + (-1)))), some (.int (zI v))], [.ref 143, .int (zI (n + (-1))), .ref 166], es)) i_261_134 rfl ?_
  refine x_getr (p := 79) (k := 157) i_261_135 hs_es rfl rfl ?_
  show aW _ _ _ _ _ _ (138, [some (.ref 143), some (.int (zI b)), some (.int (zI (m + (-1)))), some (.int (zI (n + (-1)))), some (.int (zI v))], [.ref 157, .int (zI (n + (-1))), .ref 166], es)
  refine x0 (r := (139, [some (.ref 143), some (.int (zI b)), some (.int (zI (m + (-1)))), some (.int (zI (n + (-1)))), some (.int (zI v))], [.int (zI (m + (-1))), .ref 157, .int (zI (n + (-1))), .ref 166], es)) i_261_138 rfl ?_
  refine x0 (r := (140, [some (.ref 143), some (.int (zI b)), some (.int (zI (m + (-1)))), some (.int (zI (n + (-1)))), some (.int (zI v))], [.int (zI b), .int (zI (m + (-1))), .ref 157, .int (zI (n + (-1))), .ref 166], es)) i_261_139 rfl ?_
  refine x0 (r := (141, [some (.ref 143), some (.int (zI b)), some (.int (zI (m + (-1)))), some (.int (zI (n + (-1)))), some (.int (zI v))], [.int (zI (n + (-1))), .int (zI b), .int (zI (m + (-1))), .ref 157, .int (zI (n + (-1))), .ref 166], es)) i_261_140 rfl ?_
  refine x_call (vs := [.int (zI (m + (-1))), .int (zI b), .int (zI (n + (-1)))]) (rs := [.ref 157, .int (zI (n + (-1))), .ref 166]) i_261_141 rfl (fun _ => rfl) rfl rfl rfl rfl rfl rfl ?_
  show aW _ _ _ _ _ _ (0, [some (.int (zI (m + (-1)))), some (.int (zI b)), some (.int (zI (n + (-1))))], [], es)
  refine x0 (r := (1, [some (.int (zI (m + (-1)))), some (.int (zI b)), some (.int (zI (n + (-1))))], [.int (zI 3)], es)) i_239_0 (by rfl) ?_
  refine x0 (r := (2, [some (.int (zI (m + (-1)))), some (.int (zI b)), some (.int (zI (n + (-1))))], [.int (zI (m + (-1))), .int (zI 3)], es)) i_239_1 rfl ?_
  refine x_imul i_239_2 ?_
  refine x0 (r := (4, [some (.int (zI (m + (-1)))), some (.int (zI b)), some (.int (zI (n + (-1))))], [.int (zI b), .int (zI (3 * (m + (-1))))], es)) i_239_3 rfl ?_
  refine x_iadd i_239_4 ?_
  refine x0 (r := (7, [some (.int (zI (m + (-1)))), some (.int (zI b)), some (.int (zI (n + (-1))))], [.int (zI 24), .int (zI ((3 * (m + (-1))) + b))], es)) i_239_5 (by rfl) ?_
  refine x_imul i_239_7 ?_
  refine x0 (r := (9, [some (.int (zI (m + (-1)))), some (.int (zI b)), some (.int (zI (n + (-1))))], [.int (zI (n + (-1))), .int (zI (((3 * (m + (-1))) + b) * 24))], es)) i_239_8 rfl ?_
  refine x_iadd i_239_9 ?_
  refine x_ret (v := some (.int (zI ((((3 * (m + (-1))) + b) * 24) + (n + (-1)))))) i_239_10 rfl (fun _ => rfl) rfl rfl rfl ?_
  show aW _ _ _ _ _ _ (144, [some (.ref 143), some (.int (zI b)), some (.int (zI (m + (-1)))), some (.int (zI (n + (-1)))), some (.int (zI v))], [.int (zI ((((3 * (m + (-1))) + b) * 24) + (n + (-1)))), .ref 157, .int (zI (n + (-1))), .ref 166], es)
  refine x_iald (p := 93) i_261_144 hs_es rfl (by unfold i32 iLO iHI; omega) (by omega) (by omega) ?_
  obtain ⟨v1, e_v1⟩ : ∃ z : Int, z = (gA es 93 ((((3 * (m + (-1))) + b) * 24) + (n + (-1))).toNat).toInt := ⟨_, rfl⟩
  rw [← e_v1]
  have r_v1 : iLO ≤ v1 ∧ v1 ≤ iHI := by rw [e_v1]; exact i32_rng _
  unfold iLO iHI at r_v1
  have b_v1 : (0 : Int) ≤ v1 ∧ v1 ≤ (5 : Int) := by rw [e_v1]; exact gA_bd hT_es (p := 93) (k := ((((3 * (m + (-1))) + b) * 24) + (n + (-1))).toNat) rfl (by omega) (by decide)
  refine x_iast (p := 102) i_261_145 hs_es rfl (by unfold i32 iLO iHI; omega) (by omega) (by omega) ?_
  obtain ⟨es2, e_es2⟩ : ∃ z : PH, z = sA es 102 (n + (-1)).toNat (zI v1) := ⟨_, rfl⟩
  have hs_es2 : sh es2 := by rw [e_es2]; exact sh_sA hs_es
  have hT_es2 : hOK tT es2 := by rw [e_es2]; exact hOK_sA hT_es (p := 102) (n := 24) rfl (fun _ => by rw [zI_toInt (by unfold i32 iLO iHI; omega)]; exact ⟨by show (0 : Int) ≤ v1; omega, by show v1 ≤ (7 : Int); omega⟩)
  rw [← e_es2]
  refine x0 (r := (147, [some (.ref 143), some (.int (zI b)), some (.int (zI (m + (-1)))), some (.int (zI (n + (-1)))), some (.int (zI v))], [.ref 143], es2)) i_261_146 rfl ?_
  refine x_getr (p := 79) (k := 167) i_261_147 hs_es2 rfl rfl ?_
  show aW _ _ _ _ _ _ (150, [some (.ref 143), some (.int (zI b)), some (.int (zI (m + (-1)))), some (.int (zI (n + (-1)))), some (.int (zI v))], [.ref 167], es2)
  refine x0 (r := (151, [some (.ref 143), some (.int (zI b)), some (.int (zI (m + (-1)))), some (.int (zI (n + (-1)))), some (.int (zI v))], [.int (zI (m + (-1))), .ref 167], es2)) i_261_150 rfl ?_
  refine x0 (r := (152, [some (.ref 143), some (.int (zI b)), some (.int (zI (m + (-1)))), some (.int (zI (n + (-1)))), some (.int (zI v))], [.int (zI (n + (-1))), .int (zI (m + (-1))), .ref 167], es2)) i_261_151 rfl ?_
  refine x_iast (p := 103) i_261_152 hs_es2 rfl (by unfold i32 iLO iHI; omega) (by omega) (by omega) ?_
  obtain ⟨es3, e_es3⟩ : ∃ z : PH, z = sA es2 103 (m + (-1)).toNat (zI (n + (-1))) := ⟨_, rfl⟩
  have hs_es3 : sh es3 := by rw [e_es3]; exact sh_sA hs_es2
  have hT_es3 : hOK tT es3 := by rw [e_es3]; exact hOK_sA hT_es2 (p := 103) (n := 30) rfl (fun _ => by rw [zI_toInt (by unfold i32 iLO iHI; omega)]; exact ⟨by show (-1 : Int) ≤ (n + (-1)); omega, by show (n + (-1)) ≤ (23 : Int); omega⟩)
  rw [← e_es3]
  refine x0 (r := (192, [some (.ref 143), some (.int (zI b)), some (.int (zI (m + (-1)))), some (.int (zI (n + (-1)))), some (.int (zI v))], [], es3)) i_261_153 rfl ?_
  refine x0 (r := (92, [some (.ref 143), some (.int (zI b)), some (.int (zI (m + (-1)))), some (.int (zI (n + (-1)))), some (.int (zI v))], [], es3)) i_261_192 rfl ?_
  exact K1 v1 e_v1 es2 e_es2 es3 e_es3

theorem s_fo168 {O : pOut} {d kc ks : Nat} {Q : pRes → Prop} {es : PH} {b m n v : Int} (hs_es : sh es) (hb : 0 ≤ b ∧ b ≤ 2) (hm : 1 ≤ m ∧ m ≤ 30) (hn : 0 ≤ n ∧ n ≤ 24) (hT_es : hOK tT es)
    (K1 : ∀ es1 : PH, es1 = sA es 103 (m + (-1)).toNat (zI (-1)) → aW O d 261 kc ks Q (92, [some (.ref 143), some (.int (zI b)), some (.int (zI (m + (-1)))), some (.int (zI n)), some (.int (zI v))], [], es1)) :
    aW O d 261 kc ks Q (168, [some (.ref 143), some (.int (zI b)), some (.int (zI m)), some (.int (zI n)), some (.int (zI v))], [], es) := by
  refine x_iinc (x := m) i_261_168 rfl (by show 2 < 5; decide) ?_
  show aW _ _ _ _ _ _ (171, [some (.ref 143), some (.int (zI b)), some (.int (zI (m + (-1)))), some (.int (zI n)), some (.int (zI v))], [], es)
  refine x0 (r := (172, [some (.ref 143), some (.int (zI b)), some (.int (zI (m + (-1)))), some (.int (zI n)), some (.int (zI v))], [.ref 143], es)) i_261_171 rfl ?_
  refine x_getr (p := 79) (k := 167) i_261_172 hs_es rfl rfl ?_
  show aW _ _ _ _ _ _ (175, [some (.ref 143), some (.int (zI b)), some (.int (zI (m + (-1)))), some (.int (zI n)), some (.int (zI v))], [.ref 167], es)
  refine x0 (r := (176, [some (.ref 143), some (.int (zI b)), some (.int (zI (m + (-1)))), some (.int (zI n)), some (.int (zI v))], [.int (zI (m + (-1))), .ref 167], es)) i_261_175 rfl ?_
  refine x0 (r := (177, [some (.ref 143), some (.int (zI b)), some (.int (zI (m + (-1)))), some (.int (zI n)), some (.int (zI v))], [.int (zI (-1)), .int (zI (m + (-1))), .ref 167], es)) i_261_176 (by rfl) ?_
  refine x_iast (p := 103) i_261_177 hs_es rfl (by unfold i32 iLO iHI; omega) (by omega) (by omega) ?_
  obtain ⟨es1, e_es1⟩ : ∃ z : PH, z = sA es 103 (m + (-1)).toNat (zI (-1)) := ⟨_, rfl⟩
  have hs_es1 : sh es1 := by rw [e_es1]; exact sh_sA hs_es
  have hT_es1 : hOK tT es1 := by rw [e_es1]; exact hOK_sA hT_es (p := 103) (n := 30) rfl (fun _ => by rw [zI_toInt (by unfold i32 iLO iHI; omega)]; exact ⟨by show (-1 : Int) ≤ (-1); omega, by show (-1) ≤ (23 : Int); omega⟩)
  rw [← e_es1]
  refine x0 (r := (192, [some (.ref 143), some (.int (zI b)), some (.int (zI (m + (-1)))), some (.int (zI n)), some (.int (zI v))], [], es1)) i_261_178 rfl ?_
  refine x0 (r := (92, [some (.ref 143), some (.int (zI b)), some (.int (zI (m + (-1)))), some (.int (zI n)), some (.int (zI v))], [], es1)) i_261_192 rfl ?_
  exact K1 es1 e_es1

theorem s_fo181 {O : pOut} {d kc ks : Nat} {Q : pRes → Prop} {es : PH} {b m n v : Int} (hs_es : sh es) (hb : 0 ≤ b ∧ b ≤ 2) (hm : 0 ≤ m ∧ m ≤ 30) (hn : 1 ≤ n ∧ n ≤ 24) (hT_es : hOK tT es)
    (K1 : ∀ es1 : PH, es1 = sA es 102 (n + (-1)).toNat (zI 7) → aW O d 261 kc ks Q (92, [some (.ref 143), some (.int (zI b)), some (.int (zI m)), some (.int (zI (n + (-1)))), some (.int (zI v))], [], es1)) :
    aW O d 261 kc ks Q (181, [some (.ref 143), some (.int (zI b)), some (.int (zI m)), some (.int (zI n)), some (.int (zI v))], [], es) := by
  refine x_iinc (x := n) i_261_181 rfl (by show 3 < 5; decide) ?_
  show aW _ _ _ _ _ _ (184, [some (.ref 143), some (.int (zI b)), some (.int (zI m)), some (.int (zI (n + (-1)))), some (.int (zI v))], [], es)
  refine x0 (r := (185, [some (.ref 143), some (.int (zI b)), some (.int (zI m)), some (.int (zI (n + (-1)))), some (.int (zI v))], [.ref 143], es)) i_261_184 rfl ?_
  refine x_getr (p := 79) (k := 166) i_261_185 hs_es rfl rfl ?_
  show aW _ _ _ _ _ _ (188, [some (.ref 143), some (.int (zI b)), some (.int (zI m)), some (.int (zI (n + (-1)))), some (.int (zI v))], [.ref 166], es)
  refine x0 (r := (189, [some (.ref 143), some (.int (zI b)), some (.int (zI m)), some (.int (zI (n + (-1)))), some (.int (zI v))], [.int (zI (n + (-1))), .ref 166], es)) i_261_188 rfl ?_
  refine x0 (r := (191, [some (.ref 143), some (.int (zI b)), some (.int (zI m)), some (.int (zI (n + (-1)))), some (.int (zI v))], [.int (zI 7), .int (zI (n + (-1))), .ref 166], es)) i_261_189 (by rfl) ?_
  refine x_iast (p := 102) i_261_191 hs_es rfl (by unfold i32 iLO iHI; omega) (by omega) (by omega) ?_
  obtain ⟨es1, e_es1⟩ : ∃ z : PH, z = sA es 102 (n + (-1)).toNat (zI 7) := ⟨_, rfl⟩
  have hs_es1 : sh es1 := by rw [e_es1]; exact sh_sA hs_es
  have hT_es1 : hOK tT es1 := by rw [e_es1]; exact hOK_sA hT_es (p := 102) (n := 24) rfl (fun _ => by rw [zI_toInt (by unfold i32 iLO iHI; omega)]; exact ⟨by show (0 : Int) ≤ 7; omega, by show 7 ≤ (7 : Int); omega⟩)
  rw [← e_es1]
  refine x0 (r := (92, [some (.ref 143), some (.int (zI b)), some (.int (zI m)), some (.int (zI (n + (-1)))), some (.int (zI v))], [], es1)) i_261_192 rfl ?_
  exact K1 es1 e_es1
/-- rows up to m, fits below m -/
def foG (E : Ev) (P : Nat → Nat) (b : Nat) (es es1 : PH) (m : Nat) : Prop := hOK tT es1 ∧ fr frFo es es1 ∧ (∀ k n, k ≤ m → n ≤ nW E.W b → smS es1 b k n = sumF E P b k n) ∧ (∀ k n, k < m → n < nW E.W b → ftS es1 b k n = fitF E.W E.wo E.po (bdF E.W P k) (P k) b n)
theorem row_eqn {W po : Nat → Int32} {b m : Nat} {pv ft : Nat → Int} : ∀ n, m + n ≠ 0 → rowF W po b m pv ft n = min 1000 (min (if m = 0 then 1000 else if n = 0 then 1000 else pv (n - 1) + ft (n - 1)) (min (loV po m (pv n)) (if n = 0 then 1000 else if twI W po b (n - 1) = 0 then 1000 else rowF W po b m pv ft (n - 1) + (po 7).toInt)))
  | 0, h => by
    have hm : m ≠ 0 := by omega
    rw [rowF, if_neg hm, if_neg hm, if_pos rfl, if_pos rfl]
  | n + 1, h => by
    rw [rowF, Nat.add_sub_cancel, if_neg (show ¬ n + 1 = 0 by omega), if_neg (show ¬ n + 1 = 0 by omega)]
theorem heap_eqn {E : Ev} {P : Nat → Nat} {b : Nat} {es es1 : PH} {L m n : Nat} (hE : evE es1 = E) (hG : foG E P b es es1 L) (hm : m ≤ L) (hn : n ≤ nW E.W b) (h0 : m + n ≠ 0) : smS es1 b m n = min 1000 (min (mvI es1 m n b) (min (loI es1 m n b) (ttI es1 m n b))) := by
  obtain ⟨h1, h2, h3, h4⟩ := hG
  have hW : gA es1 80 = E.W := by rw [← hE]; rfl
  have hP : gA es1 90 = E.po := by rw [← hE]; rfl
  rw [h3 m n hm hn]
  cases m with
  | zero =>
    rw [sumF, row_eqn n h0, if_pos rfl]
    unfold mvI loI ttI loV
    rw [if_pos rfl, if_pos rfl, if_pos rfl, hW, hP]
    by_cases hn0 : n = 0
    · rw [if_pos hn0, if_pos hn0]
    · rw [if_neg hn0, if_neg hn0]
      have := h3 0 (n - 1) (by omega) (by omega)
      rw [sumF] at this
      rw [← this]
      rfl
  | succ m =>
    rw [sumF, row_eqn n h0, if_neg (show ¬ m + 1 = 0 by omega)]
    unfold mvI loI ttI loV
    rw [if_neg (show ¬ m + 1 = 0 by omega), if_neg (show ¬ m + 1 = 0 by omega), if_neg (show ¬ m + 1 = 0 by omega), hW, hP, Nat.add_sub_cancel]
    have e3 := h3 m n (by omega) hn
    unfold smS at e3
    rw [e3]
    by_cases hn0 : n = 0
    · rw [if_pos hn0, if_pos hn0, if_pos hn0, if_pos hn0]
    · rw [if_neg hn0, if_neg hn0, if_neg hn0, if_neg hn0]
      have e1 := h3 m (n - 1) (by omega) (by omega)
      have e2 := h4 m (n - 1) (by omega) (by omega)
      have e4 := h3 (m + 1) (n - 1) hm (by omega)
      rw [sumF] at e4
      rw [← e1, ← e2, ← e4]
      rfl
section
variable {O : pOut} {d kc ks : Nat} {Q : pRes → Prop} {es : PH} {E : Ev} {b : Nat}
theorem frFo_E {es1 : PH} (hs : sh es) (hf : fr frFo es es1) : evE es1 = evE es := evE_fr hf hs (fun k => by simp only [frFo, mHq, true_and, and_true, false_and, and_false, or_false, false_or, not_false_eq_true, Nat.reduceEqDiff] <;> omega) (fun k => by simp only [frFo, mHq, true_and, and_true, false_and, and_false, or_false, false_or, not_false_eq_true, Nat.reduceEqDiff] <;> omega) (fun k => by simp only [frFo, mHq, true_and, and_true, false_and, and_false, or_false, false_or, not_false_eq_true, Nat.reduceEqDiff] <;> omega) (by simp only [frFo, mHq, true_and, and_true, false_and, and_false, or_false, false_or, not_false_eq_true, Nat.reduceEqDiff] <;> omega) (by simp only [frFo, mHq, true_and, and_true, false_and, and_false, or_false, false_or, not_false_eq_true, Nat.reduceEqDiff] <;> omega)
/-- the tries of a level, and the sums of the next -/
theorem fo_45 {P : Nat → Nat} {m : Nat} (hb : b ≤ 2) (hm : m ≤ 29) (hT : hOK tT es) (hE : evE es = E) (K : ∀ es3 x3 x4, foG E P b es es3 (m + 1) → brow es3 (m + 1) = bdF E.W P (m + 1) → aW O (d + 5) 261 kc ks Q (12, [some (.ref 143), some (.int (zI (b : Int))), some (.int (zI ((m : Int) + 1))), x3, x4], [], es3)) (x4 : Option Value) :
    ∀ (j n : Nat) (es1 : PH), n + j = nW E.W b → foG E P b es es1 m → brow es1 m = bdF E.W P m → brow es1 (m + 1) = bdF E.W P (m + 1) → pth es1 m = P m → (∀ i, i < n → ftS es1 b m i = fitF E.W E.wo E.po (bdF E.W P m) (P m) b i) →
      aW O (d + 5) 261 kc ks Q (45, [some (.ref 143), some (.int (zI (b : Int))), some (.int (zI (m : Int))), some (.int (zI (n : Int))), x4], [], es1) := by
  have hs0 := sh_of hT
  have jn : ((119 + (98 * (b : Int))) + 1).toNat = 119 + 98 * b + 1 := by omega
  have hW0 : gA es 80 = E.W := by rw [← hE]; rfl
  intro j
  induction j with
  | zero =>
    intro n es1 hn hG hB hB1 hpm hft
    obtain ⟨hT1, hf1, g3, g4⟩ := hG
    have hE1 : evE es1 = E := (frFo_E hs0 hf1).trans hE
    have hW : gA es1 80 = E.W := by rw [← hE1]; rfl
    have hnb := nW_bd hT1 hb
    rw [hW] at hnb
    refine s_fo45 (d := d) (sh_of hT1) ⟨by omega, by omega⟩ ⟨by omega, by omega⟩ ⟨by omega, by omega⟩ (by rw [jn, hW]; omega) hT1 (fun v1 e1 h1 es3 p3 => ?_) (fun v1 e1 h1 => ?_)
    · have p3' : sumsN b (m + 1) es1 es3 := by
        unfold sumsP at p3
        rw [Int.toNat_natCast, show ((m : Int) + 1).toNat = m + 1 by omega] at p3
        exact p3
      obtain ⟨q1, q2, q3, q4⟩ := p3'
      rw [hW] at q4
      refine K es3 _ _ ⟨q2, fr_trans hf1 (fr_wk (by simp only [mAl, frFo, mHq, true_and, and_true, false_and, and_false, or_false, false_or, not_false_eq_true, Nat.reduceEqDiff] <;> (repeat' apply And.intro) <;> intros <;> omega) q3), fun k i hk hi => ?_, fun k i hk hi => ?_⟩ ?_
      · by_cases hkm : k = m + 1
        · subst hkm
          rw [q4 i hi]
          exact rwS_sumF hE1 (fun x hx => g3 m x (Nat.le_refl _) hx) (fun x hx => hft x (by omega)) i hi
        · rw [← g3 k i (by omega) hi]
          unfold smS
          rw [fr_at q3 (sh_of hT1) (p := 94) (t := 0) (n := 2325) rfl (by decide) (by simp only [mHq, true_and, and_true, false_and, and_false, or_false, false_or, not_false_eq_true, Nat.reduceEqDiff] <;> omega)]
      · have e92 : ftS es3 b k i = ftS es1 b k i := by
          unfold ftS
          rw [fr_row q3 (sh_of hT1) (p := 92) (t := 0) (n := 2232) rfl (by decide) (fun k => by simp only [mHq, true_and, and_true, false_and, and_false, or_false, false_or, not_false_eq_true, Nat.reduceEqDiff] <;> omega)]
        rw [e92]
        by_cases hkm : k = m
        · subst hkm; exact hft i (by omega)
        · exact g4 k i (by omega) hi
      · rw [← hB1]
        funext i; unfold brow
        rw [fr_row q3 (sh_of hT1) (p := 87) (t := 0) (n := 1116) rfl (by decide) (fun k => by simp only [mHq, true_and, and_true, false_and, and_false, or_false, false_or, not_false_eq_true, Nat.reduceEqDiff] <;> omega)]
    · rw [jn, hW] at e1
      omega
  | succ j ih =>
    intro n es1 hn hG hB hB1 hpm hft
    obtain ⟨hT1, hf1, g3, g4⟩ := hG
    have hE1 : evE es1 = E := (frFo_E hs0 hf1).trans hE
    have hW : gA es1 80 = E.W := by rw [← hE1]; rfl
    have hnb := nW_bd hT1 hb
    rw [hW] at hnb
    have e9 : ((n + 1 : Nat) : Int) = (n : Int) + 1 := by omega
    refine s_fo45 (d := d) (sh_of hT1) ⟨by omega, by omega⟩ ⟨by omega, by omega⟩ ⟨by omega, by omega⟩ (by rw [jn, hW]; omega) hT1 (fun v1 e1 h1 => ?_) (fun v1 e1 h1 es4 p4 => ?_)
    · rw [jn, hW] at e1
      omega
    · unfold triesZ at p4
      simp only [Int.toNat_natCast] at p4
      obtain ⟨q1, q2, q3, q4⟩ := p4
      have q4' : ftS es4 b m n = fitF E.W E.wo E.po (bdF E.W P m) (P m) b n := by
        unfold ftS
        rw [q4, hW, hB, show gA es1 89 = E.wo by rw [← hE1]; rfl, show gA es1 90 = E.po by rw [← hE1]; rfl, ← hpm]
        rfl
      have ho : ∀ k i, ¬ (k = m ∧ i = n) → i < nW E.W b → ftS es4 b k i = ftS es1 b k i := fun k i h hi => by
        unfold ftS
        rw [fr_at q3 (sh_of hT1) (p := 92) (t := 0) (n := 2232) rfl (by decide) (by simp only [mHq, true_and, and_true, false_and, and_false, or_false, false_or, not_false_eq_true, Nat.reduceEqDiff] <;> omega)]
      have hbr : ∀ k, brow es4 k = brow es1 k := fun k => by
        funext i; unfold brow
        rw [fr_row q3 (sh_of hT1) (p := 87) (t := 0) (n := 1116) rfl (by decide) (fun k => by simp only [mHq, true_and, and_true, false_and, and_false, or_false, false_or, not_false_eq_true, Nat.reduceEqDiff] <;> omega)]
      have := ih (n + 1) es4 (by omega) ⟨q2, fr_trans hf1 (fr_wk (by simp only [mAl, frFo, mHq, true_and, and_true, false_and, and_false, or_false, false_or, not_false_eq_true, Nat.reduceEqDiff] <;> (repeat' apply And.intro) <;> intros <;> omega) q3), fun k i hk hi => by
        rw [← g3 k i hk hi]; unfold smS
        rw [fr_row q3 (sh_of hT1) (p := 94) (t := 0) (n := 2325) rfl (by decide) (fun k => by simp only [mHq, true_and, and_true, false_and, and_false, or_false, false_or, not_false_eq_true, Nat.reduceEqDiff] <;> omega)], fun k i hk hi => by
        rw [ho k i (by omega) hi]; exact g4 k i hk hi⟩ (by rw [hbr]; exact hB) (by rw [hbr]; exact hB1) (by
        rw [← hpm]; unfold pth
        rw [fr_row q3 (sh_of hT1) (p := 91) (t := 0) (n := 31) rfl (by decide) (fun k => by simp only [mHq, true_and, and_true, false_and, and_false, or_false, false_or, not_false_eq_true, Nat.reduceEqDiff] <;> omega)]) (fun i hi => by
        by_cases hin : i = n
        · subst hin; exact q4'
        · rw [ho m i (by omega) (by omega)]; exact hft i (by omega))
      rw [e9] at this
      exact this
theorem fo_12 {L : Nat} (hb : b ≤ 2) (hL : (gI es 79 41).toInt = (L : Int)) (hL30 : L ≤ 30) (hT : hOK tT es) (hE : evE es = E) (K : ∀ es3 x3 x4, foG E (fst98 es) b es es3 L → aW O (d + 5) 261 kc ks Q (81, [some (.ref 143), some (.int (zI (b : Int))), some (.int (zI (L : Int))), x3, x4], [], es3)) :
    ∀ (j m : Nat) (es1 : PH) (x3 x4 : Option Value), m + j = L → foG E (fst98 es) b es es1 m → brow es1 m = bdF E.W (fst98 es) m →
      aW O (d + 5) 261 kc ks Q (12, [some (.ref 143), some (.int (zI (b : Int))), some (.int (zI (m : Int))), x3, x4], [], es1) := by
  have hs0 := sh_of hT
  have rd : ∀ es1, hOK tT es1 → ∀ m : Nat, ((m : Int) ≤ 29 → 0 ≤ (gA es1 98 (m : Int).toNat).toInt ∧ (gA es1 98 (m : Int).toNat).toInt ≤ 1295) := fun es1 hT1 m hm => by
    rw [Int.toNat_natCast]
    exact gA_bd hT1 (p := 98) (t := 0) (n := 30) (k := m) rfl (by omega) (by decide)
  intro j
  induction j with
  | zero =>
    intro m es1 x3 x4 hm hG hB
    have g41 : gI es1 79 41 = gI es 79 41 := fr_fld hG.2.1 hs0 (p := 79) (b := 41) rfl (by simp only [frFo, mHq, true_and, and_true, false_and, and_false, or_false, false_or, not_false_eq_true, Nat.reduceEqDiff] <;> omega)
    have hmL : m = L := by omega
    subst hmL
    exact s_fo12 (d := d + 5) (sh_of hG.1) ⟨by omega, by omega⟩ ⟨by omega, by omega⟩ (rd es1 hG.1 m) (by rw [g41]; omega) hG.1 (fun v1 e1 h1 => K es1 x3 x4 hG) (fun v1 e1 h1 => by rw [g41] at e1; omega)
  | succ j ih =>
    intro m es1 x3 x4 hm hG hB
    have g41 : gI es1 79 41 = gI es 79 41 := fr_fld hG.2.1 hs0 (p := 79) (b := 41) rfl (by simp only [frFo, mHq, true_and, and_true, false_and, and_false, or_false, false_or, not_false_eq_true, Nat.reduceEqDiff] <;> omega)
    have e9 : ((m + 1 : Nat) : Int) = (m : Int) + 1 := by omega
    refine s_fo12 (d := d + 5) (sh_of hG.1) ⟨by omega, by omega⟩ ⟨by omega, by omega⟩ (rd es1 hG.1 m) (by rw [g41]; omega) hG.1 (fun v1 e1 h1 => by rw [g41] at e1; omega) (fun v1 e1 h1 v3 e3 es4 e4 => ?_)
    have hr := rd es1 hG.1 m (by omega)
    rw [← e3] at hr
    rw [Int.toNat_natCast] at e3 e4
    have z3 : (zI v3).toInt = v3 := zI_toInt (by unfold i32 iLO iHI; omega)
    have a98 : gA es1 98 = gA es 98 := fr_row hG.2.1 hs0 (p := 98) (t := 0) (n := 30) rfl (by decide) (fun k => by simp only [frFo, mHq, true_and, and_true, false_and, and_false, or_false, false_or, not_false_eq_true, Nat.reduceEqDiff] <;> omega)
    have hT4 : hOK tT es4 := by rw [e4]; exact hOK_sA hG.1 (p := 91) (t := 0) (n := 31) rfl (fun _ => by rw [z3]; exact hr)
    have f4 : fr [(91, 0, 0, 31)] es1 es4 := by rw [e4]; exact fr_sA (mIn_yes (by simp only [mHq, true_and, and_true, false_and, and_false, or_false, false_or, not_false_eq_true, Nat.reduceEqDiff] <;> omega))
    have b98 : gA es4 98 = gA es 98 := by rw [e4, gA_sA_ne (by decide), a98]
    have p4 : pth es4 m = fst98 es m := by
      unfold pth fst98
      rw [e4, gA_sA (sh_of hG.1) (p := 91) (t := 0) (n := 31) rfl (by decide)]
      unfold upd
      rw [if_pos rfl, z3, e3, a98]
    refine s_fo32 (d := d + 3) (sh_of hT4) ⟨by omega, by omega⟩ ⟨by omega, by omega⟩ hT4 (fun w1 q1 es2 p2 => ?_)
    rw [Int.toNat_natCast, b98] at q1
    obtain ⟨s1, s2, s3⟩ := p2
    have f2 : fr [(87, 0, 36 * (m + 1), 36 * (m + 2))] es4 es2 := by
      have := s3.2.2.1
      rw [Int.toNat_natCast] at this
      exact this
    have f42 : fr [(91, 0, 0, 31), (87, 0, 36 * (m + 1), 36 * (m + 2))] es1 es2 := fr_trans (fr_wk (by simp only [mAl, mHq, true_and, and_true, false_and, and_false, or_false, false_or, not_false_eq_true, Nat.reduceEqDiff] <;> (repeat' apply And.intro) <;> intros <;> omega) f4) (fr_wk (by simp only [mAl, mHq, true_and, and_true, false_and, and_false, or_false, false_or, not_false_eq_true, Nat.reduceEqDiff] <;> (repeat' apply And.intro) <;> intros <;> omega) f2)
    have hB4 : brow es4 m = bdF E.W (fst98 es) m := by
      rw [← hB]; funext i; unfold brow
      rw [e4, gA_sA_ne (by decide)]
    have hB2 : brow es2 m = bdF E.W (fst98 es) m := by
      rw [← hB4]; funext i; unfold brow
      by_cases hi : i < 36
      · rw [if_pos hi, if_pos hi, fr_at f2 (sh_of hT4) (p := 87) (t := 0) (n := 1116) rfl (by decide) (by simp only [mHq, true_and, and_true, false_and, and_false, or_false, false_or, not_false_eq_true, Nat.reduceEqDiff] <;> omega)]
      · rw [if_neg hi, if_neg hi]
    have hB21 : brow es2 (m + 1) = bdF E.W (fst98 es) (m + 1) := brow_makes s3 hB4 (by unfold fst98; rw [q1])
    refine fo_45 (d := d) (P := fst98 es) hb (by omega) hT hE (fun es3 y3 y4 hG3 hB3 => ?_) x4 (nW E.W b) 0 es2 (Nat.zero_add _) ⟨s2, fr_trans hG.2.1 (fr_wk (by simp only [mAl, frFo, mHq, true_and, and_true, false_and, and_false, or_false, false_or, not_false_eq_true, Nat.reduceEqDiff] <;> (repeat' apply And.intro) <;> intros <;> omega) f42), fun k i hk hi => ?_, fun k i hk hi => ?_⟩ hB2 hB21 ?_ (fun i hi => by omega)
    · have := ih (m + 1) es3 y3 y4 (by omega) hG3 hB3
      rw [e9] at this
      exact this
    · rw [← hG.2.2.1 k i hk hi]; unfold smS
      rw [fr_row f42 (sh_of hG.1) (p := 94) (t := 0) (n := 2325) rfl (by decide) (fun k => by simp only [mHq, true_and, and_true, false_and, and_false, or_false, false_or, not_false_eq_true, Nat.reduceEqDiff] <;> omega)]
    · rw [← hG.2.2.2 k i hk hi]; unfold ftS
      rw [fr_row f42 (sh_of hG.1) (p := 92) (t := 0) (n := 2232) rfl (by decide) (fun k => by simp only [mHq, true_and, and_true, false_and, and_false, or_false, false_or, not_false_eq_true, Nat.reduceEqDiff] <;> omega)]
    · rw [← p4]; unfold pth
      rw [fr_row f2 (sh_of hT4) (p := 91) (t := 0) (n := 31) rfl (by decide) (fun k => by simp only [mHq, true_and, and_true, false_and, and_false, or_false, false_or, not_false_eq_true, Nat.reduceEqDiff] <;> omega)]
/-- the way back -/
theorem fo_92 {P : Nat → Nat} {L : Nat} (hb : b ≤ 2) (hL : L ≤ 30) (hT : hOK tT es) (hE : evE es = E) (K : ∀ es', followsN es es' → Q (.inl none, es', kc, ks)) :
    ∀ (N m n : Nat) (es1 : PH) (x4 : Option Value), m + n < N → m ≤ L → n ≤ nW E.W b → foG E P b es es1 L → smS es1 b m n < 1000 →
      aW O (d + 5) 261 kc ks Q (92, [some (.ref 143), some (.int (zI (b : Int))), some (.int (zI (m : Int))), some (.int (zI (n : Int))), x4], [], es1) := by
  have hs0 := sh_of hT
  intro N
  induction N with
  | zero => intro m n es1 x4 h; omega
  | succ N ih =>
    intro m n es1 x4 hN hm hn hG hlt
    have hE1 : evE es1 = E := (frFo_E hs0 hG.2.1).trans hE
    have hW : gA es1 80 = E.W := by rw [← hE1]; rfl
    have hT1 := hG.1
    have hnb := nW_bd hT1 hb
    rw [hW] at hnb
    have keep : ∀ es2, hOK tT es2 → fr [(102, 0, 0, 24), (103, 0, 0, 30)] es1 es2 → foG E P b es es2 L ∧ ∀ k i, smS es2 b k i = smS es1 b k i := by
      intro es2 hT2 hf2
      have a94 : gA es2 94 = gA es1 94 := fr_row hf2 (sh_of hT1) (p := 94) (t := 0) (n := 2325) rfl (by decide) (fun k => by simp only [mHq, true_and, and_true, false_and, and_false, or_false, false_or, not_false_eq_true, Nat.reduceEqDiff] <;> omega)
      have a92 : gA es2 92 = gA es1 92 := fr_row hf2 (sh_of hT1) (p := 92) (t := 0) (n := 2232) rfl (by decide) (fun k => by simp only [mHq, true_and, and_true, false_and, and_false, or_false, false_or, not_false_eq_true, Nat.reduceEqDiff] <;> omega)
      have hsm : ∀ k i, smS es2 b k i = smS es1 b k i := fun k i => by unfold smS; rw [a94]
      refine ⟨⟨hT2, fr_trans hG.2.1 (fr_wk (by simp only [mAl, frFo, mHq, true_and, and_true, false_and, and_false, or_false, false_or, not_false_eq_true, Nat.reduceEqDiff] <;> (repeat' apply And.intro) <;> intros <;> omega) hf2), fun k i hk hi => by rw [hsm]; exact hG.2.2.1 k i hk hi, fun k i hk hi => ?_⟩, hsm⟩
      rw [← hG.2.2.2 k i hk hi]; unfold ftS; rw [a92]
    have jx : ((25 * ((31 * (b : Int)) + (m : Int))) + (n : Int)).toNat = 25 * (31 * b + m) + n := by omega
    have eqn : m + n ≠ 0 → smS es1 b m n = min 1000 (min (mvI es1 m n b) (min (loI es1 m n b) (ttI es1 m n b))) := fun h => heap_eqn hE1 hG hm hn h
    refine s_fo92 (d := d + 3) (sh_of hT1) ⟨by omega, by omega⟩ ⟨by omega, by omega⟩ ⟨by omega, by omega⟩ hT1 (fun h => K es1 ⟨sh_of hT1, hT1, hG.2.1⟩) (fun h v2 e2 v3 p3 h3 v5 p5 h5 => ?_) (fun h v2 e2 v3 p3 h3 v5 p5 h5 => ?_) (fun h v2 e2 v3 p3 h3 => ?_)
    all_goals
      rw [jx] at e2
      have e2' : v2 = smS es1 b m n := e2
      have q3 := p3.1
      simp only [Int.toNat_natCast] at q3
      have heq := eqn (by omega)
    · -- twice
      have q5 := p5.1
      simp only [Int.toNat_natCast] at q5
      have htt : smS es1 b m n = ttI es1 m n b := by
        have : mvI es1 m n b ≠ smS es1 b m n := fun hh => h3 (by rw [e2', q3, hh])
        have : loI es1 m n b ≠ smS es1 b m n := fun hh => h5 (by rw [e2', q5, hh])
        omega
      have hn0 : n ≠ 0 := by
        intro h0
        unfold ttI at htt
        rw [if_pos h0] at htt
        omega
      obtain ⟨n, rfl⟩ : ∃ k, n = k + 1 := ⟨n - 1, by omega⟩
      have hprev : smS es1 b m n < 1000 := by
        unfold ttI at htt
        rw [if_neg hn0] at htt
        split at htt
        · omega
        · have := (pr_bd hT1 (i := 7) (by omega)).1
          rw [Nat.add_sub_cancel] at htt
          have hx : smS es1 b m n = (gA es1 94 (25 * (31 * b + m) + n)).toInt := rfl
          omega
      refine s_fo181 (d := d + 5) (sh_of hT1) ⟨by omega, by omega⟩ ⟨by omega, by omega⟩ ⟨by omega, by omega⟩ hT1 (fun es2 e => ?_)
      have ex : (((n + 1 : Nat) : Int) + (-1)) = (n : Int) := by omega
      rw [ex] at e ⊢
      rw [Int.toNat_natCast] at e
      have hT2 : hOK tT es2 := by rw [e]; exact hOK_sA hT1 (p := 102) (t := 0) (n := 24) rfl (fun _ => by rw [zI_toInt (by unfold i32 iLO iHI; omega)]; exact ⟨by show (0 : Int) ≤ 7; omega, by show (7 : Int) ≤ 7; omega⟩)
      obtain ⟨g1, g2⟩ := keep es2 hT2 (by rw [e]; exact fr_sA (mIn_yes (by simp only [mHq, true_and, and_true, false_and, and_false, or_false, false_or, not_false_eq_true, Nat.reduceEqDiff] <;> omega)))
      exact ih m n es2 _ (by omega) hm (by omega) g1 (by rw [g2]; exact hprev)
    · -- lost
      have q5 := p5.1
      simp only [Int.toNat_natCast] at q5
      have hlo : smS es1 b m n = loI es1 m n b := by omega
      have hm0 : m ≠ 0 := by
        intro h0
        unfold loI at hlo
        rw [if_pos h0] at hlo
        omega
      obtain ⟨m, rfl⟩ : ∃ k, m = k + 1 := ⟨m - 1, by omega⟩
      have hprev : smS es1 b m n < 1000 := by
        unfold loI at hlo
        rw [if_neg hm0] at hlo
        split at hlo
        · omega
        · have := (pr_bd hT1 (i := 6) (by omega)).1
          rw [Nat.add_sub_cancel] at hlo
          have hx : smS es1 b m n = (gA es1 94 (25 * (31 * b + m) + n)).toInt := rfl
          omega
      refine s_fo168 (d := d + 5) (sh_of hT1) ⟨by omega, by omega⟩ ⟨by omega, by omega⟩ ⟨by omega, by omega⟩ hT1 (fun es2 e => ?_)
      have ex : (((m + 1 : Nat) : Int) + (-1)) = (m : Int) := by omega
      rw [ex] at e ⊢
      rw [Int.toNat_natCast] at e
      have hT2 : hOK tT es2 := by rw [e]; exact hOK_sA hT1 (p := 103) (t := 0) (n := 30) rfl (fun _ => by rw [zI_toInt (by unfold i32 iLO iHI; omega)]; exact ⟨by show (-1 : Int) ≤ -1; omega, by show (-1 : Int) ≤ 23; omega⟩)
      obtain ⟨g1, g2⟩ := keep es2 hT2 (by rw [e]; exact fr_sA (mIn_yes (by simp only [mHq, true_and, and_true, false_and, and_false, or_false, false_or, not_false_eq_true, Nat.reduceEqDiff] <;> omega)))
      exact ih m n es2 _ (by omega) (by omega) hn g1 (by rw [g2]; exact hprev)
    · -- a move
      have hmv : smS es1 b m n = mvI es1 m n b := by omega
      have hm0 : m ≠ 0 := by
        intro h0
        unfold mvI at hmv
        rw [if_pos h0] at hmv
        omega
      have hn0 : n ≠ 0 := by
        intro h0
        unfold mvI at hmv
        rw [if_neg hm0, if_pos h0] at hmv
        omega
      obtain ⟨m, rfl⟩ : ∃ k, m = k + 1 := ⟨m - 1, by omega⟩
      obtain ⟨n, rfl⟩ : ∃ k, n = k + 1 := ⟨n - 1, by omega⟩
      have hprev : smS es1 b m n < 1000 := by
        unfold mvI at hmv
        rw [if_neg hm0, if_neg hn0, Nat.add_sub_cancel, Nat.add_sub_cancel] at hmv
        have := (fit_bd hT1 (i := 72 * m + 24 * b + n) (by omega)).1
        have hx : smS es1 b m n = (gA es1 94 (25 * (31 * b + m) + n)).toInt := rfl
        omega
      refine s_fo123 (d := d + 4) (sh_of hT1) ⟨by omega, by omega⟩ ⟨by omega, by omega⟩ ⟨by omega, by omega⟩ hT1 (fun v1 e1 es2 e es3 e' => ?_)
      have ex : (((m + 1 : Nat) : Int) + (-1)) = (m : Int) := by omega
      have ey : (((n + 1 : Nat) : Int) + (-1)) = (n : Int) := by omega
      rw [ex, ey] at e1
      rw [ey] at e
      rw [ex, ey] at e'
      rw [ex, ey]
      rw [show ((((3 * (m : Int)) + (b : Int)) * 24) + (n : Int)).toNat = 72 * m + 24 * b + n by omega] at e1
      rw [Int.toNat_natCast] at e e'
      have hv1 : 0 ≤ v1 ∧ v1 ≤ 5 := by
        rw [e1]
        exact gA_bd hT1 (p := 93) (t := 0) (n := 2232) (k := 72 * m + 24 * b + n) rfl (by omega) (by decide)
      have hT2 : hOK tT es2 := by rw [e]; exact hOK_sA hT1 (p := 102) (t := 0) (n := 24) rfl (fun _ => by rw [zI_toInt (by unfold i32 iLO iHI; omega)]; exact ⟨by show (0 : Int) ≤ _; omega, by show _ ≤ (7 : Int); omega⟩)
      have hT3 : hOK tT es3 := by rw [e']; exact hOK_sA hT2 (p := 103) (t := 0) (n := 30) rfl (fun _ => by rw [zI_toInt (by unfold i32 iLO iHI; omega)]; exact ⟨by show (-1 : Int) ≤ _; omega, by show _ ≤ (23 : Int); omega⟩)
      obtain ⟨g1, g2⟩ := keep es3 hT3 (by rw [e', e]; exact fr_trans (fr_sA (mIn_yes (by simp only [mHq, true_and, and_true, false_and, and_false, or_false, false_or, not_false_eq_true, Nat.reduceEqDiff] <;> omega))) (fr_sA (mIn_yes (by simp only [mHq, true_and, and_true, false_and, and_false, or_false, false_or, not_false_eq_true, Nat.reduceEqDiff] <;> omega))))
      exact ih m n es3 _ (by omega) (by omega) (by omega) g1 (by rw [g2]; exact hprev)
theorem acc_ge {ak : Nat → Prop} {f : Nat → Int} : ∀ n, (∀ b, b < n → ak b → 0 ≤ f b) → 0 ≤ accF ak f n ∧ ∀ b, b < n → ak b → f b ≤ accF ak f n
  | 0, _ => ⟨Int.le_refl _, fun b hb => by omega⟩
  | n + 1, h => by
    obtain ⟨h1, h2⟩ := acc_ge n (fun b hb ha => h b (by omega) ha)
    rw [accF]
    by_cases ha : ak n
    · rw [if_pos ha]
      have := h n (by omega) ha
      refine ⟨by omega, fun b hb hab => ?_⟩
      by_cases hbn : b = n
      · rw [hbn]; omega
      · have := h2 b (by omega) hab; omega
    · rw [if_neg ha]
      refine ⟨by omega, fun b hb hab => ?_⟩
      by_cases hbn : b = n
      · rw [hbn] at hab; exact absurd hab ha
      · have := h2 b (by omega) hab; omega
theorem sumF_nn {P : Nat → Nat} (hE : evOK E) : ∀ k n, 0 ≤ sumF E P b k n := by
  have row : ∀ m pv ft, (∀ i, 0 ≤ pv i) → (∀ i, 0 ≤ ft i) → ∀ n, 0 ≤ rowF E.W E.po b m pv ft n := by
    intro m pv ft h1 h2 n
    induction n with
    | zero =>
      rw [rowF]
      have := hE 6 (by omega)
      have := h1 0
      unfold loV
      split
      · omega
      · split <;> omega
    | succ n ih =>
      rw [rowF]
      have := hE 6 (by omega)
      have := hE 7 (by omega)
      have := h1 n
      have := h1 (n + 1)
      have := h2 n
      unfold loV
      split <;> split <;> (try split) <;> omega
  intro k
  induction k with
  | zero => intro n; rw [sumF]; exact row _ _ _ (fun _ => Int.le_refl _) (fun _ => Int.le_refl _) n
  | succ k ih => intro n; rw [sumF]; exact row _ _ _ ih (fun _ => fitF_nn hE) n
theorem follows_spec {v : Int} (hT : hOK tT es) (hb : b < cW (gA es 80)) (hak : akB es b) (hv : v ≤ 20) (hF : FST (evE es) v es) (K : ∀ es', followsN es es' → Q (.inl none, es', kc, ks)) :
    aW O (d + 5) 261 kc ks Q (0, [some (.ref 143), some (.int (zI (b : Int))), none, none, none], [], es) := by
  have hcb := cW_bd hT
  have hs0 := sh_of hT
  obtain ⟨L, hL, hL30, hr, hm⟩ := hF
  refine s_fo0 (d := d) hs0 ⟨by omega, by omega⟩ hT (fun es1 p1 es2 p2 => ?_)
  obtain ⟨q1, q2, q3⟩ := p1
  have p2' : sumsN b 0 es1 es2 := by
    unfold sumsP at p2
    rw [Int.toNat_natCast] at p2
    exact p2
  obtain ⟨r1, r2, r3, r4⟩ := p2'
  have f1 : fr frFo es es1 := fr_wk (by simp only [mAl, frFo, mHq, true_and, and_true, false_and, and_false, or_false, false_or, not_false_eq_true, Nat.reduceEqDiff] <;> (repeat' apply And.intro) <;> intros <;> omega) q3.2.2.1
  have hE1 : evE es1 = evE es := frFo_E hs0 f1
  have hW1 : gA es1 80 = gA es 80 := by
    have := congrArg Ev.W hE1
    exact this
  have f2 : fr frFo es es2 := fr_trans f1 (fr_wk (by simp only [mAl, frFo, mHq, true_and, and_true, false_and, and_false, or_false, false_or, not_false_eq_true, Nat.reduceEqDiff] <;> (repeat' apply And.intro) <;> intros <;> omega) r3)
  refine fo_12 (d := d) (E := evE es) (by omega) hL hL30 hT rfl (fun es3 x3 x4 hG => ?_) L 0 es2 none none (Nat.zero_add _) ⟨r2, f2, fun k n hk hn => ?_, fun k n hk => by omega⟩ ?_
  · have hE3 : evE es3 = evE es := frFo_E hs0 hG.2.1
    have hW3 : gA es3 80 = gA es 80 := congrArg Ev.W hE3
    have g41 : gI es3 79 41 = gI es 79 41 := fr_fld hG.2.1 hs0 (p := 79) (b := 41) rfl (by simp only [frFo, mHq, true_and, and_true, false_and, and_false, or_false, false_or, not_false_eq_true, Nat.reduceEqDiff] <;> omega)
    refine s_fo81 (d := d + 3) (sh_of hG.1) ⟨by omega, by omega⟩ hG.1 (fun v1 e1 v2 e2 => ?_)
    have hnb := nW_bd hT (b := b) (by omega)
    rw [show ((119 + (98 * (b : Int))) + 1).toNat = 119 + 98 * b + 1 by omega, hW3, hnb.1] at e2
    rw [g41, hL] at e1
    rw [e1, e2]
    refine fo_92 (d := d) (P := fst98 es) (E := evE es) (by omega) hL30 hT rfl K (L + nW (gA es 80) b + 1) L (nW (gA es 80) b) es3 x4 (by omega) (Nat.le_refl _) (Nat.le_refl _) hG ?_
    rw [hG.2.2.1 L (nW (gA es 80) b) (Nat.le_refl _) (Nat.le_refl _)]
    have hev := evOK_of hT
    have h9 := (acc_ge (ak := (evE es).ak) (f := fun b => sumF (evE es) (fst98 es) b L (nW (evE es).W b)) (cW (evE es).W) (fun b' _ _ => sumF_nn hev L _)).2 b hb hak
    have h10 := hm.1
    unfold whF at h10
    have h11 : sumF (evE es) (fst98 es) b L (nW (gA es 80) b) ≤ accF (evE es).ak (fun b => sumF (evE es) (fst98 es) b L (nW (evE es).W b)) (cW (evE es).W) := h9
    omega
  · have hk0 : k = 0 := by omega
    subst hk0
    rw [r4 n (by rw [hW1]; exact hn)]
    exact rwS_sumF0 hE1 n hn
  · have : brow es2 0 = brow es1 0 := by
      funext i; unfold brow
      rw [fr_row r3 (sh_of q2) (p := 87) (t := 0) (n := 1116) rfl (by decide) (fun k => by simp only [mHq, true_and, and_true, false_and, and_false, or_false, false_or, not_false_eq_true, Nat.reduceEqDiff] <;> omega)]
    rw [this, brow_begins (P := fst98 es) q3]
    rfl
end
