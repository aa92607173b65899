/-! MEASURE, by the document's tokens; printed by wip/rel/meas.py -/
theorem s_grm0 {O : pOut} {d kc ks : Nat} {Q : pRes → Prop} {es : PH} {R : Nat → Int32} {n0 : Nat} {n : Int} (hs_es : sh es) (hn : 0 ≤ n ∧ n ≤ 9) (hT_es : hOK tT es) (hr_es : rR R n0 es)
    (K1 : ∀ v1 : Int, iswG (zWds.getD 9 []) R  es v1 → v1 = 0 → Q (.inl (some (.int (zI 0))), es, kc, ks))
    (K2 : ∀ v1 : Int, iswG (zWds.getD 9 []) R  es v1 → ¬ (v1 = 0) → ∀ es3 : PH, ∀ v4 : Int, nmG R n0 0 999 es es3 v4 → aW O (d + 3) 182 kc ks Q (27, [some (.ref 143), some (.int (zI n)), some (.int (zI (1285 + (4 * n))))], [.int (zI v4), .int (zI (1285 + (4 * n))), .ref 143], es3)) :
    aW O (d + 3) 182 kc ks Q (0, [some (.ref 143), some (.int (zI n)), none], [], es) := by
  refine x0 (r := (3, [some (.ref 143), some (.int (zI n)), none], [.int (zI 1285)], es)) i_182_0 (by rfl) ?_
  refine x0 (r := (4, [some (.ref 143), some (.int (zI n)), none], [.int (zI 4), .int (zI 1285)], es)) i_182_3 (by rfl) ?_
  refine x0 (r := (5, [some (.ref 143), some (.int (zI n)), none], [.int (zI n), .int (zI 4), .int (zI 1285)], es)) i_182_4 rfl ?_
  refine x_imul i_182_5 ?_
  refine x_iadd i_182_6 ?_
  refine x0 (r := (8, [some (.ref 143), some (.int (zI n)), some (.int (zI (1285 + (4 * n))))], [], es)) i_182_7 rfl ?_
  refine x0 (r := (9, [some (.ref 143), some (.int (zI n)), some (.int (zI (1285 + (4 * n))))], [.ref 143], es)) i_182_8 rfl ?_
  refine x1 (r := (11, [some (.ref 143), some (.int (zI n)), some (.int (zI (1285 + (4 * n))))], [.ref 39, .ref 143], es)) i_182_9 rfl (fun _ => rfl) rfl ?_
  refine x_call (vs := [.ref 143, .ref 39]) (rs := []) i_182_11 rfl (fun _ => rfl) rfl rfl rfl rfl rfl (pCall_v (p := 79) hs_es rfl rfl rfl rfl rfl (by decide) rfl rfl rfl rfl rfl) ?_
  show aW _ _ _ _ _ _ (0, [some (.ref 143), some (.ref 39), none, none], [], es)
  refine iswG_spec (t := zWds.getD 9 []) hs_es hT_es hr_es (by decide) rfl (by decide) (by decide) (fun v1 p_v1 => ?_)
  have r_v1 := p_v1.1
  show aW _ _ _ _ _ _ (14, [some (.ref 143), some (.int (zI n)), some (.int (zI (1285 + (4 * n))))], [.int (zI v1)], es)
  by_cases c2 : v1 = 0
  · refine x_ifT i_182_14 (by unfold i32 iLO iHI; omega) rfl (by simp only [zC, cR]; omega) ?_
    refine x0 (r := (34, [some (.ref 143), some (.int (zI n)), some (.int (zI (1285 + (4 * n))))], [.int (zI 0)], es)) i_182_33 (by rfl) ?_
    refine x_ret (v := some (.int (zI 0))) i_182_34 rfl (fun _ => rfl) rfl rfl (pFin_b (by omega)) ?_
    exact K1 v1 p_v1 c2
  · refine x_ifF i_182_14 (by unfold i32 iLO iHI; omega) rfl (by simp only [zC, cR]; omega) ?_
    refine x0 (r := (18, [some (.ref 143), some (.int (zI n)), some (.int (zI (1285 + (4 * n))))], [.ref 143], es)) i_182_17 rfl ?_
    refine x0 (r := (19, [some (.ref 143), some (.int (zI n)), some (.int (zI (1285 + (4 * n))))], [.int (zI (1285 + (4 * n))), .ref 143], es)) i_182_18 rfl ?_
    refine x0 (r := (20, [some (.ref 143), some (.int (zI n)), some (.int (zI (1285 + (4 * n))))], [.ref 143, .int (zI (1285 + (4 * n))), .ref 143], es)) i_182_19 rfl ?_
    refine x0 (r := (21, [some (.ref 143), some (.int (zI n)), some (.int (zI (1285 + (4 * n))))], [.int (zI 0), .ref 143, .int (zI (1285 + (4 * n))), .ref 143], es)) i_182_20 (by rfl) ?_
    refine x0 (r := (24, [some (.ref 143), some (.int (zI n)), some (.int (zI (1285 + (4 * n))))], [.int (zI 999), .int (zI 0), .ref 143, .int (zI (1285 + (4 * n))), .ref 143], es)) i_182_21 (by rfl) ?_
    refine x_call (vs := [.ref 143, .int (zI 0), .int (zI 999)]) (rs := [.int (zI (1285 + (4 * n))), .ref 143]) i_182_24 rfl (fun _ => rfl) rfl rfl rfl rfl rfl (pCall_v (p := 79) hs_es rfl rfl rfl rfl rfl (by decide) rfl rfl rfl rfl rfl) ?_
    show aW _ _ _ _ _ _ (0, [some (.ref 143), some (.int (zI 0)), some (.int (zI 999)), none], [], es)
    refine nmG_spec hs_es hT_es hr_es (by omega) (by omega) (fun es3 v4 p_es3 => ?_)
    have hs_es3 : sh es3 := p_es3.1
    have hT_es3 : hOK tT es3 := p_es3.2.1
    have hr_es3 : rR R n0 es3 := p_es3.2.2.1
    have r_v4 := nmG_rng p_es3
    show aW _ _ _ _ _ _ (27, [some (.ref 143), some (.int (zI n)), some (.int (zI (1285 + (4 * n))))], [.int (zI v4), .int (zI (1285 + (4 * n))), .ref 143], es3)
    exact K2 v1 p_v1 c2 es3 v4 p_es3
theorem s_grm44 {O : pOut} {d kc ks : Nat} {Q : pRes → Prop} {es : PH} {R : Nat → Int32} {n0 : Nat} {n k : Int} (hs_es : sh es) (hn : 0 ≤ n ∧ n ≤ 9) (hk : 1285 ≤ k ∧ k ≤ 1321) (hT_es : hOK tT es) (hr_es : rR R n0 es)
    (K1 : ∀ es1 : PH, ∀ v2 : Int, sgG R n0 42 es es1 v2 → v2 = 0 → aW O (d + 3) 182 kc ks Q (73, [some (.ref 143), some (.int (zI n)), some (.int (zI k))], [], es1))
    (K2 : ∀ es1 : PH, ∀ v2 : Int, sgG R n0 42 es es1 v2 → ¬ (v2 = 0) → ∀ es4 : PH, ltG R n0  es1 es4 → aW O (d + 3) 182 kc ks Q (62, [some (.ref 143), some (.int (zI n)), some (.int (zI k))], [.ref 143, .int (zI (k + 1)), .ref 143], es4)) :
    aW O (d + 3) 182 kc ks Q (44, [some (.ref 143), some (.int (zI n)), some (.int (zI k))], [], es) := by
  refine x0 (r := (45, [some (.ref 143), some (.int (zI n)), some (.int (zI k))], [.ref 143], es)) i_182_44 rfl ?_
  refine x0 (r := (47, [some (.ref 143), some (.int (zI n)), some (.int (zI k))], [.int (zI 42), .ref 143], es)) i_182_45 (by rfl) ?_
  refine x_call (vs := [.ref 143, .int (zI 42)]) (rs := []) i_182_47 rfl (fun _ => rfl) rfl rfl rfl rfl rfl (pCall_v (p := 79) hs_es rfl rfl rfl rfl rfl (by decide) rfl rfl rfl rfl rfl) ?_
  show aW _ _ _ _ _ _ (0, [some (.ref 143), some (.int (zI 42))], [], es)
  refine sgG_spec hs_es hT_es hr_es (by omega) (fun es1 v2 p_es1 => ?_)
  have hs_es1 : sh es1 := p_es1.1
  have hT_es1 : hOK tT es1 := p_es1.2.1
  have hr_es1 : rR R n0 es1 := p_es1.2.2.1
  have r_v2 := sgG_rng p_es1
  show aW _ _ _ _ _ _ (50, [some (.ref 143), some (.int (zI n)), some (.int (zI k))], [.int (zI v2)], es1)
  by_cases c3 : v2 = 0
  · refine x_ifT i_182_50 (by unfold i32 iLO iHI; omega) rfl (by simp only [zC, cR]; omega) ?_
    exact K1 es1 v2 p_es1 c3
  · refine x_ifF i_182_50 (by unfold i32 iLO iHI; omega) rfl (by simp only [zC, cR]; omega) ?_
    refine x0 (r := (54, [some (.ref 143), some (.int (zI n)), some (.int (zI k))], [.ref 143], es1)) i_182_53 rfl ?_
    refine x_call (vs := [.ref 143]) (rs := []) i_182_54 rfl (fun _ => rfl) rfl rfl rfl rfl rfl (pCall_v (p := 79) hs_es1 rfl rfl rfl rfl rfl (by decide) rfl rfl rfl rfl rfl) ?_
    show aW _ _ _ _ _ _ (0, [some (.ref 143)], [], es1)
    refine ltG_spec hs_es1 hT_es1 hr_es1 (fun es4 p_es4 => ?_)
    have hs_es4 : sh es4 := p_es4.1
    have hT_es4 : hOK tT es4 := p_es4.2.1
    have hr_es4 : rR R n0 es4 := p_es4.2.2.1
    show aW _ _ _ _ _ _ (57, [some (.ref 143), some (.int (zI n)), some (.int (zI k))], [], es4)
    refine x0 (r := (58, [some (.ref 143), some (.int (zI n)), some (.int (zI k))], [.ref 143], es4)) i_182_57 rfl ?_
    refine x0 (r := (59, [some (.ref 143), some (.int (zI n)), some (.int (zI k))], [.int (zI k), .ref 143], es4)) i_182_58 rfl ?_
    refine x0 (r := (60, [some (.ref 143), some (.int (zI n)), some (.int (zI k))], [.int (zI 1), .int (zI k), .ref 143], es4)) i_182_59 (by rfl) ?_
    refine x_iadd i_182_60 ?_
    refine x0 (r := (62, [some (.ref 143), some (.int (zI n)), some (.int (zI k))], [.ref 143, .int (zI (k + 1)), .ref 143], es4)) i_182_61 rfl ?_
    exact K2 es1 v2 p_es1 c3 es4 p_es4
theorem s_grm85 {O : pOut} {d kc ks : Nat} {Q : pRes → Prop} {es : PH} {n k : Int} (hs_es : sh es) (hn : 0 ≤ n ∧ n ≤ 9) (hk : 1285 ≤ k ∧ k ≤ 1321) (hT_es : hOK tT es)
    (K1 : ∀ es1 : PH, es1 = sI es 79 9 (.int (zI 0)) → aW O d 182 kc ks Q (93, [some (.ref 143), some (.int (zI n)), some (.int (zI k))], [.ref 44, .ref 143], es1)) :
    aW O d 182 kc ks Q (85, [some (.ref 143), some (.int (zI n)), some (.int (zI k))], [], es) := by
  refine x0 (r := (86, [some (.ref 143), some (.int (zI n)), some (.int (zI k))], [.ref 143], es)) i_182_85 rfl ?_
  refine x0 (r := (87, [some (.ref 143), some (.int (zI n)), some (.int (zI k))], [.int (zI 0), .ref 143], es)) i_182_86 (by rfl) ?_
  refine x_puti (p := 79) (ty := .int) i_182_87 hs_es rfl rfl rfl (Or.inl rfl) ?_
  obtain ⟨es1, e_es1⟩ : ∃ z : PH, z = sI es 79 9 (.int (zI 0)) := ⟨_, rfl⟩
  have hs_es1 : sh es1 := by rw [e_es1]; exact sh_sI hs_es (p := 79) (b := 9) rfl rfl
  have hT_es1 : hOK tT es1 := by rw [e_es1]; exact hOK_sI hT_es (p := 79) (b := 9) rfl rfl (by rw [zI_toInt (by unfold i32 iLO iHI; omega)]; exact ⟨by show (0 : Int) ≤ 0; omega, by show 0 ≤ (6 : Int); omega⟩)
  rw [← e_es1]
  refine x0 (r := (91, [some (.ref 143), some (.int (zI n)), some (.int (zI k))], [.ref 143], es1)) i_182_90 rfl ?_
  refine x1 (r := (93, [some (.ref 143), some (.int (zI n)), some (.int (zI k))], [.ref 44, .ref 143], es1)) i_182_91 rfl (fun _ => rfl) rfl ?_
  exact K1 es1 e_es1
theorem s_grm96 {O : pOut} {d kc ks : Nat} {Q : pRes → Prop} {es : PH} {n k v : Int} (hs_es : sh es) (hn : 0 ≤ n ∧ n ≤ 9) (hk : 1285 ≤ k ∧ k ≤ 1321) (hv : v = 0 ∨ v = 1) (hT_es : hOK tT es)
    (K1 : v = 0 → aW O d 182 kc ks Q (108, [some (.ref 143), some (.int (zI n)), some (.int (zI k))], [], es))
    (K2 : ¬ (v = 0) → aW O d 182 kc ks Q (100, [some (.ref 143), some (.int (zI n)), some (.int (zI k))], [.ref 143], es)) :
    aW O d 182 kc ks Q (96, [some (.ref 143), some (.int (zI n)), some (.int (zI k))], [.int (zI v)], es) := by
  by_cases c1 : v = 0
  · refine x_ifT i_182_96 (by unfold i32 iLO iHI; omega) rfl (by simp only [zC, cR]; omega) ?_
    exact K1 c1
  · refine x_ifF i_182_96 (by unfold i32 iLO iHI; omega) rfl (by simp only [zC, cR]; omega) ?_
    refine x0 (r := (100, [some (.ref 143), some (.int (zI n)), some (.int (zI k))], [.ref 143], es)) i_182_99 rfl ?_
    exact K2 c1
theorem s_gral0 {O : pOut} {d kc ks : Nat} {Q : pRes → Prop} {es : PH} (hs_es : sh es) (hT_es : hOK tT es)
    (K1 : ∀ v1 : Int, v1 = (gI es 79 5).toInt → ∀ es2 : PH, es2 = sI es 79 7 (.int (zI v1)) → ∀ es3 : PH, es3 = sI es2 79 5 (.int (zI 0)) → ∀ es4 : PH, es4 = sI es3 79 6 (.int (zI 0)) → ∀ es5 : PH, es5 = sI es4 79 12 (.int (zI 0)) → aW O d 175 kc ks Q (24, [some (.ref 143), some (.int (zI 0)), none], [.ref 143], es5)) :
    aW O d 175 kc ks Q (0, [some (.ref 143), some (.int (zI 0)), none], [], es) := by
  refine x0 (r := (1, [some (.ref 143), some (.int (zI 0)), none], [.ref 143], es)) i_175_0 rfl ?_
  refine x0 (r := (2, [some (.ref 143), some (.int (zI 0)), none], [.ref 143, .ref 143], es)) i_175_1 rfl ?_
  refine x_geti (p := 79) i_175_2 hs_es rfl rfl ?_
  obtain ⟨v1, e_v1⟩ : ∃ z : Int, z = (gI es 79 5).toInt := ⟨_, rfl⟩
  rw [← e_v1]
  have r_v1 : iLO ≤ v1 ∧ v1 ≤ iHI := by rw [e_v1]; exact i32_rng _
  unfold iLO iHI at r_v1
  have b_v1 : (0 : Int) ≤ v1 ∧ v1 ≤ (400 : Int) := by rw [e_v1]; exact gI_bd hT_es (p := 79) (b := 5) rfl rfl
  refine x_puti (p := 79) (ty := .int) i_175_5 hs_es rfl rfl rfl (Or.inl rfl) ?_
  obtain ⟨es2, e_es2⟩ : ∃ z : PH, z = sI es 79 7 (.int (zI v1)) := ⟨_, rfl⟩
  have hs_es2 : sh es2 := by rw [e_es2]; exact sh_sI hs_es (p := 79) (b := 7) rfl rfl
  have hT_es2 : hOK tT es2 := by rw [e_es2]; exact hOK_sI hT_es (p := 79) (b := 7) rfl rfl (by rw [zI_toInt (by unfold i32 iLO iHI; omega)]; exact ⟨by show (0 : Int) ≤ v1; omega, by show v1 ≤ (400 : Int); omega⟩)
  rw [← e_es2]
  refine x0 (r := (9, [some (.ref 143), some (.int (zI 0)), none], [.ref 143], es2)) i_175_8 rfl ?_
  refine x0 (r := (10, [some (.ref 143), some (.int (zI 0)), none], [.int (zI 0), .ref 143], es2)) i_175_9 (by rfl) ?_
  refine x_puti (p := 79) (ty := .int) i_175_10 hs_es2 rfl rfl rfl (Or.inl rfl) ?_
  obtain ⟨es3, e_es3⟩ : ∃ z : PH, z = sI es2 79 5 (.int (zI 0)) := ⟨_, rfl⟩
  have hs_es3 : sh es3 := by rw [e_es3]; exact sh_sI hs_es2 (p := 79) (b := 5) rfl rfl
  have hT_es3 : hOK tT es3 := by rw [e_es3]; exact hOK_sI hT_es2 (p := 79) (b := 5) rfl rfl (by rw [zI_toInt (by unfold i32 iLO iHI; omega)]; exact ⟨by show (0 : Int) ≤ 0; omega, by show 0 ≤ (400 : Int); omega⟩)
  rw [← e_es3]
  refine x0 (r := (14, [some (.ref 143), some (.int (zI 0)), none], [.ref 143], es3)) i_175_13 rfl ?_
  refine x0 (r := (15, [some (.ref 143), some (.int (zI 0)), none], [.int (zI 0), .ref 143], es3)) i_175_14 (by rfl) ?_
  refine x_puti (p := 79) (ty := .int) i_175_15 hs_es3 rfl rfl rfl (Or.inl rfl) ?_
  obtain ⟨es4, e_es4⟩ : ∃ z : PH, z = sI es3 79 6 (.int (zI 0)) := ⟨_, rfl⟩
  have hs_es4 : sh es4 := by rw [e_es4]; exact sh_sI hs_es3 (p := 79) (b := 6) rfl rfl
  have hT_es4 : hOK tT es4 := by rw [e_es4]; exact hOK_sI hT_es3 (p := 79) (b := 6) rfl rfl (by rw [zI_toInt (by unfold i32 iLO iHI; omega)]; exact ⟨by show (0 : Int) ≤ 0; omega, by show 0 ≤ (400 : Int); omega⟩)
  rw [← e_es4]
  refine x0 (r := (19, [some (.ref 143), some (.int (zI 0)), none], [.ref 143], es4)) i_175_18 rfl ?_
  refine x0 (r := (20, [some (.ref 143), some (.int (zI 0)), none], [.int (zI 0), .ref 143], es4)) i_175_19 (by rfl) ?_
  refine x_puti (p := 79) (ty := .int) i_175_20 hs_es4 rfl rfl rfl (Or.inl rfl) ?_
  obtain ⟨es5, e_es5⟩ : ∃ z : PH, z = sI es4 79 12 (.int (zI 0)) := ⟨_, rfl⟩
  have hs_es5 : sh es5 := by rw [e_es5]; exact sh_sI hs_es4 (p := 79) (b := 12) rfl rfl
  have hT_es5 : hOK tT es5 := by rw [e_es5]; exact hOK_sI hT_es4 (p := 79) (b := 12) rfl rfl (by rw [zI_toInt (by unfold i32 iLO iHI; omega)]; exact ⟨by show (0 : Int) ≤ 0; omega, by show 0 ≤ (400 : Int); omega⟩)
  rw [← e_es5]
  refine x0 (r := (24, [some (.ref 143), some (.int (zI 0)), none], [.ref 143], es5)) i_175_23 rfl ?_
  exact K1 v1 e_v1 es2 e_es2 es3 e_es3 es4 e_es4 es5 e_es5
theorem s_gral27 {O : pOut} {d kc ks : Nat} {Q : pRes → Prop} {es : PH} (hs_es : sh es) (hT_es : hOK tT es)
    (K1 : ∀ v1 : Int, v1 = (gI es 79 6).toInt → ∀ v2 : Int, v2 = (gI es 79 7).toInt → v1 ≠ v2 → aW O d 175 kc ks Q (42, [some (.ref 143), some (.int (zI 0)), some (.int (zI 0))], [], es))
    (K2 : ∀ v1 : Int, v1 = (gI es 79 6).toInt → ∀ v2 : Int, v2 = (gI es 79 7).toInt → ¬ (v1 ≠ v2) → Q (.inl (some (.int (zI 0))), es, kc, ks)) :
    aW O d 175 kc ks Q (27, [some (.ref 143), some (.int (zI 0)), none], [], es) := by
  refine x0 (r := (28, [some (.ref 143), some (.int (zI 0)), none], [.ref 143], es)) i_175_27 rfl ?_
  refine x_geti (p := 79) i_175_28 hs_es rfl rfl ?_
  obtain ⟨v1, e_v1⟩ : ∃ z : Int, z = (gI es 79 6).toInt := ⟨_, rfl⟩
  rw [← e_v1]
  have r_v1 : iLO ≤ v1 ∧ v1 ≤ iHI := by rw [e_v1]; exact i32_rng _
  unfold iLO iHI at r_v1
  have b_v1 : (0 : Int) ≤ v1 ∧ v1 ≤ (400 : Int) := by rw [e_v1]; exact gI_bd hT_es (p := 79) (b := 6) rfl rfl
  refine x0 (r := (32, [some (.ref 143), some (.int (zI 0)), none], [.ref 143, .int (zI v1)], es)) i_175_31 rfl ?_
  refine x_geti (p := 79) i_175_32 hs_es rfl rfl ?_
  obtain ⟨v2, e_v2⟩ : ∃ z : Int, z = (gI es 79 7).toInt := ⟨_, rfl⟩
  rw [← e_v2]
  have r_v2 : iLO ≤ v2 ∧ v2 ≤ iHI := by rw [e_v2]; exact i32_rng _
  unfold iLO iHI at r_v2
  have b_v2 : (0 : Int) ≤ v2 ∧ v2 ≤ (400 : Int) := by rw [e_v2]; exact gI_bd hT_es (p := 79) (b := 7) rfl rfl
  by_cases c3 : v1 ≠ v2
  · refine x_cmpT i_175_35 (by unfold i32 iLO iHI; omega) (by unfold i32 iLO iHI; omega) rfl (by simp only [zC, cR]; omega) ?_
    refine x0 (r := (41, [some (.ref 143), some (.int (zI 0)), none], [.int (zI 0)], es)) i_175_40 (by rfl) ?_
    refine x0 (r := (42, [some (.ref 143), some (.int (zI 0)), some (.int (zI 0))], [], es)) i_175_41 rfl ?_
    exact K1 v1 e_v1 v2 e_v2 c3
  · refine x_cmpF i_175_35 (by unfold i32 iLO iHI; omega) (by unfold i32 iLO iHI; omega) rfl (by simp only [zC, cR]; omega) ?_
    refine x0 (r := (39, [some (.ref 143), some (.int (zI 0)), none], [.int (zI 0)], es)) i_175_38 (by rfl) ?_
    refine x_ret (v := some (.int (zI 0))) i_175_39 rfl (fun _ => rfl) rfl rfl rfl ?_
    exact K2 v1 e_v1 v2 e_v2 c3
theorem s_gral42 {O : pOut} {d kc ks : Nat} {Q : pRes → Prop} {es : PH} {R : Nat → Int32} {n0 : Nat} {ln : Int} (hs_es : sh es) (hn : 0 ≤ ln ∧ ln ≤ 10) (hT_es : hOK tT es) (hr_es : rR R n0 es)
    (K1 : ∀ es1 : PH, ltG R n0  es es1 → ln ≠ 10 → aW O (d + 3) 175 kc ks Q (80, [some (.ref 143), some (.int (zI 0)), some (.int (zI ln))], [.int (zI ln), .ref 143], es1))
    (K2 : ∀ es1 : PH, ltG R n0  es es1 → ¬ (ln ≠ 10) → Q (.inl (some (.int (zI (-1)))), es1, kc, ks)) :
    aW O (d + 3) 175 kc ks Q (42, [some (.ref 143), some (.int (zI 0)), some (.int (zI ln))], [], es) := by
  refine x0 (r := (43, [some (.ref 143), some (.int (zI 0)), some (.int (zI ln))], [.ref 143], es)) i_175_42 rfl ?_
  refine x_call (vs := [.ref 143]) (rs := []) i_175_43 rfl (fun _ => rfl) rfl rfl rfl rfl rfl (pCall_v (p := 79) hs_es rfl rfl rfl rfl rfl (by decide) rfl rfl rfl rfl rfl) ?_
  show aW _ _ _ _ _ _ (0, [some (.ref 143)], [], es)
  refine ltG_spec hs_es hT_es hr_es (fun es1 p_es1 => ?_)
  have hs_es1 : sh es1 := p_es1.1
  have hT_es1 : hOK tT es1 := p_es1.2.1
  have hr_es1 : rR R n0 es1 := p_es1.2.2.1
  show aW _ _ _ _ _ _ (46, [some (.ref 143), some (.int (zI 0)), some (.int (zI ln))], [], es1)
  refine x0 (r := (47, [some (.ref 143), some (.int (zI 0)), some (.int (zI ln))], [.int (zI ln)], es1)) i_175_46 rfl ?_
  refine x0 (r := (48, [some (.ref 143), some (.int (zI 0)), some (.int (zI ln))], [.int (zI 0), .int (zI ln)], es1)) i_175_47 rfl ?_
  refine x_ifT i_175_48 (by unfold i32 iLO iHI; omega) rfl (by simp only [zC, cR]; omega) ?_
  refine x0 (r := (58, [some (.ref 143), some (.int (zI 0)), some (.int (zI ln))], [.int (zI 10), .int (zI ln)], es1)) i_175_56 (by rfl) ?_
  by_cases c2 : ln ≠ 10
  · refine x_cmpT i_175_58 (by unfold i32 iLO iHI; omega) (by unfold i32 iLO iHI; omega) rfl (by simp only [zC, cR]; omega) ?_
    refine x0 (r := (64, [some (.ref 143), some (.int (zI 0)), some (.int (zI ln))], [.int (zI 0)], es1)) i_175_63 rfl ?_
    refine x_ifT i_175_64 (by unfold i32 iLO iHI; omega) rfl (by simp only [zC, cR]; omega) ?_
    refine x0 (r := (79, [some (.ref 143), some (.int (zI 0)), some (.int (zI ln))], [.ref 143], es1)) i_175_78 rfl ?_
    refine x0 (r := (80, [some (.ref 143), some (.int (zI 0)), some (.int (zI ln))], [.int (zI ln), .ref 143], es1)) i_175_79 rfl ?_
    exact K1 es1 p_es1 c2
  · refine x_cmpF i_175_58 (by unfold i32 iLO iHI; omega) (by unfold i32 iLO iHI; omega) rfl (by simp only [zC, cR]; omega) ?_
    refine x0 (r := (62, [some (.ref 143), some (.int (zI 0)), some (.int (zI ln))], [.int (zI (-1))], es1)) i_175_61 (by rfl) ?_
    refine x_ret (v := some (.int (zI (-1)))) i_175_62 rfl (fun _ => rfl) rfl rfl rfl ?_
    exact K2 es1 p_es1 c2
theorem s_gral83 {O : pOut} {d kc ks : Nat} {Q : pRes → Prop} {es : PH} {R : Nat → Int32} {n0 : Nat} {ln v : Int} (hs_es : sh es) (hn : 0 ≤ ln ∧ ln ≤ 9) (hv : v = 0 ∨ v = 1) (hT_es : hOK tT es) (hr_es : rR R n0 es)
    (K1 : v ≠ 0 → ∀ es2 : PH, blG R n0  es es2 → ∀ v3 : Int, v3 = (gI es2 79 6).toInt → ∀ v4 : Int, v4 = (gI es2 79 7).toInt → v3 ≠ v4 → ∀ v6 : Int, v6 = (gI es2 79 6).toInt → ∀ v7 : Int, v7 = (gI es2 79 7).toInt → v7 ≤ v6 → Q (.inl (some (.int (zI (-1)))), es2, kc, ks))
    (K2 : v ≠ 0 → ∀ es2 : PH, blG R n0  es es2 → ∀ v3 : Int, v3 = (gI es2 79 6).toInt → ∀ v4 : Int, v4 = (gI es2 79 7).toInt → v3 ≠ v4 → ∀ v6 : Int, v6 = (gI es2 79 6).toInt → ∀ v7 : Int, v7 = (gI es2 79 7).toInt → ¬ (v7 ≤ v6) → ∀ v9 : Int, v9 = (gI es2 79 6).toInt → ∀ v10 : Int, v10 = (gA es2 82 v9.toNat).toInt → v10 < 59 → Q (.inl (some (.int (zI (-1)))), es2, kc, ks))
    (K3 : v ≠ 0 → ∀ es2 : PH, blG R n0  es es2 → ∀ v3 : Int, v3 = (gI es2 79 6).toInt → ∀ v4 : Int, v4 = (gI es2 79 7).toInt → v3 ≠ v4 → ∀ v6 : Int, v6 = (gI es2 79 6).toInt → ∀ v7 : Int, v7 = (gI es2 79 7).toInt → ¬ (v7 ≤ v6) → ∀ v9 : Int, v9 = (gI es2 79 6).toInt → ∀ v10 : Int, v10 = (gA es2 82 v9.toNat).toInt → ¬ (v10 < 59) → ∀ v12 : Int, v12 = (gI es2 79 6).toInt → ∀ v13 : Int, v13 = (gA es2 82 v12.toNat).toInt → 59 < v13 → Q (.inl (some (.int (zI (-1)))), es2, kc, ks))
    (K4 : v ≠ 0 → ∀ es2 : PH, blG R n0  es es2 → ∀ v3 : Int, v3 = (gI es2 79 6).toInt → ∀ v4 : Int, v4 = (gI es2 79 7).toInt → v3 ≠ v4 → ∀ v6 : Int, v6 = (gI es2 79 6).toInt → ∀ v7 : Int, v7 = (gI es2 79 7).toInt → ¬ (v7 ≤ v6) → ∀ v9 : Int, v9 = (gI es2 79 6).toInt → ∀ v10 : Int, v10 = (gA es2 82 v9.toNat).toInt → ¬ (v10 < 59) → ∀ v12 : Int, v12 = (gI es2 79 6).toInt → ∀ v13 : Int, v13 = (gA es2 82 v12.toNat).toInt → ¬ (59 < v13) → ∀ v15 : Int, v15 = (gI es2 79 6).toInt → ∀ es16 : PH, es16 = sI es2 79 6 (.int (zI (v15 + 1))) → aW O (d + 2) 175 kc ks Q (42, [some (.ref 143), some (.int (zI 0)), some (.int (zI (ln + 1)))], [], es16))
    (K5 : v ≠ 0 → ∀ es2 : PH, blG R n0  es es2 → ∀ v3 : Int, v3 = (gI es2 79 6).toInt → ∀ v4 : Int, v4 = (gI es2 79 7).toInt → ¬ (v3 ≠ v4) → Q (.inl (some (.int (zI (ln + 1)))), es2, kc, ks))
    (K6 : ¬ (v ≠ 0) → Q (.inl (some (.int (zI (-1)))), es, kc, ks)) :
    aW O (d + 2) 175 kc ks Q (83, [some (.ref 143), some (.int (zI 0)), some (.int (zI ln))], [.int (zI v)], es) := by
  by_cases c1 : v ≠ 0
  · refine x_ifT i_175_83 (by unfold i32 iLO iHI; omega) rfl (by simp only [zC, cR]; omega) ?_
    refine x0 (r := (89, [some (.ref 143), some (.int (zI 0)), some (.int (zI ln))], [.ref 143], es)) i_175_88 rfl ?_
    refine x_call (vs := [.ref 143]) (rs := []) i_175_89 rfl (fun _ => rfl) rfl rfl rfl rfl rfl (pCall_v (p := 79) hs_es rfl rfl rfl rfl rfl (by decide) rfl rfl rfl rfl rfl) ?_
    show aW _ _ _ _ _ _ (0, [some (.ref 143)], [], es)
    refine blG_spec hs_es hT_es hr_es (fun es2 p_es2 => ?_)
    have hs_es2 : sh es2 := p_es2.1
    have hT_es2 : hOK tT es2 := p_es2.2.1
    have hr_es2 : rR R n0 es2 := p_es2.2.2.1
    show aW _ _ _ _ _ _ (92, [some (.ref 143), some (.int (zI 0)), some (.int (zI ln))], [], es2)
    refine x0 (r := (93, [some (.ref 143), some (.int (zI 0)), some (.int (zI ln))], [.ref 143], es2)) i_175_92 rfl ?_
    refine x_geti (p := 79) i_175_93 hs_es2 rfl rfl ?_
    obtain ⟨v3, e_v3⟩ : ∃ z : Int, z = (gI es2 79 6).toInt := ⟨_, rfl⟩
    rw [← e_v3]
    have r_v3 : iLO ≤ v3 ∧ v3 ≤ iHI := by rw [e_v3]; exact i32_rng _
    unfold iLO iHI at r_v3
    have b_v3 : (0 : Int) ≤ v3 ∧ v3 ≤ (400 : Int) := by rw [e_v3]; exact gI_bd hT_es2 (p := 79) (b := 6) rfl rfl
    refine x0 (r := (97, [some (.ref 143), some (.int (zI 0)), some (.int (zI ln))], [.ref 143, .int (zI v3)], es2)) i_175_96 rfl ?_
    refine x_geti (p := 79) i_175_97 hs_es2 rfl rfl ?_
    obtain ⟨v4, e_v4⟩ : ∃ z : Int, z = (gI es2 79 7).toInt := ⟨_, rfl⟩
    rw [← e_v4]
    have r_v4 : iLO ≤ v4 ∧ v4 ≤ iHI := by rw [e_v4]; exact i32_rng _
    unfold iLO iHI at r_v4
    have b_v4 : (0 : Int) ≤ v4 ∧ v4 ≤ (400 : Int) := by rw [e_v4]; exact gI_bd hT_es2 (p := 79) (b := 7) rfl rfl
    by_cases c5 : v3 ≠ v4
    · refine x_cmpT i_175_100 (by unfold i32 iLO iHI; omega) (by unfold i32 iLO iHI; omega) rfl (by simp only [zC, cR]; omega) ?_
      refine x0 (r := (108, [some (.ref 143), some (.int (zI 0)), some (.int (zI ln))], [.ref 143], es2)) i_175_107 rfl ?_
      refine x0 (r := (110, [some (.ref 143), some (.int (zI 0)), some (.int (zI ln))], [.int (zI 59), .ref 143], es2)) i_175_108 (by rfl) ?_
      refine x0 (r := (112, [some (.ref 143), some (.int (zI 0)), some (.int (zI ln))], [.int (zI 59), .int (zI 59), .ref 143], es2)) i_175_110 (by rfl) ?_
      refine x_call (vs := [.ref 143, .int (zI 59), .int (zI 59)]) (rs := []) i_175_112 rfl (fun _ => rfl) rfl rfl rfl rfl rfl (pCall_v (p := 79) hs_es2 rfl rfl rfl rfl rfl (by decide) rfl rfl rfl rfl rfl) ?_
      show aW _ _ _ _ _ _ (0, [some (.ref 143), some (.int (zI 59)), some (.int (zI 59))], [], es2)
      refine x0 (r := (1, [some (.ref 143), some (.int (zI 59)), some (.int (zI 59))], [.ref 143], es2)) i_177_0 rfl ?_
      refine x_geti (p := 79) i_177_1 hs_es2 rfl rfl ?_
      obtain ⟨v6, e_v6⟩ : ∃ z : Int, z = (gI es2 79 6).toInt := ⟨_, rfl⟩
      rw [← e_v6]
      have r_v6 : iLO ≤ v6 ∧ v6 ≤ iHI := by rw [e_v6]; exact i32_rng _
      unfold iLO iHI at r_v6
      have b_v6 : (0 : Int) ≤ v6 ∧ v6 ≤ (400 : Int) := by rw [e_v6]; exact gI_bd hT_es2 (p := 79) (b := 6) rfl rfl
      refine x0 (r := (5, [some (.ref 143), some (.int (zI 59)), some (.int (zI 59))], [.ref 143, .int (zI v6)], es2)) i_177_4 rfl ?_
      refine x_geti (p := 79) i_177_5 hs_es2 rfl rfl ?_
      obtain ⟨v7, e_v7⟩ : ∃ z : Int, z = (gI es2 79 7).toInt := ⟨_, rfl⟩
      rw [← e_v7]
      have r_v7 : iLO ≤ v7 ∧ v7 ≤ iHI := by rw [e_v7]; exact i32_rng _
      unfold iLO iHI at r_v7
      have b_v7 : (0 : Int) ≤ v7 ∧ v7 ≤ (400 : Int) := by rw [e_v7]; exact gI_bd hT_es2 (p := 79) (b := 7) rfl rfl
      by_cases c8 : v7 ≤ v6
      · refine x_cmpT i_177_8 (by unfold i32 iLO iHI; omega) (by unfold i32 iLO iHI; omega) rfl (by simp only [zC, cR]; omega) ?_
        refine x0 (r := (42, [some (.ref 143), some (.int (zI 59)), some (.int (zI 59))], [.int (zI 0)], es2)) i_177_41 (by rfl) ?_
        refine x_ret (v := some (.int (zI 0))) i_177_42 rfl (fun _ => rfl) rfl rfl (pFin_b (by omega)) ?_
        show aW _ _ _ _ _ _ (115, [some (.ref 143), some (.int (zI 0)), some (.int (zI ln))], [.int (zI 0)], es2)
        refine x_ifF i_175_115 (by unfold i32 iLO iHI; omega) rfl (by simp only [zC, cR]; omega) ?_
        refine x0 (r := (119, [some (.ref 143), some (.int (zI 0)), some (.int (zI ln))], [.int (zI (-1))], es2)) i_175_118 (by rfl) ?_
        refine x_ret (v := some (.int (zI (-1)))) i_175_119 rfl (fun _ => rfl) rfl rfl rfl ?_
        exact K1 c1 es2 p_es2 v3 e_v3 v4 e_v4 c5 v6 e_v6 v7 e_v7 c8
      · refine x_cmpF i_177_8 (by unfold i32 iLO iHI; omega) (by unfold i32 iLO iHI; omega) rfl (by simp only [zC, cR]; omega) ?_
        refine x0 (r := (12, [some (.ref 143), some (.int (zI 59)), some (.int (zI 59))], [.ref 143], es2)) i_177_11 rfl ?_
        refine x_getr (p := 79) (k := 146) i_177_12 hs_es2 rfl rfl ?_
        show aW _ _ _ _ _ _ (15, [some (.ref 143), some (.int (zI 59)), some (.int (zI 59))], [.ref 146], es2)
        refine x0 (r := (16, [some (.ref 143), some (.int (zI 59)), some (.int (zI 59))], [.ref 143, .ref 146], es2)) i_177_15 rfl ?_
        refine x_geti (p := 79) i_177_16 hs_es2 rfl rfl ?_
        obtain ⟨v9, e_v9⟩ : ∃ z : Int, z = (gI es2 79 6).toInt := ⟨_, rfl⟩
        rw [← e_v9]
        have r_v9 : iLO ≤ v9 ∧ v9 ≤ iHI := by rw [e_v9]; exact i32_rng _
        unfold iLO iHI at r_v9
        have b_v9 : (0 : Int) ≤ v9 ∧ v9 ≤ (400 : Int) := by rw [e_v9]; exact gI_bd hT_es2 (p := 79) (b := 6) rfl rfl
        refine x_bald (p := 82) i_177_19 hs_es2 rfl (by decide) (by unfold i32 iLO iHI; omega) (by omega) (by omega) ?_
        obtain ⟨v10, e_v10⟩ : ∃ z : Int, z = (gA es2 82 v9.toNat).toInt := ⟨_, rfl⟩
        rw [← e_v10]
        have r_v10 : iLO ≤ v10 ∧ v10 ≤ iHI := by rw [e_v10]; exact i32_rng _
        unfold iLO iHI at r_v10
        have b_v10 : (-128 : Int) ≤ v10 ∧ v10 ≤ (127 : Int) := by rw [e_v10]; exact gA_bd hT_es2 (p := 82) (k := v9.toNat) rfl (by omega) (by decide)
        refine x0 (r := (21, [some (.ref 143), some (.int (zI 59)), some (.int (zI 59))], [.int (zI 59), .int (zI v10)], es2)) i_177_20 rfl ?_
        by_cases c11 : v10 < 59
        · refine x_cmpT i_177_21 (by unfold i32 iLO iHI; omega) (by unfold i32 iLO iHI; omega) rfl (by simp only [zC, cR]; omega) ?_
          refine x0 (r := (42, [some (.ref 143), some (.int (zI 59)), some (.int (zI 59))], [.int (zI 0)], es2)) i_177_41 (by rfl) ?_
          refine x_ret (v := some (.int (zI 0))) i_177_42 rfl (fun _ => rfl) rfl rfl (pFin_b (by omega)) ?_
          show aW _ _ _ _ _ _ (115, [some (.ref 143), some (.int (zI 0)), some (.int (zI ln))], [.int (zI 0)], es2)
          refine x_ifF i_175_115 (by unfold i32 iLO iHI; omega) rfl (by simp only [zC, cR]; omega) ?_
          refine x0 (r := (119, [some (.ref 143), some (.int (zI 0)), some (.int (zI ln))], [.int (zI (-1))], es2)) i_175_118 (by rfl) ?_
          refine x_ret (v := some (.int (zI (-1)))) i_175_119 rfl (fun _ => rfl) rfl rfl rfl ?_
          exact K2 c1 es2 p_es2 v3 e_v3 v4 e_v4 c5 v6 e_v6 v7 e_v7 c8 v9 e_v9 v10 e_v10 c11
        · refine x_cmpF i_177_21 (by unfold i32 iLO iHI; omega) (by unfold i32 iLO iHI; omega) rfl (by simp only [zC, cR]; omega) ?_
          refine x0 (r := (25, [some (.ref 143), some (.int (zI 59)), some (.int (zI 59))], [.ref 143], es2)) i_177_24 rfl ?_
          refine x_getr (p := 79) (k := 146) i_177_25 hs_es2 rfl rfl ?_
          show aW _ _ _ _ _ _ (28, [some (.ref 143), some (.int (zI 59)), some (.int (zI 59))], [.ref 146], es2)
          refine x0 (r := (29, [some (.ref 143), some (.int (zI 59)), some (.int (zI 59))], [.ref 143, .ref 146], es2)) i_177_28 rfl ?_
          refine x_geti (p := 79) i_177_29 hs_es2 rfl rfl ?_
          obtain ⟨v12, e_v12⟩ : ∃ z : Int, z = (gI es2 79 6).toInt := ⟨_, rfl⟩
          rw [← e_v12]
          have r_v12 : iLO ≤ v12 ∧ v12 ≤ iHI := by rw [e_v12]; exact i32_rng _
          unfold iLO iHI at r_v12
          have b_v12 : (0 : Int) ≤ v12 ∧ v12 ≤ (400 : Int) := by rw [e_v12]; exact gI_bd hT_es2 (p := 79) (b := 6) rfl rfl
          refine x_bald (p := 82) i_177_32 hs_es2 rfl (by decide) (by unfold i32 iLO iHI; omega) (by omega) (by omega) ?_
          obtain ⟨v13, e_v13⟩ : ∃ z : Int, z = (gA es2 82 v12.toNat).toInt := ⟨_, rfl⟩
          rw [← e_v13]
          have r_v13 : iLO ≤ v13 ∧ v13 ≤ iHI := by rw [e_v13]; exact i32_rng _
          unfold iLO iHI at r_v13
          have b_v13 : (-128 : Int) ≤ v13 ∧ v13 ≤ (127 : Int) := by rw [e_v13]; exact gA_bd hT_es2 (p := 82) (k := v12.toNat) rfl (by omega) (by decide)
          refine x0 (r := (34, [some (.ref 143), some (.int (zI 59)), some (.int (zI 59))], [.int (zI 59), .int (zI v13)], es2)) i_177_33 rfl ?_
          by_cases c14 : 59 < v13
          · refine x_cmpT i_177_34 (by unfold i32 iLO iHI; omega) (by unfold i32 iLO iHI; omega) rfl (by simp only [zC, cR]; omega) ?_
            refine x0 (r := (42, [some (.ref 143), some (.int (zI 59)), some (.int (zI 59))], [.int (zI 0)], es2)) i_177_41 (by rfl) ?_
            refine x_ret (v := some (.int (zI 0))) i_177_42 rfl (fun _ => rfl) rfl rfl (pFin_b (by omega)) ?_
            show aW _ _ _ _ _ _ (115, [some (.ref 143), some (.int (zI 0)), some (.int (zI ln))], [.int (zI 0)], es2)
            refine x_ifF i_175_115 (by unfold i32 iLO iHI; omega) rfl (by simp only [zC, cR]; omega) ?_
            refine x0 (r := (119, [some (.ref 143), some (.int (zI 0)), some (.int (zI ln))], [.int (zI (-1))], es2)) i_175_118 (by rfl) ?_
            refine x_ret (v := some (.int (zI (-1)))) i_175_119 rfl (fun _ => rfl) rfl rfl rfl ?_
            exact K3 c1 es2 p_es2 v3 e_v3 v4 e_v4 c5 v6 e_v6 v7 e_v7 c8 v9 e_v9 v10 e_v10 c11 v12 e_v12 v13 e_v13 c14
          · refine x_cmpF i_177_34 (by unfold i32 iLO iHI; omega) (by unfold i32 iLO iHI; omega) rfl (by simp only [zC, cR]; omega) ?_
            refine x0 (r := (38, [some (.ref 143), some (.int (zI 59)), some (.int (zI 59))], [.int (zI 1)], es2)) i_177_37 (by rfl) ?_
            refine x0 (r := (42, [some (.ref 143), some (.int (zI 59)), some (.int (zI 59))], [.int (zI 1)], es2)) i_177_38 rfl ?_
            refine x_ret (v := some (.int (zI 1))) i_177_42 rfl (fun _ => rfl) rfl rfl (pFin_b (by omega)) ?_
            show aW _ _ _ _ _ _ (115, [some (.ref 143), some (.int (zI 0)), some (.int (zI ln))], [.int (zI 1)], es2)
            refine x_ifT i_175_115 (by unfold i32 iLO iHI; omega) rfl (by simp only [zC, cR]; omega) ?_
            refine x0 (r := (121, [some (.ref 143), some (.int (zI 0)), some (.int (zI ln))], [.ref 143], es2)) i_175_120 rfl ?_
            refine x0 (r := (122, [some (.ref 143), some (.int (zI 0)), some (.int (zI ln))], [.ref 143, .ref 143], es2)) i_175_121 rfl ?_
            refine x_geti (p := 79) i_175_122 hs_es2 rfl rfl ?_
            obtain ⟨v15, e_v15⟩ : ∃ z : Int, z = (gI es2 79 6).toInt := ⟨_, rfl⟩
            rw [← e_v15]
            have r_v15 : iLO ≤ v15 ∧ v15 ≤ iHI := by rw [e_v15]; exact i32_rng _
            unfold iLO iHI at r_v15
            have b_v15 : (0 : Int) ≤ v15 ∧ v15 ≤ (400 : Int) := by rw [e_v15]; exact gI_bd hT_es2 (p := 79) (b := 6) rfl rfl
            refine x0 (r := (126, [some (.ref 143), some (.int (zI 0)), some (.int (zI ln))], [.int (zI 1), .int (zI v15), .ref 143], es2)) i_175_125 (by rfl) ?_
            refine x_iadd i_175_126 ?_
            refine x_puti (p := 79) (ty := .int) i_175_127 hs_es2 rfl rfl rfl (Or.inl rfl) ?_
            obtain ⟨es16, e_es16⟩ : ∃ z : PH, z = sI es2 79 6 (.int (zI (v15 + 1))) := ⟨_, rfl⟩
            have hs_es16 : sh es16 := by rw [e_es16]; exact sh_sI hs_es2 (p := 79) (b := 6) rfl rfl
            have hT_es16 : hOK tT es16 := by rw [e_es16]; exact hOK_sI hT_es2 (p := 79) (b := 6) rfl rfl (by rw [zI_toInt (by unfold i32 iLO iHI; omega)]; exact ⟨by show (0 : Int) ≤ (v15 + 1); omega, by show (v15 + 1) ≤ (400 : Int); omega⟩)
            rw [← e_es16]
            refine x_iinc (x := ln) i_175_130 rfl (by show 2 < 3; decide) ?_
            show aW _ _ _ _ _ _ (133, [some (.ref 143), some (.int (zI 0)), some (.int (zI (ln + 1)))], [], es16)
            refine x0 (r := (42, [some (.ref 143), some (.int (zI 0)), some (.int (zI (ln + 1)))], [], es16)) i_175_133 rfl ?_
            exact K4 c1 es2 p_es2 v3 e_v3 v4 e_v4 c5 v6 e_v6 v7 e_v7 c8 v9 e_v9 v10 e_v10 c11 v12 e_v12 v13 e_v13 c14 v15 e_v15 es16 e_es16
    · refine x_cmpF i_175_100 (by unfold i32 iLO iHI; omega) (by unfold i32 iLO iHI; omega) rfl (by simp only [zC, cR]; omega) ?_
      refine x0 (r := (104, [some (.ref 143), some (.int (zI 0)), some (.int (zI ln))], [.int (zI ln)], es2)) i_175_103 rfl ?_
      refine x0 (r := (105, [some (.ref 143), some (.int (zI 0)), some (.int (zI ln))], [.int (zI 1), .int (zI ln)], es2)) i_175_104 (by rfl) ?_
      refine x_iadd i_175_105 ?_
      refine x_ret (v := some (.int (zI (ln + 1)))) i_175_106 rfl (fun _ => rfl) rfl rfl rfl ?_
      exact K5 c1 es2 p_es2 v3 e_v3 v4 e_v4 c5
  · refine x_ifF i_175_83 (by unfold i32 iLO iHI; omega) rfl (by simp only [zC, cR]; omega) ?_
    refine x0 (r := (87, [some (.ref 143), some (.int (zI 0)), some (.int (zI ln))], [.int (zI (-1))], es)) i_175_86 (by rfl) ?_
    refine x_ret (v := some (.int (zI (-1)))) i_175_87 rfl (fun _ => rfl) rfl rfl rfl ?_
    exact K6 c1
theorem rR_80 {R : Nat → Int32} {n i : Nat} {x : Int32} {es es' : PH} (hr : rR R n es) (he : es' = sA es 80 i x) : rR R n es' ∧ bT es' = bT es := by
  rw [he]
  exact ⟨rR_sA hr (by decide), bT_sA⟩
/-- a LINE whose end, or fault, is X -/
def lnG (X : Nat × Bool) (R : Nat → Int32) (n : Nat) (es' : PH) (v : Int) : Prop := (v = 1 ∧ X.2 = true ∧ hOK tT es' ∧ rR R n es' ∧ zNx (zR R) n (pT es').toNat = X.1 ∧ sT es' ≤ pT es') ∨ (v = 0 ∧ X.2 = false ∧ hOK tT es' ∧ bT es' = (X.1 : Nat))
section
variable {O : pOut} {d kc ks : Nat} {Q : pRes → Prop} {es : PH} {R : Nat → Int32} {n : Nat}
theorem rmG_spec {ln F q : Nat} (hn : ln ≤ 9) (hFn : n ≤ F) (hT : hOK tT es) (hr : rR R n es) (h0 : sT es ≤ pT es) (hp : (pT es).toNat = zRn (zR R) n zLe q) (hb : bT es = (q : Int)) (hqn : q ≤ n) (K : ∀ es' v, lnG (zMl (zR R) n F q) R n es' v → Q (.inl (some (.int (zI v))), es', kc, ks)) : aW O (d + 27) 182 kc ks Q (0, [some (.ref 143), some (.int (zI (ln : Int))), none], [], es) := by
  obtain ⟨t0, t1, t2, t3⟩ := tS80_ln ln (by omega)
  have hsb := sT_bd hT
  have hpb := pT_bd hT
  obtain ⟨hn4, hrng⟩ := rR_rng hT hr
  have hk : (1285 : Int) ≤ ((1285 + 4 * ln : Nat) : Int) ∧ ((1285 + 4 * ln : Nat) : Int) ≤ 1321 := ⟨by omega, by omega⟩
  have no : ∀ b e, zMl (zR R) n F q = (b, false) → hOK tT e → bT e = (b : Int) → Q (.inl (some (.int (zI 0))), e, kc, ks) := by
    intro b e hX h1 h2
    refine K e 0 (Or.inr ⟨rfl, by rw [hX], h1, ?_⟩)
    rw [hX]
    exact h2
  -- the end of the line
  have r108 : ∀ e, hOK tT e → rR R n e → sT e ≤ pT e → (zMl (zR R) n F q).2 = true → zNx (zR R) n (pT e).toNat = (zMl (zR R) n F q).1 → aW O (d + 27) 182 kc ks Q (108, [some (.ref 143), some (.int (zI (ln : Int))), some (.int (zI ((1285 + 4 * ln : Nat) : Int)))], [], e) := by
    intro e hTe hre hsp hX2 hX1
    refine s_rm108 (d := d + 27) (sh_of hTe) ⟨by omega, by omega⟩ hk hTe (fun v1 e1 es2 e2 => ?_)
    have hv1 : v1 = sT e := e1
    rw [hv1, show (((1285 + 4 * ln : Nat) : Int) + 3).toNat = 1285 + 4 * ln + 3 by omega] at e2
    have hse2 := sT_bd hTe
    obtain ⟨p1, p2, p3, p4, p5, p6, p7, p8⟩ := put80 hTe t3 (by omega) (by unfold i32 iLO iHI; omega) ⟨by omega, by omega⟩ e2
    exact K es2 1 (Or.inl ⟨rfl, hX2, p1, (rR_80 hre e2).1, by rw [p4]; exact hX1, by omega⟩)
  -- behind * FACT
  have r73 : ∀ e b, hOK tT e → rR R n e → sT e ≤ pT e → zNx (zR R) n (pT e).toNat = b → zMl (zR R) n F q = zMi (zR R) n F b → aW O (d + 27) 182 kc ks Q (73, [some (.ref 143), some (.int (zI (ln : Int))), some (.int (zI ((1285 + 4 * ln : Nat) : Int)))], [], e) := by
    intro e b hTe hre hsp hzb hX
    have hse2 := sT_bd hTe
    refine s_rm73 (d := d + 27) (sh_of hTe) ⟨by omega, by omega⟩ hk hTe (fun v1 e1 es2 e2 => ?_)
    have hv1 : v1 = sT e := e1
    rw [hv1, show (((1285 + 4 * ln : Nat) : Int) + 2).toNat = 1285 + 4 * ln + 2 by omega] at e2
    obtain ⟨p1, p2, p3, p4, p5, p6, p7, p8⟩ := put80 hTe t2 (by omega) (by unfold i32 iLO iHI; omega) ⟨by omega, by omega⟩ e2
    have r2 := (rR_80 hre e2).1
    refine s_grm85 (d := d + 27) (sh_of p1) ⟨by omega, by omega⟩ hk p1 (fun es3 e3 => ?_)
    obtain ⟨w1, w2, w3, w4, w5, w6⟩ := put9 p1 ⟨by omega, by omega⟩ e3
    obtain ⟨w7, -⟩ := rR_9 r2 e3
    have hz3 : zNx (zR R) n (pT es3).toNat = b := by rw [w3, p4]; exact hzb
    refine x_call (vs := [.ref 143, .ref 44]) (rs := []) i_182_93 rfl (fun _ => rfl) rfl rfl rfl rfl rfl (pCall_v (p := 79) (sh_of w1) rfl rfl rfl rfl rfl (by decide) rfl rfl rfl rfl rfl) ?_
    show aW _ _ _ _ _ _ (0, [some (.ref 143), some (.ref 44)], [], es3)
    refine psG_spec (d := d + 23) (i := 10) (wk := 44) (t := zWds.getD 10 []) (sh_of w1) w1 w7 rfl (by decide) rfl (by decide) (by decide) (fun es4 v4 p4' => ?_)
    show aW _ _ _ _ _ _ (96, [some (.ref 143), some (.int (zI (ln : Int))), some (.int (zI ((1285 + 4 * ln : Nat) : Int)))], [.int (zI v4)], es4)
    have hr4 := psG_rng p4'
    refine s_grm96 (d := d + 27) (sh_of p4'.2.1) ⟨by omega, by omega⟩ hk (by omega) p4'.2.1 (fun hv4 => ?_) (fun hv4 => ?_)
    · obtain ⟨c1, c2, c3, c4, c5, c6, c7⟩ := psG_no w1 hz3 p4' hv4
      obtain ⟨g1, g2⟩ := fB_sd w1 c3
      rw [zMi_n (by omega)] at hX
      exact r108 es4 c1 c2 (by omega) (by rw [hX]) (by rw [hX]; exact c4)
    · obtain ⟨c1, c2, c3, c4, c5, c6, c7, c8, c9⟩ := psG_ye w1 hz3 p4' hv4
      obtain ⟨g1, g2⟩ := fB_sd w1 c3
      rw [zMi_y (by omega)] at hX
      refine x_call (vs := [.ref 143]) (rs := []) i_182_100 rfl (fun _ => rfl) rfl rfl rfl rfl rfl (pCall_v (p := 79) (sh_of c1) rfl rfl rfl rfl rfl (by decide) rfl rfl rfl rfl rfl) ?_
      show aW _ _ _ _ _ _ (0, [some (.ref 143)], [], es4)
      refine rcG_all (d := d) hFn c1 c2 (by omega) (by omega) c4 (fun es5 v5 p5' => ?_)
      show aW _ _ _ _ _ _ (103, [some (.ref 143), some (.int (zI (ln : Int))), some (.int (zI ((1285 + 4 * ln : Nat) : Int)))], [.int (zI v5)], es5)
      obtain ⟨u1, u2, u3, u4⟩ := prG_v p5'
      refine s_rm103 (d := d + 27) (sh_of u2) ⟨by omega, by omega⟩ hk u1 u2 (fun hv => ?_) (fun hv => ?_)
      · obtain ⟨z1, z2⟩ := u3 hv
        obtain ⟨y1, y2, y3, y4, y5, y6, y7⟩ := z2
        exact r108 es5 y1 y2 (by omega) (by rw [hX]; exact z1) (by rw [hX]; exact y3)
      · obtain ⟨z1, z2⟩ := u4 (by omega)
        refine K es5 0 (Or.inr ⟨rfl, by rw [hX]; exact z1, u2, ?_⟩)
        rw [hX]
        exact z2
  have kat : ∀ (pc : Nat) (e : PH) (i x : Int) (kq : Nat), iRow 182 pc = some (.invokevirtual 210, kq, 183, 1, some .boolean) → hOK tT e → 1285 ≤ i ∧ i ≤ 1324 → i32 x → (∀ (y : Int), (y = 1 ∧ 0 ≤ x) ∨ (y = 0 ∧ x < 0) → aW O (d + 27) 182 kc ks Q (pc + 3, [some (.ref 143), some (.int (zI (ln : Int))), some (.int (zI ((1285 + 4 * ln : Nat) : Int)))], [.int (zI y)], sA e 80 i.toNat (zI x))) →
      aW O (d + 27) 182 kc ks Q (pc, [some (.ref 143), some (.int (zI (ln : Int))), some (.int (zI ((1285 + 4 * ln : Nat) : Int)))], [.int (zI x), .int (zI i), .ref 143], e) := by
    intro pc e i x kq hi' hTe hii hx K1
    refine x_call (vs := [.ref 143, .int (zI i), .int (zI x)]) (rs := []) hi' rfl (fun _ => rfl) rfl rfl rfl rfl rfl (pCall_v (p := 79) (sh_of hTe) rfl rfl rfl rfl rfl (by decide) rfl rfl rfl rfl rfl) ?_
    show aW _ _ _ _ _ _ (0, [some (.ref 143), some (.int (zI i)), some (.int (zI x))], [], e)
    exact ka_spec (d := d + 26) (sh_of hTe) hTe hii hx (fun y hy => K1 y hy)
  have hadd : ∀ {v : Int}, iswG (zWds.getD 9 []) R es v → (v = 0 ∨ v = 1) ∧ (v = 1 ↔ zCod (zR R) n q = -10) := by
    intro v hv
    refine ⟨hv.1, ?_⟩
    have h1 := zCod_word (i := 9) (w := zWds.getD 9 []) hrng rfl hqn
    rw [hv.2, show (bT es).toNat = q by omega, hp, ← h1]
    constructor <;> intro h <;> omega
  refine s_grm0 (d := d + 24) (sh_of hT) ⟨by omega, by omega⟩ hT hr (fun v1 p1 h1 => ?_) (fun v1 p1 h1 es3 v4 p4 => ?_)
  · have g1 := hadd p1
    exact no q es (zMl_a (by omega)) hT hb
  have hc0 : zCod (zR R) n q = -10 := by have g1 := hadd p1; omega
  have hbe := zBe_word (q := q) hrng (by omega) (by omega)
  have hq1 : zNx (zR R) n (pT es).toNat = zNn (zR R) n q := by rw [hp, ← hbe.2]; rfl
  obtain ⟨q1, q2, q3, q4, q5, q6, q7⟩ := p4
  rw [hq1] at q5 q6 q7
  obtain ⟨g1, g2⟩ := fB_sd hT q4
  have hq1n : zNn (zR R) n q ≤ n := by rw [← hq1]; exact zNx_le (by have := hr.2.2; omega)
  have hq1g : (pT es).toNat ≤ zNn (zR R) n q := by rw [← hq1]; exact zNx_ge
  have hcc := zCod_cases (q := zNn (zR R) n q) hrng
  have hv4 : -1 ≤ v4 ∧ v4 ≤ 999 := by rcases q7 with h | h <;> omega
  rw [show (1285 : Int) + 4 * (ln : Int) = ((1285 + 4 * ln : Nat) : Int) by omega]
  refine kat 27 es3 _ v4 _ i_182_27 q2 ⟨by omega, by omega⟩ (by unfold i32 iLO iHI; omega) (fun y hy => ?_)
  obtain ⟨es5, e5⟩ : ∃ z : PH, z = sA es3 80 ((1285 + 4 * ln : Nat) : Int).toNat (zI v4) := ⟨_, rfl⟩
  rw [← e5]
  rw [Int.toNat_natCast] at e5
  obtain ⟨a1, a2, a3, a4, a5, a6, a7, a8⟩ := put80 q2 t0 (by omega) (by unfold i32 iLO iHI; omega) ⟨by omega, by omega⟩ e5
  obtain ⟨a9, a10⟩ := rR_80 q3 e5
  refine s_rm30 (d := d + 27) (sh_of a1) ⟨by omega, by omega⟩ hk (by omega) a1 (fun hy1 => ?_) (fun hy1 => ?_)
  rotate_left
  · refine no (zNn (zR R) n q) es5 (zMl_b hc0 ?_) a1 (by rw [a10]; exact q5)
    rcases q7 with h | h
    · omega
    · rcases hcc with w | w | w | w <;> omega
  have hc1 : 0 ≤ zCod (zR R) n (zNn (zR R) n q) := by rcases q7 with h | h <;> omega
  have hvl := zCod_val (q := zNn (zR R) n q) hrng hc1
  refine s_rm35 (d := d + 27) (sh_of a1) ⟨by omega, by omega⟩ hk a1 (fun es6 e6 => ?_)
  rw [show (((1285 + 4 * ln : Nat) : Int) + 1).toNat = 1285 + 4 * ln + 1 by omega] at e6
  obtain ⟨b1, b2, b3, b4, b5, b6, b7, b8⟩ := put80 a1 t1 (by omega) (by unfold i32 iLO iHI; omega) ⟨by omega, by omega⟩ e6
  obtain ⟨b9, b10⟩ := rR_80 a9 e6
  have hz6 : zNx (zR R) n (pT es6).toNat = zNn (zR R) n (zNn (zR R) n q) := by
    rw [b4, a4, show (pT es3).toNat = zRn (zR R) n zDi (zNn (zR R) n q) by omega, ← hvl.2.2.2]
    rfl
  have hge6 : zNn (zR R) n q ≤ zRn (zR R) n zDi (zNn (zR R) n q) := zRn_ge
  refine s_grm44 (d := d + 24) (sh_of b1) ⟨by omega, by omega⟩ hk b1 b9 (fun es7 v7 p7 h7 => ?_) (fun es7 v7 p7 h7 es8 p8 => ?_)
  · obtain ⟨c1, c2, c3, c4, c5, c6, c7⟩ := sgG_no b1 hz6 p7 h7
    obtain ⟨g3, g4⟩ := fB_sd b1 c3
    have hf := zMf_n (c := zR R) (n := n) (q := zNn (zR R) n (zNn (zR R) n q)) (by omega)
    refine r73 es7 _ c1 c2 (by omega) c4 ?_
    rw [zMl_d hc0 hc1 (by rw [hf]), hf]
  · obtain ⟨c1, c2, c3, c4, c5, c6, c7, c8, c9⟩ := sgG_ye b1 hz6 p7 h7
    obtain ⟨g3, g4⟩ := fB_sd b1 c3
    obtain ⟨x1, x2, x3, x4, x5, x6⟩ := p8
    rw [c4] at x5 x6
    obtain ⟨g5, g6⟩ := fB_sd c1 x4
    have hpb7 := pT_bd c1
    have hq3n : zNn (zR R) n (zNn (zR R) n (zNn (zR R) n q)) ≤ n := by rw [← c4]; exact zNx_le (by have := c2.2.2; omega)
    have hq3g : (pT es7).toNat ≤ zNn (zR R) n (zNn (zR R) n (zNn (zR R) n q)) := by rw [← c4]; exact zNx_ge
    have hge8 : zNn (zR R) n (zNn (zR R) n (zNn (zR R) n q)) ≤ zRn (zR R) n zLe (zNn (zR R) n (zNn (zR R) n (zNn (zR R) n q))) := zRn_ge
    refine x_call (vs := [.ref 143]) (rs := [.int (zI (((1285 + 4 * ln : Nat) : Int) + 1)), .ref 143]) i_182_62 rfl (fun _ => rfl) rfl rfl rfl rfl rfl (pCall_v (p := 79) x1 rfl rfl rfl rfl rfl (by decide) rfl rfl rfl rfl rfl) ?_
    show aW _ _ _ _ _ _ (0, [some (.ref 143)], [], es8)
    refine faG_spec (d := d + 24) x1 x2 x3 (by rw [show (bT es8).toNat = zNn (zR R) n (zNn (zR R) n (zNn (zR R) n q)) by omega]; omega) (by omega) (fun v9 p9 => ?_)
    unfold faG at p9
    rw [show (bT es8).toNat = zNn (zR R) n (zNn (zR R) n (zNn (zR R) n q)) by omega] at p9
    have hv9 : -1 ≤ v9 ∧ v9 ≤ 3 := by rcases p9 with h | h <;> omega
    show aW _ _ _ _ _ _ (65, [some (.ref 143), some (.int (zI (ln : Int))), some (.int (zI ((1285 + 4 * ln : Nat) : Int)))], [.int (zI v9), .int (zI (((1285 + 4 * ln : Nat) : Int) + 1)), .ref 143], es8)
    refine kat 65 es8 _ v9 _ i_182_65 x2 ⟨by omega, by omega⟩ (by unfold i32 iLO iHI; omega) (fun y9 hy9 => ?_)
    obtain ⟨es10, e10⟩ : ∃ z : PH, z = sA es8 80 (((1285 + 4 * ln : Nat) : Int) + 1).toNat (zI v9) := ⟨_, rfl⟩
    rw [← e10]
    rw [show (((1285 + 4 * ln : Nat) : Int) + 1).toNat = 1285 + 4 * ln + 1 by omega] at e10
    obtain ⟨i1, i2, i3, i4, i5, i6, i7, i8⟩ := put80 x2 t1 hv9 (by unfold i32 iLO iHI; omega) ⟨by omega, by omega⟩ e10
    obtain ⟨i9, i10⟩ := rR_80 x3 e10
    refine s_rm68 (d := d + 27) (sh_of i1) ⟨by omega, by omega⟩ hk (by omega) i1 (fun hy => ?_) (fun hy => ?_)
    · have hc3 : -4 ≤ zCod (zR R) n (zNn (zR R) n (zNn (zR R) n (zNn (zR R) n q))) ∧ zCod (zR R) n (zNn (zR R) n (zNn (zR R) n (zNn (zR R) n q))) ≤ -1 := by rcases p9 with h | h <;> omega
      have hb3 := zBe_word (q := zNn (zR R) n (zNn (zR R) n (zNn (zR R) n q))) hrng (by omega) (by omega)
      have hf := zMf_y (c := zR R) (n := n) (q := zNn (zR R) n (zNn (zR R) n q)) (by omega) hc3
      refine r73 es10 (zNn (zR R) n (zNn (zR R) n (zNn (zR R) n (zNn (zR R) n q)))) i1 i9 (by omega) ?_ ?_
      · rw [i4, show (pT es8).toNat = zRn (zR R) n zLe (zNn (zR R) n (zNn (zR R) n (zNn (zR R) n q))) by omega, ← hb3.2]
        rfl
      · rw [zMl_d hc0 hc1 (by rw [hf]), hf]
    · have hc3 : ¬ (-4 ≤ zCod (zR R) n (zNn (zR R) n (zNn (zR R) n (zNn (zR R) n q))) ∧ zCod (zR R) n (zNn (zR R) n (zNn (zR R) n (zNn (zR R) n q))) ≤ -1) := by rcases p9 with h | h <;> omega
      have hf := zMf_w (c := zR R) (n := n) (q := zNn (zR R) n (zNn (zR R) n q)) (by omega) hc3
      refine no (zNn (zR R) n (zNn (zR R) n (zNn (zR R) n q))) es10 ((zMl_c hc0 hc1 (by rw [hf])).trans (by rw [hf])) i1 (by rw [i10]; exact x5)
/-- what MEASURE's reader of the reference says -/
def maG (F : Nat) (R : Nat → Int32) (n : Nat) (es' : PH) (v : Int) : Prop := hOK tT es' ∧ ((zMt (zR R) n F).2 = none → v = -1 ∧ bT es' = ((zMt (zR R) n F).1 : Nat)) ∧ (∀ j : Nat, (zMt (zR R) n F).2 = some j → v = 10 - (j : Int) ∧ j ≤ 10)
theorem maG_loop {F : Nat} (hFn : n ≤ F) (K : ∀ es' v, maG F R n es' v → Q (.inl (some (.int (zI v))), es', kc, ks)) : ∀ (N : Nat) (es1 : PH) (ln : Nat), ln + N = 10 → hOK tT es1 → rR R n es1 → sT es1 ≤ pT es1 → zMtF (zR R) n F N (zNx (zR R) n (pT es1).toNat) = zMt (zR R) n F → aW O (d + 28) 175 kc ks Q (42, [some (.ref 143), some (.int (zI 0)), some (.int (zI (ln : Int)))], [], es1) := by
  intro N
  induction N with
  | zero =>
    intro es1 ln hl hT hr h0 hx
    refine s_gral42 (d := d + 25) (sh_of hT) ⟨by omega, by omega⟩ hT hr (fun es2 p2 h2 => absurd (show (ln : Int) = 10 by omega) h2) (fun es2 p2 h2 => ?_)
    obtain ⟨q1, q2, q3, q4, q5, q6⟩ := p2
    rw [zMtF_z] at hx
    refine K es2 (-1) ⟨q2, fun _ => ⟨rfl, ?_⟩, fun j hj => ?_⟩
    · rw [← hx]; exact q5
    · rw [← hx] at hj; cases hj
  | succ N ih =>
    intro es1 ln hl hT hr h0 hx
    have hpb := pT_bd hT
    have hr2 := hr.2.2
    have e9 : ((ln + 1 : Nat) : Int) = (ln : Int) + 1 := by omega
    obtain ⟨hn4, hrng⟩ := rR_rng hT hr
    refine s_gral42 (d := d + 25) (sh_of hT) ⟨by omega, by omega⟩ hT hr (fun es2 p2 h2 => ?_) (fun es2 p2 h2 => absurd (show ¬ (ln : Int) = 10 by omega) h2)
    obtain ⟨q1, q2, q3, q4, q5, q6⟩ := p2
    obtain ⟨g1, g2⟩ := fB_sd hT q4
    have hle : zNx (zR R) n (pT es1).toNat ≤ n := zNx_le (by omega)
    have hge : (pT es1).toNat ≤ zNx (zR R) n (pT es1).toNat := zNx_ge
    have hge2 : zNx (zR R) n (pT es1).toNat ≤ zRn (zR R) n zLe (zNx (zR R) n (pT es1).toNat) := zRn_ge
    refine x_call (vs := [.ref 143, .int (zI (ln : Int))]) (rs := []) i_175_80 rfl (fun _ => rfl) rfl rfl rfl rfl rfl (pCall_v (p := 79) q1 rfl rfl rfl rfl rfl (by decide) rfl rfl rfl rfl rfl) ?_
    show aW _ _ _ _ _ _ (0, [some (.ref 143), some (.int (zI (ln : Int))), none], [], es2)
    refine rmG_spec (d := d) (q := zNx (zR R) n (pT es1).toNat) (by omega) hFn q2 q3 (by omega) (by omega) q5 hle (fun es3 v p3 => ?_)
    show aW _ _ _ _ _ _ (83, [some (.ref 143), some (.int (zI 0)), some (.int (zI (ln : Int)))], [.int (zI v)], es3)
    rcases p3 with ⟨rfl, w1, w2, w3, w4, w5⟩ | ⟨rfl, w1, w2, w3⟩
    rotate_left
    · rw [zMtF_no w1] at hx
      have z0 : Q (.inl (some (.int (zI (-1)))), es3, kc, ks) := by
        refine K es3 (-1) ⟨w2, fun _ => ⟨rfl, ?_⟩, fun j hj => ?_⟩
        · rw [← hx]; exact w3
        · rw [← hx] at hj; cases hj
      refine x_ifF i_175_83 (by unfold i32 iLO iHI; omega) rfl (by simp only [zC, cR]; omega) ?_
      refine x0 (r := (87, [some (.ref 143), some (.int (zI 0)), some (.int (zI (ln : Int)))], [.int (zI (-1))], es3)) i_175_86 (by rfl) ?_
      exact x_ret (v := some (.int (zI (-1)))) i_175_87 rfl (fun _ => rfl) rfl rfl rfl z0
    rw [zMtF_yes w1] at hx
    have hpb3 := pT_bd w2
    have hr3 := w3.2.2
    -- the token behind the line
    have nxt : ∀ es4, blG R n es3 es4 → hOK tT es4 ∧ rR R n es4 ∧ bT es4 = pT es4 ∧ pT es4 = ((zMl (zR R) n F (zNx (zR R) n (pT es1).toNat)).1 : Nat) ∧ sT es4 ≤ pT es4 ∧ zMt (zR R) n F = (if n ≤ (pT es4).toNat then ((pT es4).toNat, some N) else if zCod (zR R) n (pT es4).toNat = -1059 then zMtF (zR R) n F N (zNn (zR R) n (pT es4).toNat) else ((pT es4).toNat, none)) := by
      intro es4 p4
      obtain ⟨r1, r2, r3, r4, r5, r6⟩ := p4
      obtain ⟨g3, g4⟩ := fB_sd w2 r4
      have hge3 : (pT es3).toNat ≤ zNx (zR R) n (pT es3).toNat := zNx_ge
      rw [w4] at r5 hge3
      refine ⟨r2, r3, r6, r5, by omega, ?_⟩
      rw [← hx, show (pT es4).toNat = (zMl (zR R) n F (zNx (zR R) n (pT es1).toNat)).1 by omega]
    have bad : ∀ es4, blG R n es3 es4 → pT es4 < (n : Int) → ¬ zR R (pT es4).toNat = 59 → Q (.inl (some (.int (zI (-1)))), es4, kc, ks) := by
      intro es4 p4 h5 h6
      obtain ⟨a1, a2, a3, a4, a5, a6⟩ := nxt es4 p4
      have hpb4 := pT_bd a1
      have hns : ¬ zCod (zR R) n (pT es4).toNat = -1059 := fun h7 => h6 ((zCod_sign (x := 59) hrng (Or.inr (by omega))).mp h7).2
      rw [if_neg (by omega), if_neg hns] at a6
      refine K es4 (-1) ⟨a1, fun _ => ⟨rfl, ?_⟩, fun j hj => ?_⟩
      · rw [a6, a3]
        show pT es4 = (((pT es4).toNat : Nat) : Int)
        omega
      · rw [a6] at hj; cases hj
    refine s_gral83 (d := d + 26) (sh_of w2) ⟨by omega, by omega⟩ (Or.inr rfl) w2 w3 (fun hv es4 p4 v3 e3 v4 e4 h4 v6 e6 v7 e7 h7 => ?_) (fun hv es4 p4 v3 e3 v4 e4 h4 v6 e6 v7 e7 h7 v9 e9' v10 e10 h10 => ?_) (fun hv es4 p4 v3 e3 v4 e4 h4 v6 e6 v7 e7 h7 v9 e9' v10 e10 h10 v12 e12 v13 e13 h13 => ?_) (fun hv es4 p4 v3 e3 v4 e4 h4 v6 e6 v7 e7 h7 v9 e9' v10 e10 h10 v12 e12 v13 e13 h13 v15 e15 es16 e16 => ?_) (fun hv es4 p4 v3 e3 v4 e4 h4 => ?_) (fun hv => absurd (show (1 : Int) ≠ 0 by omega) hv)
    · obtain ⟨a1, a2, a3, a4, a5, a6⟩ := nxt es4 p4
      have b1 := a2.2.1
      have b2 := a2.2.2
      have hpd : pT es4 = (gI es4 79 6).toInt := rfl
      omega
    · obtain ⟨a1, a2, a3, a4, a5, a6⟩ := nxt es4 p4
      have b1 := a2.2.1
      have hpd : pT es4 = (gI es4 79 6).toInt := rfl
      have c1 := rR_ch a2 e9'
      exact bad es4 p4 (by omega) (by omega)
    · obtain ⟨a1, a2, a3, a4, a5, a6⟩ := nxt es4 p4
      have b1 := a2.2.1
      have hpd : pT es4 = (gI es4 79 6).toInt := rfl
      have c1 := rR_ch a2 e12
      exact bad es4 p4 (by omega) (by omega)
    · obtain ⟨a1, a2, a3, a4, a5, a6⟩ := nxt es4 p4
      have b1 := a2.2.1
      have b2 := a2.2.2
      have hpb4 := pT_bd a1
      have hpd : pT es4 = (gI es4 79 6).toInt := rfl
      have c1 := rR_ch a2 e9'
      have c2 := rR_ch a2 e12
      have hlt : (pT es4).toNat < n := by omega
      have hsc : zCod (zR R) n (pT es4).toNat = -1059 := (zCod_sign (x := 59) hrng (Or.inr (by omega))).mpr ⟨hlt, by omega⟩
      have hbe := zBe_sign (q := (pT es4).toNat) hrng (by omega) (by omega)
      rw [if_neg (by omega), if_pos hsc] at a6
      obtain ⟨u1, u2, u3, u4, u5⟩ := rR_up (es' := es16) a1 a2 (by omega) (by rw [e16, e15])
      obtain ⟨g3, g4⟩ := fB_sd a1 u3
      have hx16 : zMtF (zR R) n F N (zNx (zR R) n (pT es16).toNat) = zMt (zR R) n F := by
        rw [a6]
        unfold zNn
        rw [hbe.2, show (pT es16).toNat = (pT es4).toNat + 1 by omega]
      have := ih es16 (ln + 1) (by omega) u1 u2 (by omega) hx16
      rw [e9] at this
      exact this
    · obtain ⟨a1, a2, a3, a4, a5, a6⟩ := nxt es4 p4
      have b1 := a2.2.1
      have hpd : pT es4 = (gI es4 79 6).toInt := rfl
      rw [if_pos (by omega)] at a6
      refine K es4 ((ln : Int) + 1) ⟨a1, fun hj => ?_, fun j hj => ?_⟩
      · rw [a6] at hj; cases hj
      · rw [a6] at hj
        cases hj
        exact ⟨by omega, by omega⟩
theorem maG_spec {F : Nat} (hFn : n ≤ F) (hs : sh es) (hT : hOK tT es) (hR : gA es 82 = R) (hn : (gI es 79 5).toInt = (n : Int)) (K : ∀ es' v, maG F R n es' v → Q (.inl (some (.int (zI v))), es', kc, ks)) : aW O (d + 28) 175 kc ks Q (0, [some (.ref 143), some (.int (zI 0)), none], [], es) := by
  have hb5 : (0 : Int) ≤ (gI es 79 5).toInt ∧ (gI es 79 5).toInt ≤ (400 : Int) := gI_bd hT (p := 79) (b := 5) rfl rfl
  have z0 : (zI 0).toInt = 0 := rfl
  refine s_gral0 hs hT (fun v1 e1 es2 e2 es3 e3 es4 e4 es5 e5 => ?_)
  have hz1 : (zI v1).toInt = v1 := zI_toInt (by unfold i32 iLO iHI; omega)
  have hT2 : hOK tT es2 := by rw [e2]; exact hOK_sI hT (p := 79) (b := 7) rfl rfl (by rw [hz1, e1]; exact hb5)
  have hT3 : hOK tT es3 := by rw [e3]; exact hOK_sI hT2 (p := 79) (b := 5) rfl rfl (by rw [z0]; exact ⟨by show (0 : Int) ≤ 0; omega, by show (0 : Int) ≤ 400; omega⟩)
  have hT4 : hOK tT es4 := by rw [e4]; exact hOK_sI hT3 (p := 79) (b := 6) rfl rfl (by rw [z0]; exact ⟨by show (0 : Int) ≤ 0; omega, by show (0 : Int) ≤ 400; omega⟩)
  have hT5 : hOK tT es5 := by rw [e5]; exact hOK_sI hT4 (p := 79) (b := 12) rfl rfl (by rw [z0]; exact ⟨by show (0 : Int) ≤ 0; omega, by show (0 : Int) ≤ 400; omega⟩)
  have hp5 : pT es5 = 0 := by
    unfold pT
    rw [e5, gI_sI_ne (Or.inr (by decide)), e4, gI_sI (sh_of hT3) (p := 79) (b := 6) rfl (by decide)]
    exact z0
  have hs5 : sT es5 = 0 := by
    unfold sT
    rw [e5, gI_sI (sh_of hT4) (p := 79) (b := 12) rfl (by decide)]
    exact z0
  have hr5 : rR R n es5 := by
    refine ⟨by rw [e5, e4, e3, e2, gA_sI, gA_sI, gA_sI, gA_sI]; exact hR, ?_, by omega⟩
    rw [e5, gI_sI_ne (Or.inr (by decide)), e4, gI_sI_ne (Or.inr (by decide)), e3, gI_sI_ne (Or.inr (by decide)), e2, gI_sI hs (p := 79) (b := 7) rfl (by decide), hz1, e1]
    exact hn
  refine x_call (vs := [.ref 143]) (rs := []) i_175_24 rfl (fun _ => rfl) rfl rfl rfl rfl rfl (pCall_v (p := 79) (sh_of hT5) rfl rfl rfl rfl rfl (by decide) rfl rfl rfl rfl rfl) ?_
  show aW _ _ _ _ _ _ (0, [some (.ref 143)], [], es5)
  refine blG_spec (d := d + 26) (sh_of hT5) hT5 hr5 (fun es6 p6 => ?_)
  show aW _ _ _ _ _ _ (27, [some (.ref 143), some (.int (zI 0)), none], [], es6)
  obtain ⟨q1, q2, q3, q4, q5, q6⟩ := p6
  obtain ⟨g1, g2⟩ := fB_sd hT5 q4
  rw [hp5] at q5
  have q5' : pT es6 = (zNx (zR R) n 0 : Nat) := q5
  have hle : zNx (zR R) n 0 ≤ n := zNx_le (Nat.zero_le n)
  have b1 := q3.2.1
  have hpd : pT es6 = (gI es6 79 6).toInt := rfl
  refine s_gral27 q1 q2 (fun v1 e1 v2 e2 h1 => ?_) (fun v1 e1 v2 e2 h1 => ?_)
  · refine maG_loop (d := d) hFn K 10 es6 0 (by omega) q2 q3 (by omega) ?_
    rw [show (pT es6).toNat = zNx (zR R) n 0 by omega, zNx_nx]
    unfold zMt
    rw [if_neg (by omega)]
  · have hk : zMt (zR R) n F = (zNx (zR R) n 0, some 10) := by
      unfold zMt
      rw [if_pos (by omega)]
    refine K es6 0 ⟨q2, fun hj => ?_, fun j hj => ?_⟩
    · rw [hk] at hj; cases hj
    · rw [hk] at hj
      cases hj
      exact ⟨by omega, by omega⟩
end
