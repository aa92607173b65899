/-! MEASURE, by the document's tokens; printed by wip/rel/meas.py -/
theorem s_grp0 {O : pOut} {d kc ks : Nat} {Q : pRes → Prop} {es : PH} {R : Nat → Int32} {n0 : Nat} (hs_es : sh es) (hT_es : hOK tT es) (hr_es : rR R n0 es)
    (K1 : ∀ es1 : PH, ltG R n0  es es1 → ∀ v2 : Int, v2 = (gI es1 79 6).toInt → ∀ v3 : Int, v3 = (gI es1 79 8).toInt → v2 ≤ v3 → ∀ es5 : PH, ∀ v6 : Int, nmG R n0 0 999 es1 es5 v6 → aW O (d + 3) 192 kc ks Q (44, [some (.ref 143), some (.int (zI v6))], [.int (zI v6), .int (zI 6), .ref 143], es5))
    (K2 : ∀ es1 : PH, ltG R n0  es es1 → ∀ v2 : Int, v2 = (gI es1 79 6).toInt → ∀ v3 : Int, v3 = (gI es1 79 8).toInt → ¬ (v2 ≤ v3) → aW O (d + 3) 192 kc ks Q (18, [some (.ref 143), some (.int (zI (-1)))], [.ref 143], es1)) :
    aW O (d + 3) 192 kc ks Q (0, [some (.ref 143), none], [], es) := by
  refine x0 (r := (1, [some (.ref 143), none], [.ref 143], es)) i_192_0 rfl ?_
  refine x_call (vs := [.ref 143]) (rs := []) i_192_1 rfl (fun _ => rfl) rfl rfl rfl rfl rfl (pCall_v (p := 79) hs_es rfl rfl rfl rfl rfl (by decide) rfl rfl rfl rfl rfl) ?_
  show aW _ _ _ _ _ _ (0, [some (.ref 143)], [], es)
  refine ltG_spec hs_es hT_es hr_es (fun es1 p_es1 => ?_)
  have hs_es1 : sh es1 := p_es1.1
  have hT_es1 : hOK tT es1 := p_es1.2.1
  have hr_es1 : rR R n0 es1 := p_es1.2.2.1
  show aW _ _ _ _ _ _ (4, [some (.ref 143), none], [], es1)
  refine x0 (r := (5, [some (.ref 143), none], [.int (zI (-1))], es1)) i_192_4 (by rfl) ?_
  refine x0 (r := (6, [some (.ref 143), some (.int (zI (-1)))], [], es1)) i_192_5 rfl ?_
  refine x0 (r := (7, [some (.ref 143), some (.int (zI (-1)))], [.ref 143], es1)) i_192_6 rfl ?_
  refine x_geti (p := 79) i_192_7 hs_es1 rfl rfl ?_
  obtain ⟨v2, e_v2⟩ : ∃ z : Int, z = (gI es1 79 6).toInt := ⟨_, rfl⟩
  rw [← e_v2]
  have r_v2 : iLO ≤ v2 ∧ v2 ≤ iHI := by rw [e_v2]; exact i32_rng _
  unfold iLO iHI at r_v2
  have b_v2 : (0 : Int) ≤ v2 ∧ v2 ≤ (400 : Int) := by rw [e_v2]; exact gI_bd hT_es1 (p := 79) (b := 6) rfl rfl
  refine x0 (r := (11, [some (.ref 143), some (.int (zI (-1)))], [.ref 143, .int (zI v2)], es1)) i_192_10 rfl ?_
  refine x_geti (p := 79) i_192_11 hs_es1 rfl rfl ?_
  obtain ⟨v3, e_v3⟩ : ∃ z : Int, z = (gI es1 79 8).toInt := ⟨_, rfl⟩
  rw [← e_v3]
  have r_v3 : iLO ≤ v3 ∧ v3 ≤ iHI := by rw [e_v3]; exact i32_rng _
  unfold iLO iHI at r_v3
  have b_v3 : (0 : Int) ≤ v3 ∧ v3 ≤ (400 : Int) := by rw [e_v3]; exact gI_bd hT_es1 (p := 79) (b := 8) rfl rfl
  by_cases c4 : v2 ≤ v3
  · refine x_cmpT i_192_14 (by unfold i32 iLO iHI; omega) (by unfold i32 iLO iHI; omega) rfl (by simp only [zC, cR]; omega) ?_
    refine x0 (r := (32, [some (.ref 143), some (.int (zI (-1)))], [.ref 143], es1)) i_192_31 rfl ?_
    refine x0 (r := (33, [some (.ref 143), some (.int (zI (-1)))], [.int (zI 0), .ref 143], es1)) i_192_32 (by rfl) ?_
    refine x0 (r := (36, [some (.ref 143), some (.int (zI (-1)))], [.int (zI 999), .int (zI 0), .ref 143], es1)) i_192_33 (by rfl) ?_
    refine x_call (vs := [.ref 143, .int (zI 0), .int (zI 999)]) (rs := []) i_192_36 rfl (fun _ => rfl) rfl rfl rfl rfl rfl (pCall_v (p := 79) hs_es1 rfl rfl rfl rfl rfl (by decide) rfl rfl rfl rfl rfl) ?_
    show aW _ _ _ _ _ _ (0, [some (.ref 143), some (.int (zI 0)), some (.int (zI 999)), none], [], es1)
    refine nmG_spec hs_es1 hT_es1 hr_es1 (by omega) (by omega) (fun es5 v6 p_es5 => ?_)
    have hs_es5 : sh es5 := p_es5.1
    have hT_es5 : hOK tT es5 := p_es5.2.1
    have hr_es5 : rR R n0 es5 := p_es5.2.2.1
    have r_v6 := nmG_rng p_es5
    show aW _ _ _ _ _ _ (39, [some (.ref 143), some (.int (zI (-1)))], [.int (zI v6)], es5)
    refine x0 (r := (40, [some (.ref 143), some (.int (zI v6))], [], es5)) i_192_39 rfl ?_
    refine x0 (r := (41, [some (.ref 143), some (.int (zI v6))], [.ref 143], es5)) i_192_40 rfl ?_
    refine x0 (r := (43, [some (.ref 143), some (.int (zI v6))], [.int (zI 6), .ref 143], es5)) i_192_41 (by rfl) ?_
    refine x0 (r := (44, [some (.ref 143), some (.int (zI v6))], [.int (zI v6), .int (zI 6), .ref 143], es5)) i_192_43 rfl ?_
    exact K1 es1 p_es1 v2 e_v2 v3 e_v3 c4 es5 v6 p_es5
  · refine x_cmpF i_192_14 (by unfold i32 iLO iHI; omega) (by unfold i32 iLO iHI; omega) rfl (by simp only [zC, cR]; omega) ?_
    refine x0 (r := (18, [some (.ref 143), some (.int (zI (-1)))], [.ref 143], es1)) i_192_17 rfl ?_
    exact K2 es1 p_es1 v2 e_v2 v3 e_v3 c4
theorem s_grp21 {O : pOut} {d kc ks : Nat} {Q : pRes → Prop} {es : PH} {v : Int} {x1 : Option Value} (hs_es : sh es) (hT_es : hOK tT es)
    (K1 : aW O d 192 kc ks Q (25, [some (.ref 143), some (.int (zI v))], [.int (zI 0), .int (zI v), .ref 143], es)) :
    aW O d 192 kc ks Q (21, [some (.ref 143), x1], [.int (zI v)], es) := by
  refine x0 (r := (22, [some (.ref 143), some (.int (zI v))], [], es)) i_192_21 rfl ?_
  refine x0 (r := (23, [some (.ref 143), some (.int (zI v))], [.ref 143], es)) i_192_22 rfl ?_
  refine x0 (r := (24, [some (.ref 143), some (.int (zI v))], [.int (zI v), .ref 143], es)) i_192_23 rfl ?_
  refine x0 (r := (25, [some (.ref 143), some (.int (zI v))], [.int (zI 0), .int (zI v), .ref 143], es)) i_192_24 (by rfl) ?_
  exact K1
theorem s_grp28 {O : pOut} {d kc ks : Nat} {Q : pRes → Prop} {es : PH} {v : Int} (hs_es : sh es) (hv : -1 ≤ v ∧ v ≤ 999) (hT_es : hOK tT es)
    (K1 : v < 0 → Q (.inl (some (.int (zI 0))), es, kc, ks))
    (K2 : ¬ (v < 0) → Q (.inl (some (.int (zI 1))), es, kc, ks)) :
    aW O d 192 kc ks Q (28, [some (.ref 143), some (.int (zI v))], [], es) := by
  refine x0 (r := (47, [some (.ref 143), some (.int (zI v))], [], es)) i_192_28 rfl ?_
  refine x0 (r := (48, [some (.ref 143), some (.int (zI v))], [.int (zI v)], es)) i_192_47 rfl ?_
  by_cases c1 : v < 0
  · refine x_ifT i_192_48 (by unfold i32 iLO iHI; omega) rfl (by simp only [zC, cR]; omega) ?_
    refine x0 (r := (56, [some (.ref 143), some (.int (zI v))], [.int (zI 0)], es)) i_192_55 (by rfl) ?_
    refine x_ret (v := some (.int (zI 0))) i_192_56 rfl (fun _ => rfl) rfl rfl (pFin_b (by omega)) ?_
    exact K1 c1
  · refine x_ifF i_192_48 (by unfold i32 iLO iHI; omega) rfl (by simp only [zC, cR]; omega) ?_
    refine x0 (r := (52, [some (.ref 143), some (.int (zI v))], [.int (zI 1)], es)) i_192_51 (by rfl) ?_
    refine x0 (r := (56, [some (.ref 143), some (.int (zI v))], [.int (zI 1)], es)) i_192_52 rfl ?_
    refine x_ret (v := some (.int (zI 1))) i_192_56 rfl (fun _ => rfl) rfl rfl (pFin_b (by omega)) ?_
    exact K2 c1
theorem s_grs9 {O : pOut} {d kc ks : Nat} {Q : pRes → Prop} {es : PH} {R : Nat → Int32} {n0 : Nat} (hs_es : sh es) (hT_es : hOK tT es) (hr_es : rR R n0 es)
    (K1 : ∀ es1 : PH, ∀ v2 : Int, sgG R n0 43 es es1 v2 → v2 = 0 → Q (.inl (some (.int (zI 1))), es1, kc, ks))
    (K2 : ∀ es1 : PH, ∀ v2 : Int, sgG R n0 43 es es1 v2 → ¬ (v2 = 0) → aW O (d + 3) 191 kc ks Q (19, [some (.ref 143)], [.ref 143], es1)) :
    aW O (d + 3) 191 kc ks Q (9, [some (.ref 143)], [], es) := by
  refine x0 (r := (10, [some (.ref 143)], [.ref 143], es)) i_191_9 rfl ?_
  refine x0 (r := (12, [some (.ref 143)], [.int (zI 43), .ref 143], es)) i_191_10 (by rfl) ?_
  refine x_call (vs := [.ref 143, .int (zI 43)]) (rs := []) i_191_12 rfl (fun _ => rfl) rfl rfl rfl rfl rfl (pCall_v (p := 79) hs_es rfl rfl rfl rfl rfl (by decide) rfl rfl rfl rfl rfl) ?_
  show aW _ _ _ _ _ _ (0, [some (.ref 143), some (.int (zI 43))], [], es)
  refine sgG_spec hs_es hT_es hr_es (by omega) (fun es1 v2 p_es1 => ?_)
  have hs_es1 : sh es1 := p_es1.1
  have hT_es1 : hOK tT es1 := p_es1.2.1
  have hr_es1 : rR R n0 es1 := p_es1.2.2.1
  have r_v2 := sgG_rng p_es1
  show aW _ _ _ _ _ _ (15, [some (.ref 143)], [.int (zI v2)], es1)
  by_cases c3 : v2 = 0
  · refine x_ifT i_191_15 (by unfold i32 iLO iHI; omega) rfl (by simp only [zC, cR]; omega) ?_
    refine x0 (r := (38, [some (.ref 143)], [.int (zI 1)], es1)) i_191_37 (by rfl) ?_
    refine x_ret (v := some (.int (zI 1))) i_191_38 rfl (fun _ => rfl) rfl rfl (pFin_b (by omega)) ?_
    exact K1 es1 v2 p_es1 c3
  · refine x_ifF i_191_15 (by unfold i32 iLO iHI; omega) rfl (by simp only [zC, cR]; omega) ?_
    refine x0 (r := (19, [some (.ref 143)], [.ref 143], es1)) i_191_18 rfl ?_
    exact K2 es1 v2 p_es1 c3
theorem s_grl9 {O : pOut} {d kc ks : Nat} {Q : pRes → Prop} {es : PH} {R : Nat → Int32} {n0 : Nat} (hs_es : sh es) (hT_es : hOK tT es) (hr_es : rR R n0 es)
    (K1 : ∀ es1 : PH, ∀ v2 : Int, psG 7 R n0  es es1 v2 → v2 = 0 → Q (.inl (some (.int (zI 1))), es1, kc, ks))
    (K2 : ∀ es1 : PH, ∀ v2 : Int, psG 7 R n0  es es1 v2 → ¬ (v2 = 0) → aW O (d + 4) 188 kc ks Q (19, [some (.ref 143)], [.ref 143], es1)) :
    aW O (d + 4) 188 kc ks Q (9, [some (.ref 143)], [], es) := by
  refine x0 (r := (10, [some (.ref 143)], [.ref 143], es)) i_188_9 rfl ?_
  refine x1 (r := (12, [some (.ref 143)], [.ref 48, .ref 143], es)) i_188_10 rfl (fun _ => rfl) rfl ?_
  refine x_call (vs := [.ref 143, .ref 48]) (rs := []) i_188_12 rfl (fun _ => rfl) rfl rfl rfl rfl rfl (pCall_v (p := 79) hs_es rfl rfl rfl rfl rfl (by decide) rfl rfl rfl rfl rfl) ?_
  show aW _ _ _ _ _ _ (0, [some (.ref 143), some (.ref 48)], [], es)
  refine psG_spec (i := 7) (t := zWds.getD 7 []) hs_es hT_es hr_es rfl (by decide) rfl (by decide) (by decide) (fun es1 v2 p_es1 => ?_)
  have hs_es1 : sh es1 := p_es1.1
  have hT_es1 : hOK tT es1 := p_es1.2.1
  have hr_es1 : rR R n0 es1 := p_es1.2.2.1
  have r_v2 := psG_rng p_es1
  show aW _ _ _ _ _ _ (15, [some (.ref 143)], [.int (zI v2)], es1)
  by_cases c3 : v2 = 0
  · refine x_ifT i_188_15 (by unfold i32 iLO iHI; omega) rfl (by simp only [zC, cR]; omega) ?_
    refine x0 (r := (38, [some (.ref 143)], [.int (zI 1)], es1)) i_188_37 (by rfl) ?_
    refine x_ret (v := some (.int (zI 1))) i_188_38 rfl (fun _ => rfl) rfl rfl (pFin_b (by omega)) ?_
    exact K1 es1 v2 p_es1 c3
  · refine x_ifF i_188_15 (by unfold i32 iLO iHI; omega) rfl (by simp only [zC, cR]; omega) ?_
    refine x0 (r := (19, [some (.ref 143)], [.ref 143], es1)) i_188_18 rfl ?_
    exact K2 es1 v2 p_es1 c3
theorem s_grc9 {O : pOut} {d kc ks : Nat} {Q : pRes → Prop} {es : PH} {R : Nat → Int32} {n0 : Nat} (hs_es : sh es) (hT_es : hOK tT es) (hr_es : rR R n0 es)
    (K1 : ∀ es1 : PH, ∀ v2 : Int, psG 8 R n0  es es1 v2 → v2 = 0 → Q (.inl (some (.int (zI 1))), es1, kc, ks))
    (K2 : ∀ es1 : PH, ∀ v2 : Int, psG 8 R n0  es es1 v2 → ¬ (v2 = 0) → aW O (d + 4) 187 kc ks Q (19, [some (.ref 143)], [.ref 143], es1)) :
    aW O (d + 4) 187 kc ks Q (9, [some (.ref 143)], [], es) := by
  refine x0 (r := (10, [some (.ref 143)], [.ref 143], es)) i_187_9 rfl ?_
  refine x1 (r := (12, [some (.ref 143)], [.ref 49, .ref 143], es)) i_187_10 rfl (fun _ => rfl) rfl ?_
  refine x_call (vs := [.ref 143, .ref 49]) (rs := []) i_187_12 rfl (fun _ => rfl) rfl rfl rfl rfl rfl (pCall_v (p := 79) hs_es rfl rfl rfl rfl rfl (by decide) rfl rfl rfl rfl rfl) ?_
  show aW _ _ _ _ _ _ (0, [some (.ref 143), some (.ref 49)], [], es)
  refine psG_spec (i := 8) (t := zWds.getD 8 []) hs_es hT_es hr_es rfl (by decide) rfl (by decide) (by decide) (fun es1 v2 p_es1 => ?_)
  have hs_es1 : sh es1 := p_es1.1
  have hT_es1 : hOK tT es1 := p_es1.2.1
  have hr_es1 : rR R n0 es1 := p_es1.2.2.1
  have r_v2 := psG_rng p_es1
  show aW _ _ _ _ _ _ (15, [some (.ref 143)], [.int (zI v2)], es1)
  by_cases c3 : v2 = 0
  · refine x_ifT i_187_15 (by unfold i32 iLO iHI; omega) rfl (by simp only [zC, cR]; omega) ?_
    refine x0 (r := (38, [some (.ref 143)], [.int (zI 1)], es1)) i_187_37 (by rfl) ?_
    refine x_ret (v := some (.int (zI 1))) i_187_38 rfl (fun _ => rfl) rfl rfl (pFin_b (by omega)) ?_
    exact K1 es1 v2 p_es1 c3
  · refine x_ifF i_187_15 (by unfold i32 iLO iHI; omega) rfl (by simp only [zC, cR]; omega) ?_
    refine x0 (r := (19, [some (.ref 143)], [.ref 143], es1)) i_187_18 rfl ?_
    exact K2 es1 v2 p_es1 c3
theorem s_gra0 {O : pOut} {d kc ks : Nat} {Q : pRes → Prop} {es : PH} {R : Nat → Int32} {n0 : Nat} (hs_es : sh es) (hT_es : hOK tT es) (hr_es : rR R n0 es)
    (K1 : ∀ es1 : PH, ∀ v2 : Int, sgG R n0 40 es es1 v2 → v2 = 0 → ∀ es4 : PH, ∀ v5 : Int, psG 6 R n0  es1 es4 v5 → v5 = 0 → ∀ es7 : PH, ∀ v8 : Int, psG 4 R n0  es4 es7 v8 → v8 ≠ 0 → aW O (d + 4) 189 kc ks Q (145, [some (.ref 143), some (.int (zI v8)), none], [.int (zI 0), .int (zI 4), .ref 143], es7))
    (K2 : ∀ es1 : PH, ∀ v2 : Int, sgG R n0 40 es es1 v2 → v2 = 0 → ∀ es4 : PH, ∀ v5 : Int, psG 6 R n0  es1 es4 v5 → v5 = 0 → ∀ es7 : PH, ∀ v8 : Int, psG 4 R n0  es4 es7 v8 → ¬ (v8 ≠ 0) → ∀ es10 : PH, ∀ v11 : Int, psG 5 R n0  es7 es10 v11 → v11 = 0 → aW O (d + 4) 189 kc ks Q (151, [some (.ref 143), some (.int (zI v8)), none], [.ref 143], es10))
    (K3 : ∀ es1 : PH, ∀ v2 : Int, sgG R n0 40 es es1 v2 → v2 = 0 → ∀ es4 : PH, ∀ v5 : Int, psG 6 R n0  es1 es4 v5 → v5 = 0 → ∀ es7 : PH, ∀ v8 : Int, psG 4 R n0  es4 es7 v8 → ¬ (v8 ≠ 0) → ∀ es10 : PH, ∀ v11 : Int, psG 5 R n0  es7 es10 v11 → ¬ (v11 = 0) → aW O (d + 4) 189 kc ks Q (145, [some (.ref 143), some (.int (zI v8)), none], [.int (zI 0), .int (zI 5), .ref 143], es10))
    (K4 : ∀ es1 : PH, ∀ v2 : Int, sgG R n0 40 es es1 v2 → v2 = 0 → ∀ es4 : PH, ∀ v5 : Int, psG 6 R n0  es1 es4 v5 → ¬ (v5 = 0) → ∀ v13 : Int, v13 = (gI es4 79 9).toInt → v13 ≠ 6 → ∀ v15 : Int, v15 = (gI es4 79 9).toInt → ∀ es16 : PH, es16 = sI es4 79 9 (.int (zI (v15 + 1))) → aW O (d + 4) 189 kc ks Q (87, [some (.ref 143), none, none], [.ref 143], es16))
    (K5 : ∀ es1 : PH, ∀ v2 : Int, sgG R n0 40 es es1 v2 → v2 = 0 → ∀ es4 : PH, ∀ v5 : Int, psG 6 R n0  es1 es4 v5 → ¬ (v5 = 0) → ∀ v13 : Int, v13 = (gI es4 79 9).toInt → ¬ (v13 ≠ 6) → Q (.inl (some (.int (zI 0))), es4, kc, ks))
    (K6 : ∀ es1 : PH, ∀ v2 : Int, sgG R n0 40 es es1 v2 → ¬ (v2 = 0) → ∀ v17 : Int, v17 = (gI es1 79 9).toInt → v17 ≠ 6 → ∀ v19 : Int, v19 = (gI es1 79 9).toInt → ∀ es20 : PH, es20 = sI es1 79 9 (.int (zI (v19 + 1))) → aW O (d + 4) 189 kc ks Q (31, [some (.ref 143), none, none], [.ref 143], es20))
    (K7 : ∀ es1 : PH, ∀ v2 : Int, sgG R n0 40 es es1 v2 → ¬ (v2 = 0) → ∀ v17 : Int, v17 = (gI es1 79 9).toInt → ¬ (v17 ≠ 6) → Q (.inl (some (.int (zI 0))), es1, kc, ks)) :
    aW O (d + 4) 189 kc ks Q (0, [some (.ref 143), none, none], [], es) := by
  refine x0 (r := (1, [some (.ref 143), none, none], [.ref 143], es)) i_189_0 rfl ?_
  refine x0 (r := (3, [some (.ref 143), none, none], [.int (zI 40), .ref 143], es)) i_189_1 (by rfl) ?_
  refine x_call (vs := [.ref 143, .int (zI 40)]) (rs := []) i_189_3 rfl (fun _ => rfl) rfl rfl rfl rfl rfl (pCall_v (p := 79) hs_es rfl rfl rfl rfl rfl (by decide) rfl rfl rfl rfl rfl) ?_
  show aW _ _ _ _ _ _ (0, [some (.ref 143), some (.int (zI 40))], [], es)
  refine sgG_spec hs_es hT_es hr_es (by omega) (fun es1 v2 p_es1 => ?_)
  have hs_es1 : sh es1 := p_es1.1
  have hT_es1 : hOK tT es1 := p_es1.2.1
  have hr_es1 : rR R n0 es1 := p_es1.2.2.1
  have r_v2 := sgG_rng p_es1
  show aW _ _ _ _ _ _ (6, [some (.ref 143), none, none], [.int (zI v2)], es1)
  by_cases c3 : v2 = 0
  · refine x_ifT i_189_6 (by unfold i32 iLO iHI; omega) rfl (by simp only [zC, cR]; omega) ?_
    refine x0 (r := (57, [some (.ref 143), none, none], [.ref 143], es1)) i_189_56 rfl ?_
    refine x1 (r := (59, [some (.ref 143), none, none], [.ref 45, .ref 143], es1)) i_189_57 rfl (fun _ => rfl) rfl ?_
    refine x_call (vs := [.ref 143, .ref 45]) (rs := []) i_189_59 rfl (fun _ => rfl) rfl rfl rfl rfl rfl (pCall_v (p := 79) hs_es1 rfl rfl rfl rfl rfl (by decide) rfl rfl rfl rfl rfl) ?_
    show aW _ _ _ _ _ _ (0, [some (.ref 143), some (.ref 45)], [], es1)
    refine psG_spec (i := 6) (t := zWds.getD 6 []) hs_es1 hT_es1 hr_es1 rfl (by decide) rfl (by decide) (by decide) (fun es4 v5 p_es4 => ?_)
    have hs_es4 : sh es4 := p_es4.1
    have hT_es4 : hOK tT es4 := p_es4.2.1
    have hr_es4 : rR R n0 es4 := p_es4.2.2.1
    have r_v5 := psG_rng p_es4
    show aW _ _ _ _ _ _ (62, [some (.ref 143), none, none], [.int (zI v5)], es4)
    by_cases c6 : v5 = 0
    · refine x_ifT i_189_62 (by unfold i32 iLO iHI; omega) rfl (by simp only [zC, cR]; omega) ?_
      refine x0 (r := (115, [some (.ref 143), none, none], [.ref 143], es4)) i_189_114 rfl ?_
      refine x1 (r := (117, [some (.ref 143), none, none], [.ref 46, .ref 143], es4)) i_189_115 rfl (fun _ => rfl) rfl ?_
      refine x_call (vs := [.ref 143, .ref 46]) (rs := []) i_189_117 rfl (fun _ => rfl) rfl rfl rfl rfl rfl (pCall_v (p := 79) hs_es4 rfl rfl rfl rfl rfl (by decide) rfl rfl rfl rfl rfl) ?_
      show aW _ _ _ _ _ _ (0, [some (.ref 143), some (.ref 46)], [], es4)
      refine psG_spec (i := 4) (t := zWds.getD 4 []) hs_es4 hT_es4 hr_es4 rfl (by decide) rfl (by decide) (by decide) (fun es7 v8 p_es7 => ?_)
      have hs_es7 : sh es7 := p_es7.1
      have hT_es7 : hOK tT es7 := p_es7.2.1
      have hr_es7 : rR R n0 es7 := p_es7.2.2.1
      have r_v8 := psG_rng p_es7
      show aW _ _ _ _ _ _ (120, [some (.ref 143), none, none], [.int (zI v8)], es7)
      refine x0 (r := (121, [some (.ref 143), some (.int (zI v8)), none], [], es7)) i_189_120 rfl ?_
      refine x0 (r := (122, [some (.ref 143), some (.int (zI v8)), none], [.int (zI v8)], es7)) i_189_121 rfl ?_
      by_cases c9 : v8 ≠ 0
      · refine x_ifT i_189_122 (by unfold i32 iLO iHI; omega) rfl (by simp only [zC, cR]; omega) ?_
        refine x0 (r := (135, [some (.ref 143), some (.int (zI v8)), none], [.ref 143], es7)) i_189_134 rfl ?_
        refine x0 (r := (136, [some (.ref 143), some (.int (zI v8)), none], [.int (zI v8), .ref 143], es7)) i_189_135 rfl ?_
        refine x_ifF i_189_136 (by unfold i32 iLO iHI; omega) rfl (by simp only [zC, cR]; omega) ?_
        refine x0 (r := (140, [some (.ref 143), some (.int (zI v8)), none], [.int (zI 4), .ref 143], es7)) i_189_139 (by rfl) ?_
        refine x0 (r := (144, [some (.ref 143), some (.int (zI v8)), none], [.int (zI 4), .ref 143], es7)) i_189_140 rfl ?_
        refine x0 (r := (145, [some (.ref 143), some (.int (zI v8)), none], [.int (zI 0), .int (zI 4), .ref 143], es7)) i_189_144 (by rfl) ?_
        exact K1 es1 v2 p_es1 c3 es4 v5 p_es4 c6 es7 v8 p_es7 c9
      · refine x_ifF i_189_122 (by unfold i32 iLO iHI; omega) rfl (by simp only [zC, cR]; omega) ?_
        refine x0 (r := (126, [some (.ref 143), some (.int (zI v8)), none], [.ref 143], es7)) i_189_125 rfl ?_
        refine x1 (r := (128, [some (.ref 143), some (.int (zI v8)), none], [.ref 47, .ref 143], es7)) i_189_126 rfl (fun _ => rfl) rfl ?_
        refine x_call (vs := [.ref 143, .ref 47]) (rs := []) i_189_128 rfl (fun _ => rfl) rfl rfl rfl rfl rfl (pCall_v (p := 79) hs_es7 rfl rfl rfl rfl rfl (by decide) rfl rfl rfl rfl rfl) ?_
        show aW _ _ _ _ _ _ (0, [some (.ref 143), some (.ref 47)], [], es7)
        refine psG_spec (i := 5) (t := zWds.getD 5 []) hs_es7 hT_es7 hr_es7 rfl (by decide) rfl (by decide) (by decide) (fun es10 v11 p_es10 => ?_)
        have hs_es10 : sh es10 := p_es10.1
        have hT_es10 : hOK tT es10 := p_es10.2.1
        have hr_es10 : rR R n0 es10 := p_es10.2.2.1
        have r_v11 := psG_rng p_es10
        show aW _ _ _ _ _ _ (131, [some (.ref 143), some (.int (zI v8)), none], [.int (zI v11)], es10)
        by_cases c12 : v11 = 0
        · refine x_ifT i_189_131 (by unfold i32 iLO iHI; omega) rfl (by simp only [zC, cR]; omega) ?_
          refine x0 (r := (151, [some (.ref 143), some (.int (zI v8)), none], [.ref 143], es10)) i_189_150 rfl ?_
          exact K2 es1 v2 p_es1 c3 es4 v5 p_es4 c6 es7 v8 p_es7 c9 es10 v11 p_es10 c12
        · refine x_ifF i_189_131 (by unfold i32 iLO iHI; omega) rfl (by simp only [zC, cR]; omega) ?_
          refine x0 (r := (135, [some (.ref 143), some (.int (zI v8)), none], [.ref 143], es10)) i_189_134 rfl ?_
          refine x0 (r := (136, [some (.ref 143), some (.int (zI v8)), none], [.int (zI v8), .ref 143], es10)) i_189_135 rfl ?_
          refine x_ifT i_189_136 (by unfold i32 iLO iHI; omega) rfl (by simp only [zC, cR]; omega) ?_
          refine x0 (r := (144, [some (.ref 143), some (.int (zI v8)), none], [.int (zI 5), .ref 143], es10)) i_189_143 (by rfl) ?_
          refine x0 (r := (145, [some (.ref 143), some (.int (zI v8)), none], [.int (zI 0), .int (zI 5), .ref 143], es10)) i_189_144 (by rfl) ?_
          exact K3 es1 v2 p_es1 c3 es4 v5 p_es4 c6 es7 v8 p_es7 c9 es10 v11 p_es10 c12
    · refine x_ifF i_189_62 (by unfold i32 iLO iHI; omega) rfl (by simp only [zC, cR]; omega) ?_
      refine x0 (r := (66, [some (.ref 143), none, none], [.ref 143], es4)) i_189_65 rfl ?_
      refine x_geti (p := 79) i_189_66 hs_es4 rfl rfl ?_
      obtain ⟨v13, e_v13⟩ : ∃ z : Int, z = (gI es4 79 9).toInt := ⟨_, rfl⟩
      rw [← e_v13]
      have r_v13 : iLO ≤ v13 ∧ v13 ≤ iHI := by rw [e_v13]; exact i32_rng _
      unfold iLO iHI at r_v13
      have b_v13 : (0 : Int) ≤ v13 ∧ v13 ≤ (6 : Int) := by rw [e_v13]; exact gI_bd hT_es4 (p := 79) (b := 9) rfl rfl
      refine x0 (r := (71, [some (.ref 143), none, none], [.int (zI 6), .int (zI v13)], es4)) i_189_69 (by rfl) ?_
      by_cases c14 : v13 ≠ 6
      · refine x_cmpT i_189_71 (by unfold i32 iLO iHI; omega) (by unfold i32 iLO iHI; omega) rfl (by simp only [zC, cR]; omega) ?_
        refine x0 (r := (77, [some (.ref 143), none, none], [.ref 143], es4)) i_189_76 rfl ?_
        refine x0 (r := (78, [some (.ref 143), none, none], [.ref 143, .ref 143], es4)) i_189_77 rfl ?_
        refine x_geti (p := 79) i_189_78 hs_es4 rfl rfl ?_
        obtain ⟨v15, e_v15⟩ : ∃ z : Int, z = (gI es4 79 9).toInt := ⟨_, rfl⟩
        rw [← e_v15]
        have r_v15 : iLO ≤ v15 ∧ v15 ≤ iHI := by rw [e_v15]; exact i32_rng _
        unfold iLO iHI at r_v15
        have b_v15 : (0 : Int) ≤ v15 ∧ v15 ≤ (6 : Int) := by rw [e_v15]; exact gI_bd hT_es4 (p := 79) (b := 9) rfl rfl
        refine x0 (r := (82, [some (.ref 143), none, none], [.int (zI 1), .int (zI v15), .ref 143], es4)) i_189_81 (by rfl) ?_
        refine x_iadd i_189_82 ?_
        refine x_puti (p := 79) (ty := .int) i_189_83 hs_es4 rfl rfl rfl (Or.inl rfl) ?_
        obtain ⟨es16, e_es16⟩ : ∃ z : PH, z = sI es4 79 9 (.int (zI (v15 + 1))) := ⟨_, rfl⟩
        have hs_es16 : sh es16 := by rw [e_es16]; exact sh_sI hs_es4 (p := 79) (b := 9) rfl rfl
        have hT_es16 : hOK tT es16 := by rw [e_es16]; exact hOK_sI hT_es4 (p := 79) (b := 9) rfl rfl (by rw [zI_toInt (by unfold i32 iLO iHI; omega)]; exact ⟨by show (0 : Int) ≤ (v15 + 1); omega, by show (v15 + 1) ≤ (6 : Int); omega⟩)
        rw [← e_es16]
        refine x0 (r := (87, [some (.ref 143), none, none], [.ref 143], es16)) i_189_86 rfl ?_
        exact K4 es1 v2 p_es1 c3 es4 v5 p_es4 c6 v13 e_v13 c14 v15 e_v15 es16 e_es16
      · refine x_cmpF i_189_71 (by unfold i32 iLO iHI; omega) (by unfold i32 iLO iHI; omega) rfl (by simp only [zC, cR]; omega) ?_
        refine x0 (r := (75, [some (.ref 143), none, none], [.int (zI 0)], es4)) i_189_74 (by rfl) ?_
        refine x_ret (v := some (.int (zI 0))) i_189_75 rfl (fun _ => rfl) rfl rfl (pFin_b (by omega)) ?_
        exact K5 es1 v2 p_es1 c3 es4 v5 p_es4 c6 v13 e_v13 c14
  · refine x_ifF i_189_6 (by unfold i32 iLO iHI; omega) rfl (by simp only [zC, cR]; omega) ?_
    refine x0 (r := (10, [some (.ref 143), none, none], [.ref 143], es1)) i_189_9 rfl ?_
    refine x_geti (p := 79) i_189_10 hs_es1 rfl rfl ?_
    obtain ⟨v17, e_v17⟩ : ∃ z : Int, z = (gI es1 79 9).toInt := ⟨_, rfl⟩
    rw [← e_v17]
    have r_v17 : iLO ≤ v17 ∧ v17 ≤ iHI := by rw [e_v17]; exact i32_rng _
    unfold iLO iHI at r_v17
    have b_v17 : (0 : Int) ≤ v17 ∧ v17 ≤ (6 : Int) := by rw [e_v17]; exact gI_bd hT_es1 (p := 79) (b := 9) rfl rfl
    refine x0 (r := (15, [some (.ref 143), none, none], [.int (zI 6), .int (zI v17)], es1)) i_189_13 (by rfl) ?_
    by_cases c18 : v17 ≠ 6
    · refine x_cmpT i_189_15 (by unfold i32 iLO iHI; omega) (by unfold i32 iLO iHI; omega) rfl (by simp only [zC, cR]; omega) ?_
      refine x0 (r := (21, [some (.ref 143), none, none], [.ref 143], es1)) i_189_20 rfl ?_
      refine x0 (r := (22, [some (.ref 143), none, none], [.ref 143, .ref 143], es1)) i_189_21 rfl ?_
      refine x_geti (p := 79) i_189_22 hs_es1 rfl rfl ?_
      obtain ⟨v19, e_v19⟩ : ∃ z : Int, z = (gI es1 79 9).toInt := ⟨_, rfl⟩
      rw [← e_v19]
      have r_v19 : iLO ≤ v19 ∧ v19 ≤ iHI := by rw [e_v19]; exact i32_rng _
      unfold iLO iHI at r_v19
      have b_v19 : (0 : Int) ≤ v19 ∧ v19 ≤ (6 : Int) := by rw [e_v19]; exact gI_bd hT_es1 (p := 79) (b := 9) rfl rfl
      refine x0 (r := (26, [some (.ref 143), none, none], [.int (zI 1), .int (zI v19), .ref 143], es1)) i_189_25 (by rfl) ?_
      refine x_iadd i_189_26 ?_
      refine x_puti (p := 79) (ty := .int) i_189_27 hs_es1 rfl rfl rfl (Or.inl rfl) ?_
      obtain ⟨es20, e_es20⟩ : ∃ z : PH, z = sI es1 79 9 (.int (zI (v19 + 1))) := ⟨_, rfl⟩
      have hs_es20 : sh es20 := by rw [e_es20]; exact sh_sI hs_es1 (p := 79) (b := 9) rfl rfl
      have hT_es20 : hOK tT es20 := by rw [e_es20]; exact hOK_sI hT_es1 (p := 79) (b := 9) rfl rfl (by rw [zI_toInt (by unfold i32 iLO iHI; omega)]; exact ⟨by show (0 : Int) ≤ (v19 + 1); omega, by show (v19 + 1) ≤ (6 : Int); omega⟩)
      rw [← e_es20]
      refine x0 (r := (31, [some (.ref 143), none, none], [.ref 143], es20)) i_189_30 rfl ?_
      exact K6 es1 v2 p_es1 c3 v17 e_v17 c18 v19 e_v19 es20 e_es20
    · refine x_cmpF i_189_15 (by unfold i32 iLO iHI; omega) (by unfold i32 iLO iHI; omega) rfl (by simp only [zC, cR]; omega) ?_
      refine x0 (r := (19, [some (.ref 143), none, none], [.int (zI 0)], es1)) i_189_18 (by rfl) ?_
      refine x_ret (v := some (.int (zI 0))) i_189_19 rfl (fun _ => rfl) rfl rfl (pFin_b (by omega)) ?_
      exact K7 es1 v2 p_es1 c3 v17 e_v17 c18
theorem s_gra34 {O : pOut} {d kc ks : Nat} {Q : pRes → Prop} {es : PH} {v : Int} (hs_es : sh es) (hv : 0 ≤ v ∧ v ≤ 1) (hd : 1 ≤ (gI es 79 9).toInt) (hT_es : hOK tT es)
    (K1 : v ≠ 0 → ∀ v2 : Int, v2 = (gI es 79 9).toInt → ∀ es3 : PH, es3 = sI es 79 9 (.int (zI (v2 - 1))) → aW O d 189 kc ks Q (52, [some (.ref 143), none, none], [.int (zI 41), .ref 143], es3))
    (K2 : ¬ (v ≠ 0) → Q (.inl (some (.int (zI 0))), es, kc, ks)) :
    aW O d 189 kc ks Q (34, [some (.ref 143), none, none], [.int (zI v)], es) := by
  by_cases c1 : v ≠ 0
  · refine x_ifT i_189_34 (by unfold i32 iLO iHI; omega) rfl (by simp only [zC, cR]; omega) ?_
    refine x0 (r := (40, [some (.ref 143), none, none], [.ref 143], es)) i_189_39 rfl ?_
    refine x0 (r := (41, [some (.ref 143), none, none], [.ref 143, .ref 143], es)) i_189_40 rfl ?_
    refine x_geti (p := 79) i_189_41 hs_es rfl rfl ?_
    obtain ⟨v2, e_v2⟩ : ∃ z : Int, z = (gI es 79 9).toInt := ⟨_, rfl⟩
    rw [← e_v2]
    have r_v2 : iLO ≤ v2 ∧ v2 ≤ iHI := by rw [e_v2]; exact i32_rng _
    unfold iLO iHI at r_v2
    have b_v2 : (0 : Int) ≤ v2 ∧ v2 ≤ (6 : Int) := by rw [e_v2]; exact gI_bd hT_es (p := 79) (b := 9) rfl rfl
    refine x0 (r := (45, [some (.ref 143), none, none], [.int (zI 1), .int (zI v2), .ref 143], es)) i_189_44 (by rfl) ?_
    refine x_isub i_189_45 ?_
    refine x_puti (p := 79) (ty := .int) i_189_46 hs_es rfl rfl rfl (Or.inl rfl) ?_
    obtain ⟨es3, e_es3⟩ : ∃ z : PH, z = sI es 79 9 (.int (zI (v2 - 1))) := ⟨_, rfl⟩
    have hs_es3 : sh es3 := by rw [e_es3]; exact sh_sI hs_es (p := 79) (b := 9) rfl rfl
    have hT_es3 : hOK tT es3 := by rw [e_es3]; exact hOK_sI hT_es (p := 79) (b := 9) rfl rfl (by rw [zI_toInt (by unfold i32 iLO iHI; omega)]; exact ⟨by show (0 : Int) ≤ (v2 - 1); omega, by show (v2 - 1) ≤ (6 : Int); omega⟩)
    rw [← e_es3]
    refine x0 (r := (50, [some (.ref 143), none, none], [.ref 143], es3)) i_189_49 rfl ?_
    refine x0 (r := (52, [some (.ref 143), none, none], [.int (zI 41), .ref 143], es3)) i_189_50 (by rfl) ?_
    exact K1 c1 v2 e_v2 es3 e_es3
  · refine x_ifF i_189_34 (by unfold i32 iLO iHI; omega) rfl (by simp only [zC, cR]; omega) ?_
    refine x0 (r := (38, [some (.ref 143), none, none], [.int (zI 0)], es)) i_189_37 (by rfl) ?_
    refine x_ret (v := some (.int (zI 0))) i_189_38 rfl (fun _ => rfl) rfl rfl (pFin_b (by omega)) ?_
    exact K2 c1
theorem s_gra55 {O : pOut} {d kc ks : Nat} {Q : pRes → Prop} {es : PH} {v : Int} (hs_es : sh es) (hv : v = 0 ∨ v = 1) (hT_es : hOK tT es)
    (K1 : Q (.inl (some (.int (zI v))), es, kc, ks)) :
    aW O d 189 kc ks Q (55, [some (.ref 143), none, none], [.int (zI v)], es) := by
  refine x_ret (v := some (.int (zI v))) i_189_55 rfl (fun _ => rfl) rfl rfl (pFin_b (by omega)) ?_
  exact K1
theorem s_gra154 {O : pOut} {d kc ks : Nat} {Q : pRes → Prop} {es : PH} {t v : Int} (hs_es : sh es) (hv : 0 ≤ v ∧ v ≤ 1) (hT_es : hOK tT es)
    (K1 : v ≠ 0 → aW O d 189 kc ks Q (159, [some (.ref 143), some (.int (zI t)), none], [], es))
    (K2 : ¬ (v ≠ 0) → Q (.inl (some (.int (zI 0))), es, kc, ks)) :
    aW O d 189 kc ks Q (154, [some (.ref 143), some (.int (zI t)), none], [.int (zI v)], es) := by
  by_cases c1 : v ≠ 0
  · refine x_ifT i_189_154 (by unfold i32 iLO iHI; omega) rfl (by simp only [zC, cR]; omega) ?_
    exact K1 c1
  · refine x_ifF i_189_154 (by unfold i32 iLO iHI; omega) rfl (by simp only [zC, cR]; omega) ?_
    refine x0 (r := (158, [some (.ref 143), some (.int (zI t)), none], [.int (zI 0)], es)) i_189_157 (by rfl) ?_
    refine x_ret (v := some (.int (zI 0))) i_189_158 rfl (fun _ => rfl) rfl rfl (pFin_b (by omega)) ?_
    exact K2 c1
theorem s_gra159 {O : pOut} {d kc ks : Nat} {Q : pRes → Prop} {es : PH} {R : Nat → Int32} {n0 : Nat} {t : Int} (hs_es : sh es) (hT_es : hOK tT es) (hr_es : rR R n0 es)
    (K1 : ∀ es1 : PH, ∀ v2 : Int, sgG R n0 60 es es1 v2 → v2 ≠ 0 → aW O (d + 3) 189 kc ks Q (180, [some (.ref 143), some (.int (zI t)), some (.int (zI v2))], [.ref 143], es1))
    (K2 : ∀ es1 : PH, ∀ v2 : Int, sgG R n0 60 es es1 v2 → ¬ (v2 ≠ 0) → ∀ es4 : PH, ∀ v5 : Int, sgG R n0 62 es1 es4 v5 → v5 = 0 → Q (.inl (some (.int (zI 0))), es4, kc, ks))
    (K3 : ∀ es1 : PH, ∀ v2 : Int, sgG R n0 60 es es1 v2 → ¬ (v2 ≠ 0) → ∀ es4 : PH, ∀ v5 : Int, sgG R n0 62 es1 es4 v5 → ¬ (v5 = 0) → aW O (d + 3) 189 kc ks Q (180, [some (.ref 143), some (.int (zI t)), some (.int (zI v2))], [.ref 143], es4)) :
    aW O (d + 3) 189 kc ks Q (159, [some (.ref 143), some (.int (zI t)), none], [], es) := by
  refine x0 (r := (160, [some (.ref 143), some (.int (zI t)), none], [.ref 143], es)) i_189_159 rfl ?_
  refine x0 (r := (162, [some (.ref 143), some (.int (zI t)), none], [.int (zI 60), .ref 143], es)) i_189_160 (by rfl) ?_
  refine x_call (vs := [.ref 143, .int (zI 60)]) (rs := []) i_189_162 rfl (fun _ => rfl) rfl rfl rfl rfl rfl (pCall_v (p := 79) hs_es rfl rfl rfl rfl rfl (by decide) rfl rfl rfl rfl rfl) ?_
  show aW _ _ _ _ _ _ (0, [some (.ref 143), some (.int (zI 60))], [], es)
  refine sgG_spec hs_es hT_es hr_es (by omega) (fun es1 v2 p_es1 => ?_)
  have hs_es1 : sh es1 := p_es1.1
  have hT_es1 : hOK tT es1 := p_es1.2.1
  have hr_es1 : rR R n0 es1 := p_es1.2.2.1
  have r_v2 := sgG_rng p_es1
  show aW _ _ _ _ _ _ (165, [some (.ref 143), some (.int (zI t)), none], [.int (zI v2)], es1)
  refine x0 (r := (166, [some (.ref 143), some (.int (zI t)), some (.int (zI v2))], [], es1)) i_189_165 rfl ?_
  refine x0 (r := (167, [some (.ref 143), some (.int (zI t)), some (.int (zI v2))], [.int (zI v2)], es1)) i_189_166 rfl ?_
  by_cases c3 : v2 ≠ 0
  · refine x_ifT i_189_167 (by unfold i32 iLO iHI; omega) rfl (by simp only [zC, cR]; omega) ?_
    refine x0 (r := (180, [some (.ref 143), some (.int (zI t)), some (.int (zI v2))], [.ref 143], es1)) i_189_179 rfl ?_
    exact K1 es1 v2 p_es1 c3
  · refine x_ifF i_189_167 (by unfold i32 iLO iHI; omega) rfl (by simp only [zC, cR]; omega) ?_
    refine x0 (r := (171, [some (.ref 143), some (.int (zI t)), some (.int (zI v2))], [.ref 143], es1)) i_189_170 rfl ?_
    refine x0 (r := (173, [some (.ref 143), some (.int (zI t)), some (.int (zI v2))], [.int (zI 62), .ref 143], es1)) i_189_171 (by rfl) ?_
    refine x_call (vs := [.ref 143, .int (zI 62)]) (rs := []) i_189_173 rfl (fun _ => rfl) rfl rfl rfl rfl rfl (pCall_v (p := 79) hs_es1 rfl rfl rfl rfl rfl (by decide) rfl rfl rfl rfl rfl) ?_
    show aW _ _ _ _ _ _ (0, [some (.ref 143), some (.int (zI 62))], [], es1)
    refine sgG_spec hs_es1 hT_es1 hr_es1 (by omega) (fun es4 v5 p_es4 => ?_)
    have hs_es4 : sh es4 := p_es4.1
    have hT_es4 : hOK tT es4 := p_es4.2.1
    have hr_es4 : rR R n0 es4 := p_es4.2.2.1
    have r_v5 := sgG_rng p_es4
    show aW _ _ _ _ _ _ (176, [some (.ref 143), some (.int (zI t)), some (.int (zI v2))], [.int (zI v5)], es4)
    by_cases c6 : v5 = 0
    · refine x_ifT i_189_176 (by unfold i32 iLO iHI; omega) rfl (by simp only [zC, cR]; omega) ?_
      refine x0 (r := (187, [some (.ref 143), some (.int (zI t)), some (.int (zI v2))], [.int (zI 0)], es4)) i_189_186 (by rfl) ?_
      refine x_ret (v := some (.int (zI 0))) i_189_187 rfl (fun _ => rfl) rfl rfl (pFin_b (by omega)) ?_
      exact K2 es1 v2 p_es1 c3 es4 v5 p_es4 c6
    · refine x_ifF i_189_176 (by unfold i32 iLO iHI; omega) rfl (by simp only [zC, cR]; omega) ?_
      refine x0 (r := (180, [some (.ref 143), some (.int (zI t)), some (.int (zI v2))], [.ref 143], es4)) i_189_179 rfl ?_
      exact K3 es1 v2 p_es1 c3 es4 v5 p_es4 c6
section
variable {O : pOut} {d kc ks : Nat} {Q : pRes → Prop} {es : PH} {R : Nat → Int32} {n : Nat}
/-- a PART -/
theorem rpG_spec {q : Nat} (hT : hOK tT es) (hr : rR R n es) (h0 : sT es + 1 ≤ pT es) (hq : zNx (zR R) n (pT es).toNat = q) (K : ∀ es' v, prG (zPt (zR R) n q) R n es es' v → Q (.inl (some (.int (zI v))), es', kc, ks)) : aW O (d + 4) 192 kc ks Q (0, [some (.ref 143), none], [], es) := by
  have hpb := pT_bd hT
  have hle : q ≤ n := by rw [← hq]; exact zNx_le (by have := hr.2.2; omega)
  obtain ⟨hn4, hrng⟩ := rR_rng hT hr
  have hge : (pT es).toNat ≤ q := by rw [← hq]; exact zNx_ge
  have hqq : zNx (zR R) n q = q := by rw [← hq]; exact zNx_nx
  have yes : ∀ es3 es6 op k, hOK tT es3 → rR R n es3 → fr frB es es3 → ¬ zCod (zR R) n q < -4 → q < n → pT es3 = (zBe (zR R) n q : Nat) → emP op k es3 es6 → Q (.inl (some (.int (zI 1))), es6, kc, ks) := by
    intro es3 es6 op k hT3 hr3 hf3 hc hlt hp3 he
    have hgt := zBe_gt (c := zR R) hlt
    have ho : okG R n (zNn (zR R) n q) es es3 := okG_mv hT hf3 hT3 hr3 (by rw [show (pT es3).toNat = zBe (zR R) n q by omega]; rfl) (by omega)
    obtain ⟨g1, g2⟩ := fB_sd hT hf3
    refine K es6 1 (Or.inl ⟨rfl, by rw [zPt_y hc], ?_⟩)
    rw [zPt_y hc]
    exact okG_em ho he (by omega)
  have no : ∀ es3 es6 op k, hOK tT es3 → rR R n es3 → bT es3 = (q : Int) → zCod (zR R) n q < -4 → emP op k es3 es6 → Q (.inl (some (.int (zI 0))), es6, kc, ks) := by
    intro es3 es6 op k hT3 hr3 hb3 hc he
    refine K es6 0 (Or.inr ⟨rfl, by rw [zPt_n hc], he.2.1, ?_⟩)
    rw [zPt_n hc, (em_all hT3 hr3 he).2.1]
    exact hb3
  refine s_grp0 (d := d + 1) (sh_of hT) hT hr (fun es1 p1 v2 e2 v3 e3 h3 es5 v6 p5 => ?_) (fun es1 p1 v2 e2 v3 e3 h3 => ?_)
  all_goals
    obtain ⟨q1, q2, q3, q4, q5, q6⟩ := p1
    rw [hq] at q5 q6
    have hpd : pT es1 = (gI es1 79 6).toInt := rfl
    have hbd : bT es1 = (gI es1 79 8).toInt := rfl
  · -- no letters
    have hzz : zRn (zR R) n zLe q = q := by
      have : q ≤ zRn (zR R) n zLe q := zRn_ge
      omega
    have hnl : q < n → ¬ zLe (zR R q) = true := by
      intro h1 h2
      have h3 := zRn_go h1 h2
      have h4 : q + 1 ≤ zRn (zR R) n zLe (q + 1) := zRn_ge
      omega
    obtain ⟨r1, r2, r3, r4, r5, r6, r7⟩ := p5
    rw [show (pT es1).toNat = q by omega, hqq] at r5 r6 r7
    obtain ⟨g1, g2⟩ := fB_sd hT (fr_trans q4 r4)
    have hcc := zCod_cases (q := q) hrng
    have hv6 : -1 ≤ v6 ∧ v6 ≤ 999 := by rcases r7 with h | h <;> omega
    refine c_em (d := d + 3) i_192_44 r2 ⟨by omega, by omega⟩ hv6 (by omega) (fun es6 h6 => ?_)
    refine s_rp47 (d := d + 4) (sh_of h6.2.1) hv6 h6.2.1 (fun c1 => ?_) (fun c1 => ?_)
    · refine no es5 es6 _ _ r2 r3 r5 ?_ h6
      rcases hcc with ⟨w1, w2, -⟩ | ⟨w1, w2, w3⟩ | ⟨w1, w2, w3, w4, w5⟩ | ⟨w1, w2⟩
      · exact absurd w2 (hnl w1)
      · rcases r7 with h | h <;> omega
      · omega
      · omega
    · have hc0 : 0 ≤ zCod (zR R) n q := by rcases r7 with h | h <;> omega
      have hv := zCod_val (q := q) hrng hc0
      exact yes es5 es6 _ _ r2 r3 (fr_trans q4 r4) (by omega) hv.1 (by rw [r6, hv.2.2.2]) h6
  · -- letters
    have hll : q < n ∧ zLe (zR R q) = true := by
      by_cases hx : q < n ∧ zLe (zR R q) = true
      · exact hx
      · exfalso
        have : zRn (zR R) n zLe q = q := zRn_stop (fun h => Bool.eq_false_iff.mpr (fun h2 => hx ⟨h, h2⟩))
        omega
    have hcc := zCod_cases (q := q) hrng
    obtain ⟨g1, g2⟩ := fB_sd hT q4
    refine x_call (vs := [.ref 143]) (rs := []) i_192_18 rfl (fun _ => rfl) rfl rfl rfl rfl rfl (pCall_v (p := 79) (sh_of q2) rfl rfl rfl rfl rfl (by decide) rfl rfl rfl rfl rfl) ?_
    show aW _ _ _ _ _ _ (0, [some (.ref 143)], [], es1)
    refine faG_spec (d := d + 1) (sh_of q2) q2 q3 (by rw [show (bT es1).toNat = q by omega]; omega) (by omega) (fun v p2 => ?_)
    show aW _ _ _ _ _ _ (21, [some (.ref 143), some (.int (zI (-1)))], [.int (zI v)], es1)
    unfold faG at p2
    rw [show (bT es1).toNat = q by omega] at p2
    have hv6 : -1 ≤ v ∧ v ≤ 999 := by rcases p2 with h | h <;> omega
    refine s_grp21 (d := d + 4) (sh_of q2) q2 ?_
    refine c_em (d := d + 3) i_192_25 q2 ⟨by omega, by rcases p2 with h | h <;> omega⟩ ⟨by omega, by omega⟩ (by omega) (fun es6 h6 => ?_)
    refine s_grp28 (d := d + 4) (sh_of h6.2.1) hv6 h6.2.1 (fun c1 => ?_) (fun c1 => ?_)
    · refine no es1 es6 _ _ q2 q3 q5 ?_ h6
      rcases hcc with ⟨w1, w2, w3⟩ | ⟨w1, w2, w3⟩ | ⟨w1, w2, w3, w4, w5⟩ | ⟨w1, w2⟩
      · rcases p2 with h | h <;> omega
      · exact absurd hll.2 (zLe_di w2)
      · exact absurd hll.2 w2
      · omega
    · have hc0 : -4 ≤ zCod (zR R) n q ∧ zCod (zR R) n q ≤ -1 := by rcases p2 with h | h <;> omega
      have hbe := zBe_word (q := q) hrng (by omega) (by omega)
      exact yes es1 es6 _ _ q2 q3 q4 (by omega) hbe.1 (by rw [q6, hbe.2]) h6
theorem c_rpG {j pc k q : Nat} {L : PL} {ret : Option FieldType} (hi : iRow j pc = some (.invokevirtual 172, k, 192, 1, ret)) (hT : hOK tT es) (hr : rR R n es) (h0 : sT es + 1 ≤ pT es) (hq : zNx (zR R) n (pT es).toNat = q) (K : ∀ es' v, prG (zPt (zR R) n q) R n es es' v → aW O (d + 5) j kc ks Q (pc + 3, L, [.int (zI v)], es')) : aW O (d + 5) j kc ks Q (pc, L, [.ref 143], es) := by
  refine x_call (vs := [.ref 143]) (rs := []) hi rfl (fun _ => rfl) rfl rfl rfl rfl rfl (pCall_v (p := 79) (sh_of hT) rfl rfl rfl rfl rfl (by decide) rfl rfl rfl rfl rfl) ?_
  show aW _ _ _ _ _ _ (0, [some (.ref 143), none], [], es)
  exact rpG_spec (d := d) hT hr h0 hq (fun es' v h => K es' v h)
/-- where a token that isn't the end stands -/
theorem cod_lt {c : Nat → Int} {n q : Nat} (h : ¬ zCod c n q = -2000) : q < n := by
  by_cases h1 : q < n
  · exact h1
  · exact absurd (zCod_end (by omega)) h
theorem zNn_gt {c : Nat → Int} {n q : Nat} (h : q < n) : q < zNn c n q := Nat.lt_of_lt_of_le (zBe_gt h) zNx_ge
/-- a SUM -/
theorem rsG_spec {F q : Nat} (hF : n - q ≤ F) (hT : hOK tT es) (hr : rR R n es) (h0 : sT es + 1 ≤ pT es) (hq : zNx (zR R) n (pT es).toNat = q) (K : ∀ es' v, prG (zSu (zR R) n F q) R n es es' v → Q (.inl (some (.int (zI v))), es', kc, ks)) : aW O (d + 5) 191 kc ks Q (0, [some (.ref 143)], [], es) := by
  have hsb := sT_bd hT
  have loop : ∀ (N f b : Nat) (es1 : PH), n - b < N → n - b ≤ f → okG R n b es es1 → zSt (zR R) n f b = zSu (zR R) n F q → aW O (d + 5) 191 kc ks Q (9, [some (.ref 143)], [], es1) := by
    intro N
    induction N with
    | zero => intro f b es1 hN; omega
    | succ N ih =>
      intro f b es1 hN hf hok hX
      obtain ⟨a1, a2, a3, a4, a5, a6, a7⟩ := hok
      have hok' : okG R n b es es1 := ⟨a1, a2, a3, a4, a5, a6, a7⟩
      refine s_grs9 (d := d + 2) (sh_of a1) a1 a2 (fun es2 v2 p2 h2 => ?_) (fun es2 v2 p2 h2 => ?_)
      · obtain ⟨c1, c2, c3, c4, c5, c6, c7⟩ := sgG_no a1 a3 p2 h2
        rw [zSt_n (by omega)] at hX
        refine K es2 1 (Or.inl ⟨rfl, by rw [← hX], ?_⟩)
        rw [← hX]
        exact okG_seq hok' (okG_mv a1 c3 c1 c2 c4 c7)
      · obtain ⟨c1, c2, c3, c4, c5, c6, c7, c8, c9⟩ := sgG_ye a1 a3 p2 h2
        rw [zSt_y (by omega)] at hX
        obtain ⟨g1, g2⟩ := fB_sd a1 c3
        have hm := okG_mv a1 c3 c1 c2 c4 (by omega)
        have hgt := zNn_gt (c := zR R) c8
        refine c_rpG (d := d) i_191_19 c1 c2 (by omega) c4 (fun es3 v3 p3 => ?_)
        obtain ⟨r1, r2, r3, r4⟩ := prG_v p3
        refine s_rs22 (d := d + 5) (sh_of r2) r1 r2 (fun hv => ?_) (fun hv => ?_)
        · obtain ⟨w1, w2⟩ := r3 hv
          by_cases hc : zCod (zR R) n (zNn (zR R) n b) < -4
          · rw [zPt_n hc] at w1; cases w1
          rw [zPt_y hc] at w2
          have hq2 : zNn (zR R) n b < n := cod_lt (c := zR R) (by omega)
          have hgt2 := zNn_gt (c := zR R) hq2
          obtain ⟨f', rfl⟩ : ∃ f', f = f' + 1 := ⟨f - 1, by omega⟩
          rw [zSu_st hc] at hX
          obtain ⟨u1, u2, u3, u4, u5, u6, u7⟩ := okG_seq hok' (okG_seq hm w2)
          have hpb := pT_bd u1
          obtain ⟨y1, y2, y3, y4, y5, y6, y7⟩ := w2
          refine c_em (d := d + 4) i_191_31 r2 ⟨by omega, by omega⟩ ⟨by omega, by omega⟩ (by omega) (fun es4 h4 => ?_)
          refine s_rs34 (d := d + 5) (sh_of h4.2.1) h4.2.1 ?_
          exact ih f' _ es4 (by omega) (by omega) (okG_em (y := es3) ⟨u1, u2, u3, u4, u5, u6, u7⟩ h4 (by omega)) hX
        · obtain ⟨w1, w2⟩ := r4 (by omega)
          by_cases hc : zCod (zR R) n (zNn (zR R) n b) < -4
          · rw [zPt_n hc] at w2
            rw [zSu_no hc] at hX
            refine K es3 0 (Or.inr ⟨rfl, by rw [← hX], r2, ?_⟩)
            rw [← hX]
            exact w2
          · rw [zPt_y hc] at w1; cases w1
  refine s_rs0 (d := d + 5) (sh_of hT) hT ?_
  refine c_rpG (d := d) i_191_1 hT hr h0 hq (fun es1 v p1 => ?_)
  obtain ⟨r1, r2, r3, r4⟩ := prG_v p1
  refine s_rs4 (d := d + 5) (sh_of r2) r1 r2 (fun hv => ?_) (fun hv => ?_)
  · obtain ⟨w1, w2⟩ := r3 hv
    by_cases hc : zCod (zR R) n q < -4
    · rw [zPt_n hc] at w1; cases w1
    rw [zPt_y hc] at w2
    have hq2 : q < n := cod_lt (c := zR R) (by omega)
    have hgt2 := zNn_gt (c := zR R) hq2
    obtain ⟨f', rfl⟩ : ∃ f', F = f' + 1 := ⟨F - 1, by omega⟩
    exact loop _ f' _ es1 (Nat.lt_succ_self _) (by omega) w2 (zSu_st hc).symm
  · obtain ⟨w1, w2⟩ := r4 (by omega)
    by_cases hc : zCod (zR R) n q < -4
    · rw [zPt_n hc] at w2
      refine K es1 0 (Or.inr ⟨rfl, by rw [zSu_no hc], r2, ?_⟩)
      rw [zSu_no hc]
      exact w2
    · rw [zPt_y hc] at w1; cases w1
theorem c_rsG {F j pc k q : Nat} {L : PL} {ret : Option FieldType} (hi : iRow j pc = some (.invokevirtual 198, k, 191, 1, ret)) (hF : n - q ≤ F) (hT : hOK tT es) (hr : rR R n es) (h0 : sT es + 1 ≤ pT es) (hq : zNx (zR R) n (pT es).toNat = q) (K : ∀ es' v, prG (zSu (zR R) n F q) R n es es' v → aW O (d + 6) j kc ks Q (pc + 3, L, [.int (zI v)], es')) : aW O (d + 6) j kc ks Q (pc, L, [.ref 143], es) := by
  refine x_call (vs := [.ref 143]) (rs := []) hi rfl (fun _ => rfl) rfl rfl rfl rfl rfl (pCall_v (p := 79) (sh_of hT) rfl rfl rfl rfl rfl (by decide) rfl rfl rfl rfl rfl) ?_
  show aW _ _ _ _ _ _ (0, [some (.ref 143)], [], es)
  exact rsG_spec (d := d) hF hT hr h0 hq (fun es' v h => K es' v h)
/-- ATOMs with 'and' between: up to where no 'and' stands -/
theorem rlG_spec {A : Nat → Nat × Bool} {F q : Nat} {X : Nat × Bool} (hsub : ∀ (kc ks : Nat) (Q : pRes → Prop) (es1 : PH) (q1 : Nat), hOK tT es1 → rR R n es1 → sT es1 + 1 ≤ pT es1 → dT es1 = dT es → zNx (zR R) n (pT es1).toNat = q1 → (∀ es' v, prG (A q1) R n es1 es' v → Q (.inl (some (.int (zI v))), es', kc, ks)) → aW O (d + 4) 189 kc ks Q (0, [some (.ref 143), none, none], [], es1)) (hF : n - q ≤ F) (hT : hOK tT es) (hr : rR R n es) (h0 : sT es + 1 ≤ pT es) (hq : zNx (zR R) n (pT es).toNat = q) (hX : zCo (zR R) n F A q = X)
    (K1 : ∀ es' b f, n - b ≤ f → okG R n b es es' → ¬ zCod (zR R) n b = -8 → zCoL (zR R) n A f b = X → (pT es).toNat ≤ b → Q (.inl (some (.int (zI 1))), es', kc, ks))
    (K0 : ∀ es', X.2 = false → hOK tT es' → bT es' = (X.1 : Nat) → Q (.inl (some (.int (zI 0))), es', kc, ks)) : aW O (d + 5) 188 kc ks Q (0, [some (.ref 143)], [], es) := by
  have hsb := sT_bd hT
  have hpb0 := pT_bd hT
  have call : ∀ (pc k : Nat) (es1 : PH) (L : PL) (q1 : Nat), iRow 188 pc = some (.invokevirtual 191, k, 189, 1, some .boolean) → hOK tT es1 → rR R n es1 → sT es1 + 1 ≤ pT es1 → dT es1 = dT es → zNx (zR R) n (pT es1).toNat = q1 → (∀ es' v, prG (A q1) R n es1 es' v → aW O (d + 5) 188 kc ks Q (pc + 3, L, [.int (zI v)], es')) → aW O (d + 5) 188 kc ks Q (pc, L, [.ref 143], es1) := by
    intro pc k es1 L q1 hi hT1 hr1 h1 hd1 hq1 K1
    refine x_call (vs := [.ref 143]) (rs := []) hi rfl (fun _ => rfl) rfl rfl rfl rfl rfl (pCall_v (p := 79) (sh_of hT1) rfl rfl rfl rfl rfl (by decide) rfl rfl rfl rfl rfl) ?_
    show aW _ _ _ _ _ _ (0, [some (.ref 143), none, none], [], es1)
    exact hsub _ _ _ es1 q1 hT1 hr1 h1 hd1 hq1 (fun es' v h => K1 es' v h)
  have loop : ∀ (N f b : Nat) (es1 : PH), n - b < N → n - b ≤ f → okG R n b es es1 → zCoL (zR R) n A f b = X → aW O (d + 5) 188 kc ks Q (9, [some (.ref 143)], [], es1) := by
    intro N
    induction N with
    | zero => intro f b es1 hN; omega
    | succ N ih =>
      intro f b es1 hN hf hok hX1
      obtain ⟨a1, a2, a3, a4, a5, a6, a7⟩ := hok
      have hok' : okG R n b es es1 := ⟨a1, a2, a3, a4, a5, a6, a7⟩
      have hbge : (pT es1).toNat ≤ b := by rw [← a3]; exact zNx_ge
      refine s_grl9 (d := d + 1) (sh_of a1) a1 a2 (fun es2 v2 p2 h2 => ?_) (fun es2 v2 p2 h2 => ?_)
      · obtain ⟨c1, c2, c3, c4, c5, c6, c7⟩ := psG_no a1 a3 p2 h2
        exact K1 es2 b f hf (okG_seq hok' (okG_mv a1 c3 c1 c2 c4 c7)) (by omega) hX1 (by omega)
      · obtain ⟨c1, c2, c3, c4, c5, c6, c7, c8, c9⟩ := psG_ye a1 a3 p2 h2
        obtain ⟨g1, g2⟩ := fB_sd a1 c3
        have hm := okG_mv a1 c3 c1 c2 c4 (by omega)
        have hgt := zNn_gt (c := zR R) c8
        obtain ⟨f', rfl⟩ : ∃ f', f = f' + 1 := ⟨f - 1, by omega⟩
        rw [zCoL_co (by omega)] at hX1
        refine call 19 _ es2 _ (zNn (zR R) n b) i_188_19 c1 c2 (by omega) (by omega) c4 (fun es3 v3 p3 => ?_)
        obtain ⟨r1, r2, r3, r4⟩ := prG_v p3
        refine s_rl22 (d := d + 5) (sh_of r2) r1 r2 (fun hv => ?_) (fun hv => ?_)
        · obtain ⟨w1, w2⟩ := r3 hv
          rw [zCo_y w1] at hX1
          obtain ⟨u1, u2, u3, u4, u5, u6, u7⟩ := okG_seq hok' (okG_seq hm w2)
          have hpb := pT_bd u1
          obtain ⟨y1, y2, y3, y4, y5, y6, y7⟩ := w2
          have hge3 : (pT es3).toNat ≤ (A (zNn (zR R) n b)).1 := by rw [← y3]; exact zNx_ge
          refine c_em (d := d + 4) i_188_31 r2 ⟨by omega, by omega⟩ ⟨by omega, by omega⟩ (by omega) (fun es4 h4 => ?_)
          refine s_rl34 (d := d + 5) (sh_of h4.2.1) h4.2.1 ?_
          exact ih f' _ es4 (by omega) (by omega) (okG_em (y := es3) ⟨u1, u2, u3, u4, u5, u6, u7⟩ h4 (by omega)) hX1
        · obtain ⟨w1, w2⟩ := r4 (by omega)
          rw [zCo_n w1] at hX1
          refine K0 es3 (by rw [← hX1]) r2 ?_
          rw [← hX1]
          exact w2
  refine s_rl0 (d := d + 5) (sh_of hT) hT ?_
  refine call 1 _ es _ q i_188_1 hT hr h0 rfl hq (fun es1 v p1 => ?_)
  obtain ⟨r1, r2, r3, r4⟩ := prG_v p1
  refine s_rl4 (d := d + 5) (sh_of r2) r1 r2 (fun hv => ?_) (fun hv => ?_)
  · obtain ⟨w1, w2⟩ := r3 hv
    rw [zCo_y w1] at hX
    have hge3 : (pT es1).toNat ≤ (A q).1 := by rw [← w2.2.2.1]; exact zNx_ge
    have hmo : zNx (zR R) n (pT es).toNat ≤ zNx (zR R) n (pT es1).toNat := zNx_mono (by have := w2.2.2.2.2.1; omega) (by have := hr.2.2; omega)
    rw [hq, w2.2.2.1] at hmo
    exact loop _ F _ es1 (Nat.lt_succ_self _) (by omega) w2 hX
  · obtain ⟨w1, w2⟩ := r4 (by omega)
    rw [zCo_n w1] at hX
    refine K0 es1 (by rw [← hX]) r2 ?_
    rw [← hX]
    exact w2
/-- C: ALLs with 'or' between -/
theorem rcG_spec {A : Nat → Nat × Bool} {F q : Nat} (hsub : ∀ (kc ks : Nat) (Q : pRes → Prop) (es1 : PH) (q1 F1 : Nat) (X : Nat × Bool), n - q1 ≤ F1 → hOK tT es1 → rR R n es1 → sT es1 + 1 ≤ pT es1 → dT es1 = dT es → zNx (zR R) n (pT es1).toNat = q1 → zCo (zR R) n F1 A q1 = X → (∀ es' b f, n - b ≤ f → okG R n b es1 es' → ¬ zCod (zR R) n b = -8 → zCoL (zR R) n A f b = X → (pT es1).toNat ≤ b → Q (.inl (some (.int (zI 1))), es', kc, ks)) → (∀ es', X.2 = false → hOK tT es' → bT es' = (X.1 : Nat) → Q (.inl (some (.int (zI 0))), es', kc, ks)) → aW O (d + 4) 188 kc ks Q (0, [some (.ref 143)], [], es1)) (hF : n - q ≤ F) (hT : hOK tT es) (hr : rR R n es) (h0 : sT es + 1 ≤ pT es) (hq : zNx (zR R) n (pT es).toNat = q) (K : ∀ es' v, prG (zCo (zR R) n F A q) R n es es' v → Q (.inl (some (.int (zI v))), es', kc, ks)) : aW O (d + 5) 187 kc ks Q (0, [some (.ref 143)], [], es) := by
  have hsb := sT_bd hT
  obtain ⟨X, hX⟩ : ∃ X, X = zCo (zR R) n F A q := ⟨_, rfl⟩
  rw [← hX] at K
  have call : ∀ (pc k : Nat) (es1 : PH) (L : PL) (q1 F1 : Nat), iRow 187 pc = some (.invokevirtual 203, k, 188, 1, some .boolean) → n - q1 ≤ F1 → hOK tT es1 → rR R n es1 → sT es1 + 1 ≤ pT es1 → dT es1 = dT es → zNx (zR R) n (pT es1).toNat = q1 → zCo (zR R) n F1 A q1 = X → (∀ es' b f, n - b ≤ f → okG R n b es1 es' → ¬ zCod (zR R) n b = -8 → zCoL (zR R) n A f b = X → (pT es1).toNat ≤ b → aW O (d + 5) 187 kc ks Q (pc + 3, L, [.int (zI 1)], es')) → (∀ es', X.2 = false → hOK tT es' → bT es' = (X.1 : Nat) → aW O (d + 5) 187 kc ks Q (pc + 3, L, [.int (zI 0)], es')) → aW O (d + 5) 187 kc ks Q (pc, L, [.ref 143], es1) := by
    intro pc k es1 L q1 F1 hi hF1 hT1 hr1 h1 hd1 hq1 hX1 K1 K0
    refine x_call (vs := [.ref 143]) (rs := []) hi rfl (fun _ => rfl) rfl rfl rfl rfl rfl (pCall_v (p := 79) (sh_of hT1) rfl rfl rfl rfl rfl (by decide) rfl rfl rfl rfl rfl) ?_
    show aW _ _ _ _ _ _ (0, [some (.ref 143)], [], es1)
    exact hsub _ _ _ es1 q1 F1 X hF1 hT1 hr1 h1 hd1 hq1 hX1 (fun es' b f g1 g2 g3 g4 g5 => K1 es' b f g1 g2 g3 g4 g5) (fun es' g1 g2 g3 => K0 es' g1 g2 g3)
  have loop : ∀ (N f b : Nat) (es1 : PH), n - b < N → n - b ≤ f → okG R n b es es1 → ¬ zCod (zR R) n b = -8 → zCoL (zR R) n A f b = X → aW O (d + 5) 187 kc ks Q (9, [some (.ref 143)], [], es1) := by
    intro N
    induction N with
    | zero => intro f b es1 hN; omega
    | succ N ih =>
      intro f b es1 hN hf hok h8 hX1
      obtain ⟨a1, a2, a3, a4, a5, a6, a7⟩ := hok
      have hok' : okG R n b es es1 := ⟨a1, a2, a3, a4, a5, a6, a7⟩
      have hbge : (pT es1).toNat ≤ b := by rw [← a3]; exact zNx_ge
      refine s_grc9 (d := d + 1) (sh_of a1) a1 a2 (fun es2 v2 p2 h2 => ?_) (fun es2 v2 p2 h2 => ?_)
      · obtain ⟨c1, c2, c3, c4, c5, c6, c7⟩ := psG_no a1 a3 p2 h2
        rw [zCoL_end (by omega)] at hX1
        refine K es2 1 (Or.inl ⟨rfl, by rw [← hX1], ?_⟩)
        rw [← hX1]
        exact okG_seq hok' (okG_mv a1 c3 c1 c2 c4 c7)
      · obtain ⟨c1, c2, c3, c4, c5, c6, c7, c8, c9⟩ := psG_ye a1 a3 p2 h2
        obtain ⟨g1, g2⟩ := fB_sd a1 c3
        have hm := okG_mv a1 c3 c1 c2 c4 (by omega)
        have hgt := zNn_gt (c := zR R) c8
        obtain ⟨f', rfl⟩ : ∃ f', f = f' + 1 := ⟨f - 1, by omega⟩
        rw [zCoL_co (by omega)] at hX1
        refine call 19 _ es2 _ (zNn (zR R) n b) f' i_187_19 (by omega) c1 c2 (by omega) (by omega) c4 hX1 (fun es3 b3 f3 y1 y2 y3 y4 y5 => ?_) (fun es3 y1 y2 y3 => ?_)
        · have r2 := y2.1
          refine s_rc22 (d := d + 5) (sh_of r2) ⟨by omega, by omega⟩ r2 (fun hv => ?_) (fun hv => absurd (by omega) hv)
          obtain ⟨u1, u2, u3, u4, u5, u6, u7⟩ := okG_seq hok' (okG_seq hm y2)
          have hpb := pT_bd u1
          obtain ⟨z1, z2, z3, z4, z5, z6, z7⟩ := y2
          refine c_em (d := d + 4) i_187_31 r2 ⟨by omega, by omega⟩ ⟨by omega, by omega⟩ (by omega) (fun es4 h4 => ?_)
          refine s_rc34 (d := d + 5) (sh_of h4.2.1) h4.2.1 ?_
          exact ih f3 b3 es4 (by omega) y1 (okG_em (y := es3) ⟨u1, u2, u3, u4, u5, u6, u7⟩ h4 (by omega)) y3 y4
        · exact s_rc22 (d := d + 5) (sh_of y2) ⟨by omega, by omega⟩ y2 (fun hv => absurd rfl hv) (fun hv => K es3 0 (Or.inr ⟨rfl, y1, y2, y3⟩))
  refine s_rc0 (d := d + 5) (sh_of hT) hT ?_
  refine call 1 _ es _ q F i_187_1 hF hT hr h0 rfl hq hX.symm (fun es3 b3 f3 y1 y2 y3 y4 y5 => ?_) (fun es3 y1 y2 y3 => ?_)
  · exact s_rc4 (d := d + 5) (sh_of y2.1) ⟨by omega, by omega⟩ y2.1 (fun hv => loop _ f3 b3 es3 (Nat.lt_succ_self _) y1 y2 y3 y4) (fun hv => absurd (by omega) hv)
  · exact s_rc4 (d := d + 5) (sh_of y2) ⟨by omega, by omega⟩ y2 (fun hv => absurd rfl hv) (fun hv => K es3 0 (Or.inr ⟨rfl, y1, y2, y3⟩))
theorem rR_9 {x : Int} {es' : PH} (hr : rR R n es) (he : es' = sI es 79 9 (.int (zI x))) : rR R n es' ∧ pT es' = pT es := by
  have hp : pT es' = pT es := by unfold pT; rw [he, gI_sI_ne (Or.inr (by decide))]
  exact ⟨⟨by rw [he, gA_sI]; exact hr.1, by rw [he, gI_sI_ne (Or.inr (by decide))]; exact hr.2.1, by rw [hp]; exact hr.2.2⟩, hp⟩
/-- an ATOM, with so many levels left -/
theorem raG_step {D q F : Nat} (hFn : n ≤ F) (hT : hOK tT es) (hr : rR R n es) (h0 : sT es + 1 ≤ pT es) (hd : dT es + (D : Int) = 6) (hq : zNx (zR R) n (pT es).toNat = q)
    (hC : ∀ D', D = D' + 1 → ∀ (kc ks : Nat) (Q : pRes → Prop) (es1 : PH) (q1 : Nat), hOK tT es1 → rR R n es1 → sT es1 + 1 ≤ pT es1 → dT es1 + (D' : Int) = 6 → zNx (zR R) n (pT es1).toNat = q1 → (∀ es' v, prG (zCo (zR R) n F (zAt (zR R) n F D') q1) R n es1 es' v → Q (.inl (some (.int (zI v))), es', kc, ks)) → aW O (d + 5) 187 kc ks Q (0, [some (.ref 143)], [], es1))
    (hA : ∀ D', D = D' + 1 → ∀ (kc ks : Nat) (Q : pRes → Prop) (es1 : PH) (q1 : Nat), hOK tT es1 → rR R n es1 → sT es1 + 1 ≤ pT es1 → dT es1 + (D' : Int) = 6 → zNx (zR R) n (pT es1).toNat = q1 → (∀ es' v, prG (zAt (zR R) n F D' q1) R n es1 es' v → Q (.inl (some (.int (zI v))), es', kc, ks)) → aW O (d + 5) 189 kc ks Q (0, [some (.ref 143), none, none], [], es1))
    (K : ∀ es' v, prG (zAt (zR R) n F D q) R n es es' v → Q (.inl (some (.int (zI v))), es', kc, ks)) : aW O (d + 6) 189 kc ks Q (0, [some (.ref 143), none, none], [], es) := by
  have hdb := dT_bd hT
  have hsb := sT_bd hT
  have no : ∀ b es2, zAt (zR R) n F D q = (b, false) → hOK tT es2 → bT es2 = (b : Int) → Q (.inl (some (.int (zI 0))), es2, kc, ks) := by
    intro b es2 hX h1 h2
    refine K es2 0 (Or.inr ⟨rfl, by rw [hX], h1, ?_⟩)
    rw [hX]
    exact h2
  have ok : ∀ b es2, zAt (zR R) n F D q = (b, true) → okG R n b es es2 → Q (.inl (some (.int (zI 1))), es2, kc, ks) := by
    intro b es2 hX h1
    refine K es2 1 (Or.inl ⟨rfl, by rw [hX], ?_⟩)
    rw [hX]
    exact h1
  have tk : ∀ (es7 : PH) (op v8 : Int), hOK tT es7 → rR R n es7 → fr frB es es7 → zNx (zR R) n (pT es7).toNat = zNn (zR R) n q → pT es + 1 ≤ pT es7 → op = 4 ∨ op = 5 → zAt (zR R) n F D q = (zNn (zR R) n q, true) → aW O (d + 6) 189 kc ks Q (145, [some (.ref 143), some (.int (zI v8)), none], [.int (zI 0), .int (zI op), .ref 143], es7) := by
    intro es7 op v8 hT7 hr7 hf7 hz7 hp hop hX
    obtain ⟨g1, g2⟩ := fB_sd hT hf7
    have hpb := pT_bd hT7
    refine c_em (d := d + 5) i_189_145 hT7 ⟨by omega, by omega⟩ ⟨by omega, by omega⟩ (by omega) (fun es8 h8 => ?_)
    exact s_ra148 (d := d + 6) (sh_of h8.2.1) h8.2.1 (ok _ es8 hX (okG_em (okG_mv hT hf7 hT7 hr7 hz7 (by omega)) h8 (by omega)))
  refine s_gra0 (d := d + 2) (sh_of hT) hT hr (fun es1 v2 p2 h2 es4 v5 p5 h5 es7 v8 p8 h8 => ?_) (fun es1 v2 p2 h2 es4 v5 p5 h5 es7 v8 p8 h8 es10 v11 p11 h11 => ?_) (fun es1 v2 p2 h2 es4 v5 p5 h5 es7 v8 p8 h8 es10 v11 p11 h11 => ?_) (fun es1 v2 p2 h2 es4 v5 p5 h5 v13 e13 h13 v15 e15 es16 e16 => ?_) (fun es1 v2 p2 h2 es4 v5 p5 h5 v13 e13 h13 => ?_) (fun es1 v2 p2 h2 v17 e17 h17 v19 e19 es20 e20 => ?_) (fun es1 v2 p2 h2 v17 e17 h17 => ?_)
  · obtain ⟨a1, a2, a3, a4, a5, a6, a7⟩ := sgG_no hT hq p2 h2
    obtain ⟨b1, b2, b3, b4, b5, b6, b7⟩ := psG_no a1 a4 p5 h5
    obtain ⟨c1, c2, c3, c4, c5, c6, c7, c8, c9⟩ := psG_ye b1 b4 p8 h8
    exact tk es7 4 v8 c1 c2 (fr_trans a3 (fr_trans b3 c3)) c4 (by omega) (Or.inl rfl) (by rw [zAt_a1 (by omega) (by omega), zA1_t (by omega)])
  · -- two sums and what stands between
    obtain ⟨a1, a2, a3, a4, a5, a6, a7⟩ := sgG_no hT hq p2 h2
    obtain ⟨b1, b2, b3, b4, b5, b6, b7⟩ := psG_no a1 a4 p5 h5
    obtain ⟨c1, c2, c3, c4, c5, c6, c7⟩ := psG_no b1 b4 p8 (by omega)
    obtain ⟨t1, t2, t3, t4, t5, t6, t7⟩ := psG_no c1 c4 p11 h11
    have f10 : fr frB es es10 := fr_trans a3 (fr_trans b3 (fr_trans c3 t3))
    obtain ⟨g1, g2⟩ := fB_sd hT f10
    have hm10 : okG R n q es es10 := okG_mv hT f10 t1 t2 t4 (by omega)
    have hX0 : zAt (zR R) n F D q = zA1 (zR R) n F q := zAt_a1 (by omega) (by omega)
    have ht : ¬ (zCod (zR R) n q = -5 ∨ zCod (zR R) n q = -6) := by omega
    refine c_rsG (d := d) i_189_151 (F := F) (by omega) t1 t2 (by omega) t4 (fun es12 v12 p12 => ?_)
    obtain ⟨r1, r2, r3, r4⟩ := prG_v p12
    have second : ∀ (es13 : PH) (l : Int), v12 ≠ 0 → hOK tT es13 → rR R n es13 → fr frB es12 es13 → zNx (zR R) n (pT es13).toNat = zNn (zR R) n (zSu (zR R) n F q).1 → pT es12 + 1 ≤ pT es13 → zCod (zR R) n (zSu (zR R) n F q).1 = -1060 ∨ zCod (zR R) n (zSu (zR R) n F q).1 = -1062 → 0 ≤ l ∧ l ≤ 1 → aW O (d + 6) 189 kc ks Q (180, [some (.ref 143), some (.int (zI v8)), some (.int (zI l))], [.ref 143], es13) := by
      intro es13 l hv hT13 hr13 f13 hz13 hp13 hcd hl
      obtain ⟨w1, w2⟩ := r3 hv
      have hX := hX0.trans (zA1_c ht w1 hcd)
      have hok12 := okG_seq hm10 w2
      have hm13 : okG R n _ es12 es13 := okG_mv r2 f13 hT13 hr13 hz13 (by omega)
      obtain ⟨y1, y2, y3, y4, y5, y6, y7⟩ := okG_seq hok12 hm13
      obtain ⟨g3, g4⟩ := fB_sd r2 f13
      obtain ⟨x1, x2, x3, x4, x5, x6, x7⟩ := hok12
      refine c_rsG (d := d) i_189_180 (F := F) (by omega) hT13 hr13 (by omega) hz13 (fun es14 v14 p14 => ?_)
      obtain ⟨u1, u2, u3, u4⟩ := prG_v p14
      have last : ∀ op : Int, v14 ≠ 0 → op = 8 ∨ op = 9 → aW O (d + 6) 189 kc ks Q (201, [some (.ref 143), some (.int (zI v8)), some (.int (zI l))], [.int (zI 0), .int (zI op), .ref 143], es14) := by
        intro op hv14 hop
        obtain ⟨z1, z2⟩ := u3 hv14
        obtain ⟨s1, s2, s3, s4, s5, s6, s7⟩ := z2
        have hpb := pT_bd u2
        refine c_em (d := d + 5) i_189_201 u2 ⟨by omega, by omega⟩ ⟨by omega, by omega⟩ (by omega) (fun es15 h15 => ?_)
        refine s_ra204 (d := d + 6) (sh_of h15.2.1) h15.2.1 (K es15 1 (Or.inl ⟨rfl, by rw [hX]; exact z1, ?_⟩))
        rw [hX]
        exact okG_em (y := es14) (okG_seq (y := es13) ⟨y1, y2, y3, y4, y5, y6, y7⟩ ⟨s1, s2, s3, s4, s5, s6, s7⟩) h15 (by omega)
      refine s_ra183 (d := d + 6) (sh_of u2) u1 hl u2 (fun hv14 _ => last 9 hv14 (Or.inr rfl)) (fun hv14 _ => last 8 hv14 (Or.inl rfl)) (fun hv14 => ?_)
      obtain ⟨z1, z2⟩ := u4 (by omega)
      refine K es14 0 (Or.inr ⟨rfl, by rw [hX]; exact z1, u2, ?_⟩)
      rw [hX]
      exact z2
    refine s_gra154 (d := d + 6) (sh_of r2) r1 r2 (fun hv => ?_) (fun hv => ?_)
    · obtain ⟨w1, w2⟩ := r3 hv
      obtain ⟨x1, x2, x3, x4, x5, x6, x7⟩ := w2
      refine s_gra159 (d := d + 3) (sh_of r2) r2 x2 (fun es13 v13 p13 h13 => ?_) (fun es13 v13 p13 h13 es14 v14 p14 h14 => ?_) (fun es13 v13 p13 h13 es14 v14 p14 h14 => ?_)
      · obtain ⟨s1, s2, s3, s4, s5, s6, s7, s8, s9⟩ := sgG_ye r2 x3 p13 h13
        exact second es13 v13 hv s1 s2 s3 s4 s7 (Or.inl (by omega)) (sgG_rng p13)
      · obtain ⟨s1, s2, s3, s4, s5, s6, s7⟩ := sgG_no r2 x3 p13 (by omega)
        obtain ⟨i1, i2, i3, i4, i5, i6, i7⟩ := sgG_no s1 s4 p14 h14
        exact no _ es14 (hX0.trans (zA1_w ht w1 (by omega))) i1 i6
      · obtain ⟨s1, s2, s3, s4, s5, s6, s7⟩ := sgG_no r2 x3 p13 (by omega)
        obtain ⟨i1, i2, i3, i4, i5, i6, i7, i8, i9⟩ := sgG_ye s1 s4 p14 h14
        exact second es14 v13 hv i1 i2 (fr_trans s3 i3) i4 (by omega) (Or.inr (by omega)) (sgG_rng p13)
    · obtain ⟨w1, w2⟩ := r4 (by omega)
      exact no _ es12 (hX0.trans (zA1_n ht w1)) r2 w2
  · obtain ⟨a1, a2, a3, a4, a5, a6, a7⟩ := sgG_no hT hq p2 h2
    obtain ⟨b1, b2, b3, b4, b5, b6, b7⟩ := psG_no a1 a4 p5 h5
    obtain ⟨c1, c2, c3, c4, c5, c6, c7⟩ := psG_no b1 b4 p8 (by omega)
    obtain ⟨t1, t2, t3, t4, t5, t6, t7, t8, t9⟩ := psG_ye c1 c4 p11 h11
    exact tk es10 5 v8 t1 t2 (fr_trans a3 (fr_trans b3 (fr_trans c3 t3))) t4 (by omega) (Or.inr rfl) (by rw [zAt_a1 (by omega) (by omega), zA1_t (by omega)])
  · -- not
    obtain ⟨a1, a2, a3, a4, a5, a6, a7⟩ := sgG_no hT hq p2 h2
    obtain ⟨b1, b2, b3, b4, b5, b6, b7, b8, b9⟩ := psG_ye a1 a4 p5 h5
    have f4 : fr frB es es4 := fr_trans a3 b3
    obtain ⟨g1, g2⟩ := fB_sd hT f4
    have hv13 : v13 = dT es4 := e13
    have hv15 : v15 = dT es4 := e15
    rw [hv15] at e16
    have hdb4 := dT_bd b1
    obtain ⟨D', rfl⟩ : ∃ D', D = D' + 1 := ⟨D - 1, by omega⟩
    obtain ⟨w1, w2, w3, w4, w5, w6⟩ := put9 b1 (by omega) e16
    obtain ⟨w7, -⟩ := rR_9 b2 e16
    have hX : zAt (zR R) n F (D' + 1) q = zAt (zR R) n F D' (zNn (zR R) n q) := zAt_not (by omega)
    refine x_call (vs := [.ref 143]) (rs := []) i_189_87 rfl (fun _ => rfl) rfl rfl rfl rfl rfl (pCall_v (p := 79) (sh_of w1) rfl rfl rfl rfl rfl (by decide) rfl rfl rfl rfl rfl) ?_
    show aW _ _ _ _ _ _ (0, [some (.ref 143), none, none], [], es16)
    refine hA D' rfl _ _ _ es16 (zNn (zR R) n q) w1 w7 (by omega) (by omega) (by rw [w3]; exact b4) (fun es17 v17 p17 => ?_)
    show aW _ _ _ _ _ _ (90, [some (.ref 143), none, none], [.int (zI v17)], es17)
    obtain ⟨r1, r2, r3, r4⟩ := prG_v p17
    by_cases hv17 : v17 = 0
    · obtain ⟨z1, z2⟩ := r4 hv17
      refine x_ifF i_189_90 (by unfold i32 iLO iHI; omega) rfl (by simp only [zC, cR]; omega) ?_
      refine x0 (r := (94, [some (.ref 143), none, none], [.int (zI 0)], es17)) i_189_93 (by rfl) ?_
      refine x_ret (v := some (.int (zI 0))) i_189_94 rfl (fun _ => rfl) rfl rfl rfl (K es17 0 (Or.inr ⟨rfl, by rw [hX]; exact z1, r2, ?_⟩))
      rw [hX]
      exact z2
    · obtain ⟨z1, z2⟩ := r3 hv17
      obtain ⟨y1, y2, y3, y4, y5, y6, y7⟩ := z2
      refine s_ra90 (d := d + 6) (sh_of r2) r1 (by show 1 ≤ dT es17; omega) r2 (fun hv v18 e18 es19 e19 => ?_) (fun hv => absurd (by omega) hv17)
      have hv18 : v18 = dT es17 := e18
      rw [hv18] at e19
      obtain ⟨m1, m2, m3, m4, m5, m6⟩ := put9 r2 (by omega) e19
      obtain ⟨m7, -⟩ := rR_9 y2 e19
      have hpb := pT_bd m1
      have hok19 : okG R n (zAt (zR R) n F D' (zNn (zR R) n q)).1 es es19 := ⟨m1, m7, by rw [m3]; exact y3, by omega, by omega, by omega, by omega⟩
      refine c_em (d := d + 5) i_189_109 m1 ⟨by omega, by omega⟩ ⟨by omega, by omega⟩ (by omega) (fun es21 h21 => ?_)
      refine s_ra112 (d := d + 6) (sh_of h21.2.1) h21.2.1 (K es21 1 (Or.inl ⟨rfl, by rw [hX]; exact z1, ?_⟩))
      rw [hX]
      exact okG_em hok19 h21 (by omega)
  · -- not, too deep
    obtain ⟨a1, a2, a3, a4, a5, a6, a7⟩ := sgG_no hT hq p2 h2
    obtain ⟨b1, b2, b3, b4, b5, b6, b7, b8, b9⟩ := psG_ye a1 a4 p5 h5
    obtain ⟨g1, g2⟩ := fB_sd hT (fr_trans a3 b3)
    have hv13 : v13 = dT es4 := e13
    obtain rfl : D = 0 := by omega
    exact no q es4 (zAt_d0 (by omega)) b1 b6
  · -- what stands in brackets
    obtain ⟨b1, b2, b3, b4, b5, b6, b7, b8, b9⟩ := sgG_ye hT hq p2 h2
    obtain ⟨g1, g2⟩ := fB_sd hT b3
    have hv17 : v17 = dT es1 := e17
    have hv19 : v19 = dT es1 := e19
    rw [hv19] at e20
    have hdb1 := dT_bd b1
    obtain ⟨D', rfl⟩ : ∃ D', D = D' + 1 := ⟨D - 1, by omega⟩
    obtain ⟨w1, w2, w3, w4, w5, w6⟩ := put9 b1 (by omega) e20
    obtain ⟨w7, -⟩ := rR_9 b2 e20
    have hX : zAt (zR R) n F (D' + 1) q = zPa (zR R) n (zCo (zR R) n F (zAt (zR R) n F D') (zNn (zR R) n q)) := zAt_par (by omega)
    refine x_call (vs := [.ref 143]) (rs := []) i_189_31 rfl (fun _ => rfl) rfl rfl rfl rfl rfl (pCall_v (p := 79) (sh_of w1) rfl rfl rfl rfl rfl (by decide) rfl rfl rfl rfl rfl) ?_
    show aW _ _ _ _ _ _ (0, [some (.ref 143)], [], es20)
    refine hC D' rfl _ _ _ es20 (zNn (zR R) n q) w1 w7 (by omega) (by omega) (by rw [w3]; exact b4) (fun es21 v21 p21 => ?_)
    show aW _ _ _ _ _ _ (34, [some (.ref 143), none, none], [.int (zI v21)], es21)
    obtain ⟨r1, r2, r3, r4⟩ := prG_v p21
    by_cases hv21 : v21 = 0
    · obtain ⟨z1, z2⟩ := r4 hv21
      refine x_ifF i_189_34 (by unfold i32 iLO iHI; omega) rfl (by simp only [zC, cR]; omega) ?_
      refine x0 (r := (38, [some (.ref 143), none, none], [.int (zI 0)], es21)) i_189_37 (by rfl) ?_
      exact x_ret (v := some (.int (zI 0))) i_189_38 rfl (fun _ => rfl) rfl rfl rfl (no _ es21 (hX.trans (zPa_n z1)) r2 z2)
    · obtain ⟨z1, z2⟩ := r3 hv21
      obtain ⟨y1, y2, y3, y4, y5, y6, y7⟩ := z2
      refine s_gra34 (d := d + 6) (sh_of r2) r1 (by show 1 ≤ dT es21; omega) r2 (fun hv v18 e18 es22 e22 => ?_) (fun hv => absurd (by omega) hv21)
      have hv18 : v18 = dT es21 := e18
      rw [hv18] at e22
      obtain ⟨m1, m2, m3, m4, m5, m6⟩ := put9 r2 (by omega) e22
      obtain ⟨m7, -⟩ := rR_9 y2 e22
      have hok22 : okG R n (zCo (zR R) n F (zAt (zR R) n F D') (zNn (zR R) n q)).1 es es22 := ⟨m1, m7, by rw [m3]; exact y3, by omega, by omega, by omega, by omega⟩
      refine x_call (vs := [.ref 143, .int (zI 41)]) (rs := []) i_189_52 rfl (fun _ => rfl) rfl rfl rfl rfl rfl (pCall_v (p := 79) (sh_of m1) rfl rfl rfl rfl rfl (by decide) rfl rfl rfl rfl rfl) ?_
      show aW _ _ _ _ _ _ (0, [some (.ref 143), some (.int (zI 41))], [], es22)
      refine sgG_spec (d := d + 3) (sh_of m1) m1 m7 (by omega) (fun es23 v23 p23 => ?_)
      show aW _ _ _ _ _ _ (55, [some (.ref 143), none, none], [.int (zI v23)], es23)
      have h23 := sgG_rng p23
      have hz22 : zNx (zR R) n (pT es22).toNat = (zCo (zR R) n F (zAt (zR R) n F D') (zNn (zR R) n q)).1 := by rw [m3]; exact y3
      refine s_gra55 (d := d + 6) (sh_of p23.2.1) (by omega) p23.2.1 ?_
      by_cases hv23 : v23 = 0
      · obtain ⟨s1, s2, s3, s4, s5, s6, s7⟩ := sgG_no m1 hz22 p23 hv23
        rw [hv23]
        exact no _ es23 (hX.trans (zPa_w z1 (by omega))) s1 s6
      · obtain ⟨s1, s2, s3, s4, s5, s6, s7, s8, s9⟩ := sgG_ye m1 hz22 p23 hv23
        rw [show v23 = 1 by omega]
        exact ok _ es23 (hX.trans (zPa_y z1 (by omega))) (okG_seq hok22 (okG_mv m1 s3 s1 s2 s4 (by omega)))
  · -- too deep
    obtain ⟨b1, b2, b3, b4, b5, b6, b7, b8, b9⟩ := sgG_ye hT hq p2 h2
    obtain ⟨g1, g2⟩ := fB_sd hT b3
    have hv17 : v17 = dT es1 := e17
    obtain rfl : D = 0 := by omega
    exact no q es1 (zAt_d0 (by omega)) b1 b6
end
theorem rdG_ind {O : pOut} {R : Nat → Int32} {n F : Nat} (hFn : n ≤ F) : ∀ D : Nat,
    (∀ (d kc ks : Nat) (Q : pRes → Prop) (es : PH) (q : Nat), hOK tT es → rR R n es → sT es + 1 ≤ pT es → dT es + (D : Int) = 6 → zNx (zR R) n (pT es).toNat = q → (∀ es' v, prG (zAt (zR R) n F D q) R n es es' v → Q (.inl (some (.int (zI v))), es', kc, ks)) → aW O (d + (6 + 3 * D)) 189 kc ks Q (0, [some (.ref 143), none, none], [], es)) ∧
    (∀ (d kc ks : Nat) (Q : pRes → Prop) (es : PH) (q : Nat), hOK tT es → rR R n es → sT es + 1 ≤ pT es → dT es + (D : Int) = 6 → zNx (zR R) n (pT es).toNat = q → (∀ es' v, prG (zCo (zR R) n F (zAt (zR R) n F D) q) R n es es' v → Q (.inl (some (.int (zI v))), es', kc, ks)) → aW O (d + (8 + 3 * D)) 187 kc ks Q (0, [some (.ref 143)], [], es)) := by
  have cond : ∀ D : Nat, (∀ (d kc ks : Nat) (Q : pRes → Prop) (es : PH) (q : Nat), hOK tT es → rR R n es → sT es + 1 ≤ pT es → dT es + (D : Int) = 6 → zNx (zR R) n (pT es).toNat = q → (∀ es' v, prG (zAt (zR R) n F D q) R n es es' v → Q (.inl (some (.int (zI v))), es', kc, ks)) → aW O (d + (6 + 3 * D)) 189 kc ks Q (0, [some (.ref 143), none, none], [], es)) →
      (∀ (d kc ks : Nat) (Q : pRes → Prop) (es : PH) (q : Nat), hOK tT es → rR R n es → sT es + 1 ≤ pT es → dT es + (D : Int) = 6 → zNx (zR R) n (pT es).toNat = q → (∀ es' v, prG (zCo (zR R) n F (zAt (zR R) n F D) q) R n es es' v → Q (.inl (some (.int (zI v))), es', kc, ks)) → aW O (d + (8 + 3 * D)) 187 kc ks Q (0, [some (.ref 143)], [], es)) := by
    intro D hA d kc ks Q es q hT hr h0 h6 hq K
    have e1 : d + (8 + 3 * D) = (d + (3 + 3 * D)) + 5 := by omega
    rw [e1]
    refine rcG_spec (d := d + (3 + 3 * D)) (fun kc ks Q es1 q1 F1 X hF1 hT1 hr1 h1 hd1 hq1 hX1 K1 K0 => ?_) (by omega) hT hr h0 hq K
    have e2 : d + (3 + 3 * D) + 4 = (d + (2 + 3 * D)) + 5 := by omega
    rw [e2]
    refine rlG_spec (d := d + (2 + 3 * D)) (fun kc ks Q es2 q2 hT2 hr2 h2 hd2 hq2 K2 => ?_) hF1 hT1 hr1 h1 hq1 hX1 K1 K0
    have e3 : d + (2 + 3 * D) + 4 = d + (6 + 3 * D) := by omega
    rw [e3]
    exact hA d kc ks Q es2 q2 hT2 hr2 h2 (by omega) hq2 K2
  intro D
  induction D with
  | zero =>
    have hA : (∀ (d kc ks : Nat) (Q : pRes → Prop) (es : PH) (q : Nat), hOK tT es → rR R n es → sT es + 1 ≤ pT es → dT es + ((0 : Nat) : Int) = 6 → zNx (zR R) n (pT es).toNat = q → (∀ es' v, prG (zAt (zR R) n F 0 q) R n es es' v → Q (.inl (some (.int (zI v))), es', kc, ks)) → aW O (d + (6 + 3 * 0)) 189 kc ks Q (0, [some (.ref 143), none, none], [], es)) := by
      intro d kc ks Q es q hT hr h0 h6 hq K
      exact raG_step (d := d) hFn hT hr h0 h6 hq (fun D' h => absurd h (by omega)) (fun D' h => absurd h (by omega)) K
    exact ⟨hA, cond 0 hA⟩
  | succ D ih =>
    have hA : (∀ (d kc ks : Nat) (Q : pRes → Prop) (es : PH) (q : Nat), hOK tT es → rR R n es → sT es + 1 ≤ pT es → dT es + ((D + 1 : Nat) : Int) = 6 → zNx (zR R) n (pT es).toNat = q → (∀ es' v, prG (zAt (zR R) n F (D + 1) q) R n es es' v → Q (.inl (some (.int (zI v))), es', kc, ks)) → aW O (d + (6 + 3 * (D + 1))) 189 kc ks Q (0, [some (.ref 143), none, none], [], es)) := by
      intro d kc ks Q es q hT hr h0 h6 hq K
      have e1 : d + (6 + 3 * (D + 1)) = (d + (3 + 3 * D)) + 6 := by omega
      rw [e1]
      refine raG_step (d := d + (3 + 3 * D)) hFn hT hr h0 h6 hq (fun D' hD kc ks Q es1 q1 hT1 hr1 h1 hd1 hq1 K1 => ?_) (fun D' hD kc ks Q es1 q1 hT1 hr1 h1 hd1 hq1 K1 => ?_) K
      · have hDD : D' = D := by omega
        rw [hDD] at hd1 K1
        have e2 : d + (3 + 3 * D) + 5 = d + (8 + 3 * D) := by omega
        rw [e2]
        exact ih.2 d kc ks Q es1 q1 hT1 hr1 h1 hd1 hq1 K1
      · have hDD : D' = D := by omega
        rw [hDD] at hd1 K1
        have e2 : d + (3 + 3 * D) + 5 = (d + 2) + (6 + 3 * D) := by omega
        rw [e2]
        exact ih.1 (d + 2) kc ks Q es1 q1 hT1 hr1 h1 hd1 hq1 K1
    exact ⟨hA, cond (D + 1) hA⟩
/-- C, from the level 0 on -/
theorem rcG_all {O : pOut} {d kc ks : Nat} {Q : pRes → Prop} {es : PH} {R : Nat → Int32} {n F q : Nat} (hFn : n ≤ F) (hT : hOK tT es) (hr : rR R n es) (h0 : sT es + 1 ≤ pT es) (hd : dT es = 0) (hq : zNx (zR R) n (pT es).toNat = q) (K : ∀ es' v, prG (zCo (zR R) n F (zAt (zR R) n F 6) q) R n es es' v → Q (.inl (some (.int (zI v))), es', kc, ks)) : aW O (d + 26) 187 kc ks Q (0, [some (.ref 143)], [], es) :=
  (rdG_ind hFn 6).2 d kc ks Q es q hT hr h0 (by omega) hq K
