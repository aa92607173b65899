theorem tS80_ln : ∀ n, n < 10 → tS80 (1285 + 4 * n) = (-1, 999) ∧ tS80 (1285 + 4 * n + 1) = (-1, 3) ∧ tS80 (1285 + 4 * n + 2) = (0, 400) ∧ tS80 (1285 + 4 * n + 3) = (0, 400) := by decide +kernel
/-- a line as it stands in the draft -/
def lineOK (es : PH) (n : Nat) : Prop := ∃ a b : Nat, (gA es 80 (1285 + 4 * n + 2)).toInt = (a : Int) ∧ (gA es 80 (1285 + 4 * n + 3)).toInt = (b : Int) ∧ a ≤ b ∧ (b : Int) ≤ sT es ∧ rpn (opD es) (b - a) a 0 ≠ none
def frLn (n s : Nat) : List aMod := [(79, 8, 0, 1), (79, 10, 0, 1), (79, 11, 0, 1), (79, 14, 0, 1), (80, 0, 1285 + 4 * n, 1285 + 4 * n + 4), (80, 0, 1325 + 2 * s, 2125)]
def lnP (n : Nat) (es es' : PH) (v : Int) : Prop := hOK tT es' ∧ fr (frLn n (sT es).toNat) es es' ∧ (v = 0 ∨ (v = 1 ∧ sT es' ≤ pT es' ∧ sT es ≤ sT es' ∧ lineOK es' n))
theorem put80 {es es' : PH} {i : Nat} {x lo hi : Int} (hT : hOK tT es) (ht : tS80 i = (lo, hi)) (hx : lo ≤ x ∧ x ≤ hi) (hx2 : i32 x) (hi : 1285 ≤ i ∧ i < 1325) (he : es' = sA es 80 i (zI x)) : hOK tT es' ∧ (gA es' 80 i).toInt = x ∧ (∀ j, j ≠ i → gA es' 80 j = gA es 80 j) ∧ pT es' = pT es ∧ sT es' = sT es ∧ dT es' = dT es ∧ opD es' = opD es ∧ fr [(80, 0, i, i + 1)] es es' := by
  have hz : (zI x).toInt = x := zI_toInt hx2
  have hg : gA es' 80 = upd (gA es 80) i (zI x) := by rw [he, gA_sA (sh_of hT) (p := 80) (t := 0) (n := 2125) (sp := tS80) rfl (by decide)]
  have hj : ∀ j, j ≠ i → gA es' 80 j = gA es 80 j := fun j h => by rw [hg]; unfold upd; rw [if_neg h]
  refine ⟨by rw [he]; exact hOK_sA hT (p := 80) (t := 0) (n := 2125) (sp := tS80) rfl (fun _ => by rw [ht, hz]; exact hx), ?_, hj, ?_, ?_, ?_, ?_, ?_⟩
  · rw [hg]; unfold upd; rw [if_pos rfl, hz]
  · unfold pT; rw [he, gI_sA]
  · unfold sT; rw [he, gI_sA]
  · unfold dT; rw [he, gI_sA]
  · funext k; unfold opD; rw [hj _ (by omega)]
  · rw [he]; exact fr_sA (mIn_yes (by simp only [mHq, true_and, and_true, false_and, and_false, or_false, false_or, not_false_eq_true, Nat.reduceEqDiff] <;> omega))
theorem fr1_Ln {a b : PH} {n s i : Nat} (h : fr [(80, 0, i, i + 1)] a b) (h1 : 1285 + 4 * n ≤ i) (h2 : i < 1285 + 4 * n + 4) : fr (frLn n s) a b := fr_wk (by simp only [mAl, frLn, mHq, true_and, and_true, false_and, and_false, or_false, false_or, not_false_eq_true, Nat.reduceEqDiff] <;> (repeat' apply And.intro) <;> intros <;> omega) h
theorem frB_Ln {a b : PH} {n s : Nat} (h : fr frB a b) : fr (frLn n s) a b := fr_wk (by simp only [mAl, frB, frLn, mHq, true_and, and_true, false_and, and_false, or_false, false_or, not_false_eq_true, Nat.reduceEqDiff] <;> (repeat' apply And.intro) <;> intros <;> omega) h
theorem frPr_Ln {a b : PH} {n s : Nat} (h : fr (frPr s) a b) : fr (frLn n s) a b := fr_wk (by simp only [mAl, frPr, frLn, mHq, true_and, and_true, false_and, and_false, or_false, false_or, not_false_eq_true, Nat.reduceEqDiff] <;> (repeat' apply And.intro) <;> intros <;> omega) h
theorem s_rm0 {O : pOut} {d kc ks : Nat} {Q : pRes → Prop} {es : PH} {n : Int} (hs_es : sh es) (hn : 0 ≤ n ∧ n ≤ 9) (hW : wordsOK O) (hT_es : hOK tT es)
    (K1 : ∀ es1 : PH, ∀ v2 : Int, iswP  es es1 v2 → v2 = 0 → Q (.inl (some (.int (zI 0))), es1, kc, ks))
    (K2 : ∀ es1 : PH, ∀ v2 : Int, iswP  es es1 v2 → ¬ (v2 = 0) → ∀ es4 : PH, ∀ v5 : Int, nmP 0 999 es1 es4 v5 → aW O (d + 3) 182 kc ks Q (27, [some (.ref 143), some (.int (zI n)), some (.int (zI (1285 + (4 * n))))], [.int (zI v5), .int (zI (1285 + (4 * n))), .ref 143], es4)) :
    aW O (d + 3) 182 kc ks Q (0, [some (.ref 143), some (.int (zI n)), none], [], es) := by
  refine x0 (r := (3, [some (.ref 143), some (.int (zI n)), none], [.int (zI 1285)], es)) i_182_0 (by rfl) ?_
  refine x0 (r := (4, [some (.ref 143), some (.int (zI n)), none], [.int (zI 4), .int (zI 1285)], es)) i_182_3 (by rfl) ?_
  refine x0 (r := (5, [some (.ref 143), some (.int (zI n)), none], [.int (zI n), .int (zI 4), .int (zI 1285)], es)) i_182_4 rfl ?_
  refine x_imul i_182_5 ?_
  refine x_iadd i_182_6 ?_
  refine x0 (r := (8, [some (.ref 143), some (.int (zI n)), some (.int (zI (1285 + (4 * n))))], [], es)) i_182_7 rfl ?_
  refine x0 (r := (9, [some (.ref 143), some (.int (zI n)), some (.int (zI (1285 + (4 * n))))], [.ref 143], es)) i_182_8 rfl ?_
  refine x1 (r := (11, [some (.ref 143), some (.int (zI n)), some (.int (zI (1285 + (4 * n))))], [.ref 39, .ref 143], es)) i_182_9 rfl (fun _ => rfl) rfl ?_
  refine x_call (vs := [.ref 143, .ref 39]) (rs := []) i_182_11 rfl (fun _ => rfl) rfl rfl rfl rfl rfl (pCall_v (p := 79) hs_es rfl rfl rfl rfl rfl (by decide) rfl rfl rfl rfl rfl) ?_
  show aW _ _ _ _ _ _ (0, [some (.ref 143), some (.ref 39), none, none], [], es)
  refine isw_spec hs_es hT_es hW (by decide) (fun es1 v2 p_es1 => ?_)
  have hs_es1 : sh es1 := p_es1.1
  have hT_es1 : hOK tT es1 := p_es1.2.1
  have r_v2 := p_es1.2.2.1
  show aW _ _ _ _ _ _ (14, [some (.ref 143), some (.int (zI n)), some (.int (zI (1285 + (4 * n))))], [.int (zI v2)], es1)
  by_cases c3 : v2 = 0
  · refine x_ifT i_182_14 (by unfold i32 iLO iHI; omega) rfl (by simp only [zC, cR]; omega) ?_
    refine x0 (r := (34, [some (.ref 143), some (.int (zI n)), some (.int (zI (1285 + (4 * n))))], [.int (zI 0)], es1)) i_182_33 (by rfl) ?_
    refine x_ret (v := some (.int (zI 0))) i_182_34 rfl (fun _ => rfl) rfl rfl (pFin_b (by omega)) ?_
    exact K1 es1 v2 p_es1 c3
  · refine x_ifF i_182_14 (by unfold i32 iLO iHI; omega) rfl (by simp only [zC, cR]; omega) ?_
    refine x0 (r := (18, [some (.ref 143), some (.int (zI n)), some (.int (zI (1285 + (4 * n))))], [.ref 143], es1)) i_182_17 rfl ?_
    refine x0 (r := (19, [some (.ref 143), some (.int (zI n)), some (.int (zI (1285 + (4 * n))))], [.int (zI (1285 + (4 * n))), .ref 143], es1)) i_182_18 rfl ?_
    refine x0 (r := (20, [some (.ref 143), some (.int (zI n)), some (.int (zI (1285 + (4 * n))))], [.ref 143, .int (zI (1285 + (4 * n))), .ref 143], es1)) i_182_19 rfl ?_
    refine x0 (r := (21, [some (.ref 143), some (.int (zI n)), some (.int (zI (1285 + (4 * n))))], [.int (zI 0), .ref 143, .int (zI (1285 + (4 * n))), .ref 143], es1)) i_182_20 (by rfl) ?_
    refine x0 (r := (24, [some (.ref 143), some (.int (zI n)), some (.int (zI (1285 + (4 * n))))], [.int (zI 999), .int (zI 0), .ref 143, .int (zI (1285 + (4 * n))), .ref 143], es1)) i_182_21 (by rfl) ?_
    refine x_call (vs := [.ref 143, .int (zI 0), .int (zI 999)]) (rs := [.int (zI (1285 + (4 * n))), .ref 143]) i_182_24 rfl (fun _ => rfl) rfl rfl rfl rfl rfl (pCall_v (p := 79) hs_es1 rfl rfl rfl rfl rfl (by decide) rfl rfl rfl rfl rfl) ?_
    show aW _ _ _ _ _ _ (0, [some (.ref 143), some (.int (zI 0)), some (.int (zI 999)), none], [], es1)
    refine nm_spec hs_es1 hT_es1 (by omega) (by omega) (fun es4 v5 p_es4 => ?_)
    have hs_es4 : sh es4 := p_es4.1
    have hT_es4 : hOK tT es4 := p_es4.2.1
    have r_v5 := p_es4.2.2.1
    show aW _ _ _ _ _ _ (27, [some (.ref 143), some (.int (zI n)), some (.int (zI (1285 + (4 * n))))], [.int (zI v5), .int (zI (1285 + (4 * n))), .ref 143], es4)
    exact K2 es1 v2 p_es1 c3 es4 v5 p_es4

theorem s_rm30 {O : pOut} {d kc ks : Nat} {Q : pRes → Prop} {es : PH} {n k v : Int} (hs_es : sh es) (hn : 0 ≤ n ∧ n ≤ 9) (hk : 1285 ≤ k ∧ k ≤ 1321) (hv : 0 ≤ v ∧ v ≤ 1) (hT_es : hOK tT es)
    (K1 : v ≠ 0 → aW O d 182 kc ks Q (35, [some (.ref 143), some (.int (zI n)), some (.int (zI k))], [], es))
    (K2 : ¬ (v ≠ 0) → Q (.inl (some (.int (zI 0))), es, kc, ks)) :
    aW O d 182 kc ks Q (30, [some (.ref 143), some (.int (zI n)), some (.int (zI k))], [.int (zI v)], es) := by
  by_cases c1 : v ≠ 0
  · refine x_ifT i_182_30 (by unfold i32 iLO iHI; omega) rfl (by simp only [zC, cR]; omega) ?_
    exact K1 c1
  · refine x_ifF i_182_30 (by unfold i32 iLO iHI; omega) rfl (by simp only [zC, cR]; omega) ?_
    refine x0 (r := (34, [some (.ref 143), some (.int (zI n)), some (.int (zI k))], [.int (zI 0)], es)) i_182_33 (by rfl) ?_
    refine x_ret (v := some (.int (zI 0))) i_182_34 rfl (fun _ => rfl) rfl rfl (pFin_b (by omega)) ?_
    exact K2 c1

theorem s_rm35 {O : pOut} {d kc ks : Nat} {Q : pRes → Prop} {es : PH} {n k : Int} (hs_es : sh es) (hn : 0 ≤ n ∧ n ≤ 9) (hk : 1285 ≤ k ∧ k ≤ 1321) (hT_es : hOK tT es)
    (K1 : ∀ es1 : PH, es1 = sA es 80 (k + 1).toNat (zI (-1)) → aW O d 182 kc ks Q (44, [some (.ref 143), some (.int (zI n)), some (.int (zI k))], [], es1)) :
    aW O d 182 kc ks Q (35, [some (.ref 143), some (.int (zI n)), some (.int (zI k))], [], es) := by
  refine x0 (r := (36, [some (.ref 143), some (.int (zI n)), some (.int (zI k))], [.ref 143], es)) i_182_35 rfl ?_
  refine x_getr (p := 79) (k := 144) i_182_36 hs_es rfl rfl ?_
  show aW _ _ _ _ _ _ (39, [some (.ref 143), some (.int (zI n)), some (.int (zI k))], [.ref 144], es)
  refine x0 (r := (40, [some (.ref 143), some (.int (zI n)), some (.int (zI k))], [.int (zI k), .ref 144], es)) i_182_39 rfl ?_
  refine x0 (r := (41, [some (.ref 143), some (.int (zI n)), some (.int (zI k))], [.int (zI 1), .int (zI k), .ref 144], es)) i_182_40 (by rfl) ?_
  refine x_iadd i_182_41 ?_
  refine x0 (r := (43, [some (.ref 143), some (.int (zI n)), some (.int (zI k))], [.int (zI (-1)), .int (zI (k + 1)), .ref 144], es)) i_182_42 (by rfl) ?_
  refine x_iast (p := 80) i_182_43 hs_es rfl (by unfold i32 iLO iHI; omega) (by omega) (by omega) ?_
  obtain ⟨es1, e_es1⟩ : ∃ z : PH, z = sA es 80 (k + 1).toNat (zI (-1)) := ⟨_, rfl⟩
  have hs_es1 : sh es1 := by rw [e_es1]; exact sh_sA hs_es
  rw [← e_es1]
  exact K1 es1 e_es1

theorem s_rm44 {O : pOut} {d kc ks : Nat} {Q : pRes → Prop} {es : PH} {n k : Int} (hs_es : sh es) (hn : 0 ≤ n ∧ n ≤ 9) (hk : 1285 ≤ k ∧ k ≤ 1321) (hW : wordsOK O) (hT_es : hOK tT es)
    (K1 : ∀ es1 : PH, ∀ v2 : Int, sgP 42 es es1 v2 → v2 = 0 → aW O (d + 4) 182 kc ks Q (73, [some (.ref 143), some (.int (zI n)), some (.int (zI k))], [], es1))
    (K2 : ∀ es1 : PH, ∀ v2 : Int, sgP 42 es es1 v2 → ¬ (v2 = 0) → ∀ es4 : PH, ltP  es1 es4 → ∀ es5 : PH, ∀ v6 : Int, faP  es4 es5 v6 → aW O (d + 4) 182 kc ks Q (65, [some (.ref 143), some (.int (zI n)), some (.int (zI k))], [.int (zI v6), .int (zI (k + 1)), .ref 143], es5)) :
    aW O (d + 4) 182 kc ks Q (44, [some (.ref 143), some (.int (zI n)), some (.int (zI k))], [], es) := by
  refine x0 (r := (45, [some (.ref 143), some (.int (zI n)), some (.int (zI k))], [.ref 143], es)) i_182_44 rfl ?_
  refine x0 (r := (47, [some (.ref 143), some (.int (zI n)), some (.int (zI k))], [.int (zI 42), .ref 143], es)) i_182_45 (by rfl) ?_
  refine x_call (vs := [.ref 143, .int (zI 42)]) (rs := []) i_182_47 rfl (fun _ => rfl) rfl rfl rfl rfl rfl (pCall_v (p := 79) hs_es rfl rfl rfl rfl rfl (by decide) rfl rfl rfl rfl rfl) ?_
  show aW _ _ _ _ _ _ (0, [some (.ref 143), some (.int (zI 42))], [], es)
  refine sg_spec hs_es hT_es (by omega) (fun es1 v2 p_es1 => ?_)
  have hs_es1 : sh es1 := p_es1.1
  have hT_es1 : hOK tT es1 := p_es1.2.1
  have r_v2 := p_es1.2.2.1
  show aW _ _ _ _ _ _ (50, [some (.ref 143), some (.int (zI n)), some (.int (zI k))], [.int (zI v2)], es1)
  by_cases c3 : v2 = 0
  · refine x_ifT i_182_50 (by unfold i32 iLO iHI; omega) rfl (by simp only [zC, cR]; omega) ?_
    exact K1 es1 v2 p_es1 c3
  · refine x_ifF i_182_50 (by unfold i32 iLO iHI; omega) rfl (by simp only [zC, cR]; omega) ?_
    refine x0 (r := (54, [some (.ref 143), some (.int (zI n)), some (.int (zI k))], [.ref 143], es1)) i_182_53 rfl ?_
    refine x_call (vs := [.ref 143]) (rs := []) i_182_54 rfl (fun _ => rfl) rfl rfl rfl rfl rfl (pCall_v (p := 79) hs_es1 rfl rfl rfl rfl rfl (by decide) rfl rfl rfl rfl rfl) ?_
    show aW _ _ _ _ _ _ (0, [some (.ref 143)], [], es1)
    refine lt_spec hs_es1 hT_es1 (fun es4 p_es4 => ?_)
    have hs_es4 : sh es4 := p_es4.1
    have hT_es4 : hOK tT es4 := p_es4.2.1
    show aW _ _ _ _ _ _ (57, [some (.ref 143), some (.int (zI n)), some (.int (zI k))], [], es4)
    refine x0 (r := (58, [some (.ref 143), some (.int (zI n)), some (.int (zI k))], [.ref 143], es4)) i_182_57 rfl ?_
    refine x0 (r := (59, [some (.ref 143), some (.int (zI n)), some (.int (zI k))], [.int (zI k), .ref 143], es4)) i_182_58 rfl ?_
    refine x0 (r := (60, [some (.ref 143), some (.int (zI n)), some (.int (zI k))], [.int (zI 1), .int (zI k), .ref 143], es4)) i_182_59 (by rfl) ?_
    refine x_iadd i_182_60 ?_
    refine x0 (r := (62, [some (.ref 143), some (.int (zI n)), some (.int (zI k))], [.ref 143, .int (zI (k + 1)), .ref 143], es4)) i_182_61 rfl ?_
    refine x_call (vs := [.ref 143]) (rs := [.int (zI (k + 1)), .ref 143]) i_182_62 rfl (fun _ => rfl) rfl rfl rfl rfl rfl (pCall_v (p := 79) hs_es4 rfl rfl rfl rfl rfl (by decide) rfl rfl rfl rfl rfl) ?_
    show aW _ _ _ _ _ _ (0, [some (.ref 143)], [], es4)
    refine fa_spec hs_es4 hT_es4 hW (fun es5 v6 p_es5 => ?_)
    have hs_es5 : sh es5 := p_es5.1
    have hT_es5 : hOK tT es5 := p_es5.2.1
    have r_v6 := p_es5.2.2.1
    show aW _ _ _ _ _ _ (65, [some (.ref 143), some (.int (zI n)), some (.int (zI k))], [.int (zI v6), .int (zI (k + 1)), .ref 143], es5)
    exact K2 es1 v2 p_es1 c3 es4 p_es4 es5 v6 p_es5

theorem s_rm68 {O : pOut} {d kc ks : Nat} {Q : pRes → Prop} {es : PH} {n k v : Int} (hs_es : sh es) (hn : 0 ≤ n ∧ n ≤ 9) (hk : 1285 ≤ k ∧ k ≤ 1321) (hv : 0 ≤ v ∧ v ≤ 1) (hT_es : hOK tT es)
    (K1 : v ≠ 0 → aW O d 182 kc ks Q (73, [some (.ref 143), some (.int (zI n)), some (.int (zI k))], [], es))
    (K2 : ¬ (v ≠ 0) → Q (.inl (some (.int (zI 0))), es, kc, ks)) :
    aW O d 182 kc ks Q (68, [some (.ref 143), some (.int (zI n)), some (.int (zI k))], [.int (zI v)], es) := by
  by_cases c1 : v ≠ 0
  · refine x_ifT i_182_68 (by unfold i32 iLO iHI; omega) rfl (by simp only [zC, cR]; omega) ?_
    exact K1 c1
  · refine x_ifF i_182_68 (by unfold i32 iLO iHI; omega) rfl (by simp only [zC, cR]; omega) ?_
    refine x0 (r := (72, [some (.ref 143), some (.int (zI n)), some (.int (zI k))], [.int (zI 0)], es)) i_182_71 (by rfl) ?_
    refine x_ret (v := some (.int (zI 0))) i_182_72 rfl (fun _ => rfl) rfl rfl (pFin_b (by omega)) ?_
    exact K2 c1

theorem s_rm73 {O : pOut} {d kc ks : Nat} {Q : pRes → Prop} {es : PH} {n k : Int} (hs_es : sh es) (hn : 0 ≤ n ∧ n ≤ 9) (hk : 1285 ≤ k ∧ k ≤ 1321) (hT_es : hOK tT es)
    (K1 : ∀ v1 : Int, v1 = (gI es 79 12).toInt → ∀ es2 : PH, es2 = sA es 80 (k + 2).toNat (zI v1) → aW O d 182 kc ks Q (85, [some (.ref 143), some (.int (zI n)), some (.int (zI k))], [], es2)) :
    aW O d 182 kc ks Q (73, [some (.ref 143), some (.int (zI n)), some (.int (zI k))], [], es) := by
  refine x0 (r := (74, [some (.ref 143), some (.int (zI n)), some (.int (zI k))], [.ref 143], es)) i_182_73 rfl ?_
  refine x_getr (p := 79) (k := 144) i_182_74 hs_es rfl rfl ?_
  show aW _ _ _ _ _ _ (77, [some (.ref 143), some (.int (zI n)), some (.int (zI k))], [.ref 144], es)
  refine x0 (r := (78, [some (.ref 143), some (.int (zI n)), some (.int (zI k))], [.int (zI k), .ref 144], es)) i_182_77 rfl ?_
  refine x0 (r := (79, [some (.ref 143), some (.int (zI n)), some (.int (zI k))], [.int (zI 2), .int (zI k), .ref 144], es)) i_182_78 (by rfl) ?_
  refine x_iadd i_182_79 ?_
  refine x0 (r := (81, [some (.ref 143), some (.int (zI n)), some (.int (zI k))], [.ref 143, .int (zI (k + 2)), .ref 144], es)) i_182_80 rfl ?_
  refine x_geti (p := 79) i_182_81 hs_es rfl rfl ?_
  obtain ⟨v1, e_v1⟩ : ∃ z : Int, z = (gI es 79 12).toInt := ⟨_, rfl⟩
  rw [← e_v1]
  have r_v1 : iLO ≤ v1 ∧ v1 ≤ iHI := by rw [e_v1]; exact i32_rng _
  unfold iLO iHI at r_v1
  have b_v1 : (0 : Int) ≤ v1 ∧ v1 ≤ (400 : Int) := by rw [e_v1]; exact gI_bd hT_es (p := 79) (b := 12) rfl rfl
  refine x_iast (p := 80) i_182_84 hs_es rfl (by unfold i32 iLO iHI; omega) (by omega) (by omega) ?_
  obtain ⟨es2, e_es2⟩ : ∃ z : PH, z = sA es 80 (k + 2).toNat (zI v1) := ⟨_, rfl⟩
  have hs_es2 : sh es2 := by rw [e_es2]; exact sh_sA hs_es
  rw [← e_es2]
  exact K1 v1 e_v1 es2 e_es2

theorem s_rm85 {O : pOut} {d kc ks : Nat} {Q : pRes → Prop} {es : PH} {n k : Int} (hs_es : sh es) (hn : 0 ≤ n ∧ n ≤ 9) (hk : 1285 ≤ k ∧ k ≤ 1321) (hW : wordsOK O) (hT_es : hOK tT es)
    (K1 : ∀ es1 : PH, es1 = sI es 79 9 (.int (zI 0)) → ∀ es2 : PH, ∀ v3 : Int, psP  es1 es2 v3 → v3 = 0 → aW O (d + 4) 182 kc ks Q (108, [some (.ref 143), some (.int (zI n)), some (.int (zI k))], [], es2))
    (K2 : ∀ es1 : PH, es1 = sI es 79 9 (.int (zI 0)) → ∀ es2 : PH, ∀ v3 : Int, psP  es1 es2 v3 → ¬ (v3 = 0) → aW O (d + 4) 182 kc ks Q (100, [some (.ref 143), some (.int (zI n)), some (.int (zI k))], [.ref 143], es2)) :
    aW O (d + 4) 182 kc ks Q (85, [some (.ref 143), some (.int (zI n)), some (.int (zI k))], [], es) := by
  refine x0 (r := (86, [some (.ref 143), some (.int (zI n)), some (.int (zI k))], [.ref 143], es)) i_182_85 rfl ?_
  refine x0 (r := (87, [some (.ref 143), some (.int (zI n)), some (.int (zI k))], [.int (zI 0), .ref 143], es)) i_182_86 (by rfl) ?_
  refine x_puti (p := 79) (ty := .int) i_182_87 hs_es rfl rfl rfl (Or.inl rfl) ?_
  obtain ⟨es1, e_es1⟩ : ∃ z : PH, z = sI es 79 9 (.int (zI 0)) := ⟨_, rfl⟩
  have hs_es1 : sh es1 := by rw [e_es1]; exact sh_sI hs_es (p := 79) (b := 9) rfl rfl
  have hT_es1 : hOK tT es1 := by rw [e_es1]; exact hOK_sI hT_es (p := 79) (b := 9) rfl rfl (by rw [zI_toInt (by unfold i32 iLO iHI; omega)]; exact ⟨by show (0 : Int) ≤ 0; omega, by show 0 ≤ (6 : Int); omega⟩)
  rw [← e_es1]
  refine x0 (r := (91, [some (.ref 143), some (.int (zI n)), some (.int (zI k))], [.ref 143], es1)) i_182_90 rfl ?_
  refine x1 (r := (93, [some (.ref 143), some (.int (zI n)), some (.int (zI k))], [.ref 44, .ref 143], es1)) i_182_91 rfl (fun _ => rfl) rfl ?_
  refine x_call (vs := [.ref 143, .ref 44]) (rs := []) i_182_93 rfl (fun _ => rfl) rfl rfl rfl rfl rfl (pCall_v (p := 79) hs_es1 rfl rfl rfl rfl rfl (by decide) rfl rfl rfl rfl rfl) ?_
  show aW _ _ _ _ _ _ (0, [some (.ref 143), some (.ref 44)], [], es1)
  refine ps_spec hs_es1 hT_es1 hW (by decide) (fun es2 v3 p_es2 => ?_)
  have hs_es2 : sh es2 := p_es2.1
  have hT_es2 : hOK tT es2 := p_es2.2.1
  have r_v3 := p_es2.2.2.1
  show aW _ _ _ _ _ _ (96, [some (.ref 143), some (.int (zI n)), some (.int (zI k))], [.int (zI v3)], es2)
  by_cases c4 : v3 = 0
  · refine x_ifT i_182_96 (by unfold i32 iLO iHI; omega) rfl (by simp only [zC, cR]; omega) ?_
    exact K1 es1 e_es1 es2 v3 p_es2 c4
  · refine x_ifF i_182_96 (by unfold i32 iLO iHI; omega) rfl (by simp only [zC, cR]; omega) ?_
    refine x0 (r := (100, [some (.ref 143), some (.int (zI n)), some (.int (zI k))], [.ref 143], es2)) i_182_99 rfl ?_
    exact K2 es1 e_es1 es2 v3 p_es2 c4

theorem s_rm103 {O : pOut} {d kc ks : Nat} {Q : pRes → Prop} {es : PH} {n k v : Int} (hs_es : sh es) (hn : 0 ≤ n ∧ n ≤ 9) (hk : 1285 ≤ k ∧ k ≤ 1321) (hv : 0 ≤ v ∧ v ≤ 1) (hT_es : hOK tT es)
    (K1 : v ≠ 0 → aW O d 182 kc ks Q (108, [some (.ref 143), some (.int (zI n)), some (.int (zI k))], [], es))
    (K2 : ¬ (v ≠ 0) → Q (.inl (some (.int (zI 0))), es, kc, ks)) :
    aW O d 182 kc ks Q (103, [some (.ref 143), some (.int (zI n)), some (.int (zI k))], [.int (zI v)], es) := by
  by_cases c1 : v ≠ 0
  · refine x_ifT i_182_103 (by unfold i32 iLO iHI; omega) rfl (by simp only [zC, cR]; omega) ?_
    exact K1 c1
  · refine x_ifF i_182_103 (by unfold i32 iLO iHI; omega) rfl (by simp only [zC, cR]; omega) ?_
    refine x0 (r := (107, [some (.ref 143), some (.int (zI n)), some (.int (zI k))], [.int (zI 0)], es)) i_182_106 (by rfl) ?_
    refine x_ret (v := some (.int (zI 0))) i_182_107 rfl (fun _ => rfl) rfl rfl (pFin_b (by omega)) ?_
    exact K2 c1

theorem s_rm108 {O : pOut} {d kc ks : Nat} {Q : pRes → Prop} {es : PH} {n k : Int} (hs_es : sh es) (hn : 0 ≤ n ∧ n ≤ 9) (hk : 1285 ≤ k ∧ k ≤ 1321) (hT_es : hOK tT es)
    (K1 : ∀ v1 : Int, v1 = (gI es 79 12).toInt → ∀ es2 : PH, es2 = sA es 80 (k + 3).toNat (zI v1) → Q (.inl (some (.int (zI 1))), es2, kc, ks)) :
    aW O d 182 kc ks Q (108, [some (.ref 143), some (.int (zI n)), some (.int (zI k))], [], es) := by
  refine x0 (r := (109, [some (.ref 143), some (.int (zI n)), some (.int (zI k))], [.ref 143], es)) i_182_108 rfl ?_
  refine x_getr (p := 79) (k := 144) i_182_109 hs_es rfl rfl ?_
  show aW _ _ _ _ _ _ (112, [some (.ref 143), some (.int (zI n)), some (.int (zI k))], [.ref 144], es)
  refine x0 (r := (113, [some (.ref 143), some (.int (zI n)), some (.int (zI k))], [.int (zI k), .ref 144], es)) i_182_112 rfl ?_
  refine x0 (r := (114, [some (.ref 143), some (.int (zI n)), some (.int (zI k))], [.int (zI 3), .int (zI k), .ref 144], es)) i_182_113 (by rfl) ?_
  refine x_iadd i_182_114 ?_
  refine x0 (r := (116, [some (.ref 143), some (.int (zI n)), some (.int (zI k))], [.ref 143, .int (zI (k + 3)), .ref 144], es)) i_182_115 rfl ?_
  refine x_geti (p := 79) i_182_116 hs_es rfl rfl ?_
  obtain ⟨v1, e_v1⟩ : ∃ z : Int, z = (gI es 79 12).toInt := ⟨_, rfl⟩
  rw [← e_v1]
  have r_v1 : iLO ≤ v1 ∧ v1 ≤ iHI := by rw [e_v1]; exact i32_rng _
  unfold iLO iHI at r_v1
  have b_v1 : (0 : Int) ≤ v1 ∧ v1 ≤ (400 : Int) := by rw [e_v1]; exact gI_bd hT_es (p := 79) (b := 12) rfl rfl
  refine x_iast (p := 80) i_182_119 hs_es rfl (by unfold i32 iLO iHI; omega) (by omega) (by omega) ?_
  obtain ⟨es2, e_es2⟩ : ∃ z : PH, z = sA es 80 (k + 3).toNat (zI v1) := ⟨_, rfl⟩
  have hs_es2 : sh es2 := by rw [e_es2]; exact sh_sA hs_es
  rw [← e_es2]
  refine x0 (r := (121, [some (.ref 143), some (.int (zI n)), some (.int (zI k))], [.int (zI 1)], es2)) i_182_120 (by rfl) ?_
  refine x_ret (v := some (.int (zI 1))) i_182_121 rfl (fun _ => rfl) rfl rfl (pFin_b (by omega)) ?_
  exact K1 v1 e_v1 es2 e_es2

theorem s_ral0 {O : pOut} {d kc ks : Nat} {Q : pRes → Prop} {es : PH} (hs_es : sh es) (hT_es : hOK tT es)
    (K1 : ∀ v1 : Int, v1 = (gI es 79 5).toInt → ∀ es2 : PH, es2 = sI es 79 7 (.int (zI v1)) → ∀ es3 : PH, es3 = sI es2 79 5 (.int (zI 0)) → ∀ es4 : PH, es4 = sI es3 79 6 (.int (zI 0)) → ∀ es5 : PH, es5 = sI es4 79 12 (.int (zI 0)) → ∀ es6 : PH, blP  es5 es6 → ∀ v7 : Int, v7 = (gI es6 79 6).toInt → ∀ v8 : Int, v8 = (gI es6 79 7).toInt → v7 ≠ v8 → aW O (d + 2) 175 kc ks Q (42, [some (.ref 143), some (.int (zI 0)), some (.int (zI 0))], [], es6))
    (K2 : ∀ v1 : Int, v1 = (gI es 79 5).toInt → ∀ es2 : PH, es2 = sI es 79 7 (.int (zI v1)) → ∀ es3 : PH, es3 = sI es2 79 5 (.int (zI 0)) → ∀ es4 : PH, es4 = sI es3 79 6 (.int (zI 0)) → ∀ es5 : PH, es5 = sI es4 79 12 (.int (zI 0)) → ∀ es6 : PH, blP  es5 es6 → ∀ v7 : Int, v7 = (gI es6 79 6).toInt → ∀ v8 : Int, v8 = (gI es6 79 7).toInt → ¬ (v7 ≠ v8) → Q (.inl (some (.int (zI 0))), es6, kc, ks)) :
    aW O (d + 2) 175 kc ks Q (0, [some (.ref 143), some (.int (zI 0)), none], [], es) := by
  refine x0 (r := (1, [some (.ref 143), some (.int (zI 0)), none], [.ref 143], es)) i_175_0 rfl ?_
  refine x0 (r := (2, [some (.ref 143), some (.int (zI 0)), none], [.ref 143, .ref 143], es)) i_175_1 rfl ?_
  refine x_geti (p := 79) i_175_2 hs_es rfl rfl ?_
  obtain ⟨v1, e_v1⟩ : ∃ z : Int, z = (gI es 79 5).toInt := ⟨_, rfl⟩
  rw [← e_v1]
  have r_v1 : iLO ≤ v1 ∧ v1 ≤ iHI := by rw [e_v1]; exact i32_rng _
  unfold iLO iHI at r_v1
  have b_v1 : (0 : Int) ≤ v1 ∧ v1 ≤ (400 : Int) := by rw [e_v1]; exact gI_bd hT_es (p := 79) (b := 5) rfl rfl
  refine x_puti (p := 79) (ty := .int) i_175_5 hs_es rfl rfl rfl (Or.inl rfl) ?_
  obtain ⟨es2, e_es2⟩ : ∃ z : PH, z = sI es 79 7 (.int (zI v1)) := ⟨_, rfl⟩
  have hs_es2 : sh es2 := by rw [e_es2]; exact sh_sI hs_es (p := 79) (b := 7) rfl rfl
  have hT_es2 : hOK tT es2 := by rw [e_es2]; exact hOK_sI hT_es (p := 79) (b := 7) rfl rfl (by rw [zI_toInt (by unfold i32 iLO iHI; omega)]; exact ⟨by show (0 : Int) ≤ v1; omega, by show v1 ≤ (400 : Int); omega⟩)
  rw [← e_es2]
  refine x0 (r := (9, [some (.ref 143), some (.int (zI 0)), none], [.ref 143], es2)) i_175_8 rfl ?_
  refine x0 (r := (10, [some (.ref 143), some (.int (zI 0)), none], [.int (zI 0), .ref 143], es2)) i_175_9 (by rfl) ?_
  refine x_puti (p := 79) (ty := .int) i_175_10 hs_es2 rfl rfl rfl (Or.inl rfl) ?_
  obtain ⟨es3, e_es3⟩ : ∃ z : PH, z = sI es2 79 5 (.int (zI 0)) := ⟨_, rfl⟩
  have hs_es3 : sh es3 := by rw [e_es3]; exact sh_sI hs_es2 (p := 79) (b := 5) rfl rfl
  have hT_es3 : hOK tT es3 := by rw [e_es3]; exact hOK_sI hT_es2 (p := 79) (b := 5) rfl rfl (by rw [zI_toInt (by unfold i32 iLO iHI; omega)]; exact ⟨by show (0 : Int) ≤ 0; omega, by show 0 ≤ (400 : Int); omega⟩)
  rw [← e_es3]
  refine x0 (r := (14, [some (.ref 143), some (.int (zI 0)), none], [.ref 143], es3)) i_175_13 rfl ?_
  refine x0 (r := (15, [some (.ref 143), some (.int (zI 0)), none], [.int (zI 0), .ref 143], es3)) i_175_14 (by rfl) ?_
  refine x_puti (p := 79) (ty := .int) i_175_15 hs_es3 rfl rfl rfl (Or.inl rfl) ?_
  obtain ⟨es4, e_es4⟩ : ∃ z : PH, z = sI es3 79 6 (.int (zI 0)) := ⟨_, rfl⟩
  have hs_es4 : sh es4 := by rw [e_es4]; exact sh_sI hs_es3 (p := 79) (b := 6) rfl rfl
  have hT_es4 : hOK tT es4 := by rw [e_es4]; exact hOK_sI hT_es3 (p := 79) (b := 6) rfl rfl (by rw [zI_toInt (by unfold i32 iLO iHI; omega)]; exact ⟨by show (0 : Int) ≤ 0; omega, by show 0 ≤ (400 : Int); omega⟩)
  rw [← e_es4]
  refine x0 (r := (19, [some (.ref 143), some (.int (zI 0)), none], [.ref 143], es4)) i_175_18 rfl ?_
  refine x0 (r := (20, [some (.ref 143), some (.int (zI 0)), none], [.int (zI 0), .ref 143], es4)) i_175_19 (by rfl) ?_
  refine x_puti (p := 79) (ty := .int) i_175_20 hs_es4 rfl rfl rfl (Or.inl rfl) ?_
  obtain ⟨es5, e_es5⟩ : ∃ z : PH, z = sI es4 79 12 (.int (zI 0)) := ⟨_, rfl⟩
  have hs_es5 : sh es5 := by rw [e_es5]; exact sh_sI hs_es4 (p := 79) (b := 12) rfl rfl
  have hT_es5 : hOK tT es5 := by rw [e_es5]; exact hOK_sI hT_es4 (p := 79) (b := 12) rfl rfl (by rw [zI_toInt (by unfold i32 iLO iHI; omega)]; exact ⟨by show (0 : Int) ≤ 0; omega, by show 0 ≤ (400 : Int); omega⟩)
  rw [← e_es5]
  refine x0 (r := (24, [some (.ref 143), some (.int (zI 0)), none], [.ref 143], es5)) i_175_23 rfl ?_
  refine x_call (vs := [.ref 143]) (rs := []) i_175_24 rfl (fun _ => rfl) rfl rfl rfl rfl rfl (pCall_v (p := 79) hs_es5 rfl rfl rfl rfl rfl (by decide) rfl rfl rfl rfl rfl) ?_
  show aW _ _ _ _ _ _ (0, [some (.ref 143)], [], es5)
  refine bl_spec hs_es5 hT_es5 (fun es6 p_es6 => ?_)
  have hs_es6 : sh es6 := p_es6.1
  have hT_es6 : hOK tT es6 := p_es6.2.1
  show aW _ _ _ _ _ _ (27, [some (.ref 143), some (.int (zI 0)), none], [], es6)
  refine x0 (r := (28, [some (.ref 143), some (.int (zI 0)), none], [.ref 143], es6)) i_175_27 rfl ?_
  refine x_geti (p := 79) i_175_28 hs_es6 rfl rfl ?_
  obtain ⟨v7, e_v7⟩ : ∃ z : Int, z = (gI es6 79 6).toInt := ⟨_, rfl⟩
  rw [← e_v7]
  have r_v7 : iLO ≤ v7 ∧ v7 ≤ iHI := by rw [e_v7]; exact i32_rng _
  unfold iLO iHI at r_v7
  have b_v7 : (0 : Int) ≤ v7 ∧ v7 ≤ (400 : Int) := by rw [e_v7]; exact gI_bd hT_es6 (p := 79) (b := 6) rfl rfl
  refine x0 (r := (32, [some (.ref 143), some (.int (zI 0)), none], [.ref 143, .int (zI v7)], es6)) i_175_31 rfl ?_
  refine x_geti (p := 79) i_175_32 hs_es6 rfl rfl ?_
  obtain ⟨v8, e_v8⟩ : ∃ z : Int, z = (gI es6 79 7).toInt := ⟨_, rfl⟩
  rw [← e_v8]
  have r_v8 : iLO ≤ v8 ∧ v8 ≤ iHI := by rw [e_v8]; exact i32_rng _
  unfold iLO iHI at r_v8
  have b_v8 : (0 : Int) ≤ v8 ∧ v8 ≤ (400 : Int) := by rw [e_v8]; exact gI_bd hT_es6 (p := 79) (b := 7) rfl rfl
  by_cases c9 : v7 ≠ v8
  · refine x_cmpT i_175_35 (by unfold i32 iLO iHI; omega) (by unfold i32 iLO iHI; omega) rfl (by simp only [zC, cR]; omega) ?_
    refine x0 (r := (41, [some (.ref 143), some (.int (zI 0)), none], [.int (zI 0)], es6)) i_175_40 (by rfl) ?_
    refine x0 (r := (42, [some (.ref 143), some (.int (zI 0)), some (.int (zI 0))], [], es6)) i_175_41 rfl ?_
    exact K1 v1 e_v1 es2 e_es2 es3 e_es3 es4 e_es4 es5 e_es5 es6 p_es6 v7 e_v7 v8 e_v8 c9
  · refine x_cmpF i_175_35 (by unfold i32 iLO iHI; omega) (by unfold i32 iLO iHI; omega) rfl (by simp only [zC, cR]; omega) ?_
    refine x0 (r := (39, [some (.ref 143), some (.int (zI 0)), none], [.int (zI 0)], es6)) i_175_38 (by rfl) ?_
    refine x_ret (v := some (.int (zI 0))) i_175_39 rfl (fun _ => rfl) rfl rfl rfl ?_
    exact K2 v1 e_v1 es2 e_es2 es3 e_es3 es4 e_es4 es5 e_es5 es6 p_es6 v7 e_v7 v8 e_v8 c9

theorem s_ral42 {O : pOut} {d kc ks : Nat} {Q : pRes → Prop} {es : PH} {n : Int} (hs_es : sh es) (hn : 0 ≤ n ∧ n ≤ 10) (hT_es : hOK tT es)
    (K1 : ∀ es1 : PH, ltP  es es1 → n ≠ 10 → aW O (d + 3) 175 kc ks Q (80, [some (.ref 143), some (.int (zI 0)), some (.int (zI n))], [.int (zI n), .ref 143], es1))
    (K2 : ∀ es1 : PH, ltP  es es1 → ¬ (n ≠ 10) → Q (.inl (some (.int (zI (-1)))), es1, kc, ks)) :
    aW O (d + 3) 175 kc ks Q (42, [some (.ref 143), some (.int (zI 0)), some (.int (zI n))], [], es) := by
  refine x0 (r := (43, [some (.ref 143), some (.int (zI 0)), some (.int (zI n))], [.ref 143], es)) i_175_42 rfl ?_
  refine x_call (vs := [.ref 143]) (rs := []) i_175_43 rfl (fun _ => rfl) rfl rfl rfl rfl rfl (pCall_v (p := 79) hs_es rfl rfl rfl rfl rfl (by decide) rfl rfl rfl rfl rfl) ?_
  show aW _ _ _ _ _ _ (0, [some (.ref 143)], [], es)
  refine lt_spec hs_es hT_es (fun es1 p_es1 => ?_)
  have hs_es1 : sh es1 := p_es1.1
  have hT_es1 : hOK tT es1 := p_es1.2.1
  show aW _ _ _ _ _ _ (46, [some (.ref 143), some (.int (zI 0)), some (.int (zI n))], [], es1)
  refine x0 (r := (47, [some (.ref 143), some (.int (zI 0)), some (.int (zI n))], [.int (zI n)], es1)) i_175_46 rfl ?_
  refine x0 (r := (48, [some (.ref 143), some (.int (zI 0)), some (.int (zI n))], [.int (zI 0), .int (zI n)], es1)) i_175_47 rfl ?_
  refine x_ifT i_175_48 (by unfold i32 iLO iHI; omega) rfl (by simp only [zC, cR]; omega) ?_
  refine x0 (r := (58, [some (.ref 143), some (.int (zI 0)), some (.int (zI n))], [.int (zI 10), .int (zI n)], es1)) i_175_56 (by rfl) ?_
  by_cases c2 : n ≠ 10
  · refine x_cmpT i_175_58 (by unfold i32 iLO iHI; omega) (by unfold i32 iLO iHI; omega) rfl (by simp only [zC, cR]; omega) ?_
    refine x0 (r := (64, [some (.ref 143), some (.int (zI 0)), some (.int (zI n))], [.int (zI 0)], es1)) i_175_63 rfl ?_
    refine x_ifT i_175_64 (by unfold i32 iLO iHI; omega) rfl (by simp only [zC, cR]; omega) ?_
    refine x0 (r := (79, [some (.ref 143), some (.int (zI 0)), some (.int (zI n))], [.ref 143], es1)) i_175_78 rfl ?_
    refine x0 (r := (80, [some (.ref 143), some (.int (zI 0)), some (.int (zI n))], [.int (zI n), .ref 143], es1)) i_175_79 rfl ?_
    exact K1 es1 p_es1 c2
  · refine x_cmpF i_175_58 (by unfold i32 iLO iHI; omega) (by unfold i32 iLO iHI; omega) rfl (by simp only [zC, cR]; omega) ?_
    refine x0 (r := (62, [some (.ref 143), some (.int (zI 0)), some (.int (zI n))], [.int (zI (-1))], es1)) i_175_61 (by rfl) ?_
    refine x_ret (v := some (.int (zI (-1)))) i_175_62 rfl (fun _ => rfl) rfl rfl rfl ?_
    exact K2 es1 p_es1 c2

theorem s_ral83 {O : pOut} {d kc ks : Nat} {Q : pRes → Prop} {es : PH} {n v : Int} (hs_es : sh es) (hn : 0 ≤ n ∧ n ≤ 9) (hv : 0 ≤ v ∧ v ≤ 1) (hT_es : hOK tT es)
    (K1 : v ≠ 0 → ∀ es2 : PH, blP  es es2 → ∀ v3 : Int, v3 = (gI es2 79 6).toInt → ∀ v4 : Int, v4 = (gI es2 79 7).toInt → v3 ≠ v4 → ∀ v6 : Int, v6 = (gI es2 79 6).toInt → ∀ v7 : Int, v7 = (gI es2 79 7).toInt → v7 ≤ v6 → Q (.inl (some (.int (zI (-1)))), es2, kc, ks))
    (K2 : v ≠ 0 → ∀ es2 : PH, blP  es es2 → ∀ v3 : Int, v3 = (gI es2 79 6).toInt → ∀ v4 : Int, v4 = (gI es2 79 7).toInt → v3 ≠ v4 → ∀ v6 : Int, v6 = (gI es2 79 6).toInt → ∀ v7 : Int, v7 = (gI es2 79 7).toInt → ¬ (v7 ≤ v6) → ∀ v9 : Int, v9 = (gI es2 79 6).toInt → ∀ v10 : Int, v10 = (gA es2 82 v9.toNat).toInt → v10 < 59 → Q (.inl (some (.int (zI (-1)))), es2, kc, ks))
    (K3 : v ≠ 0 → ∀ es2 : PH, blP  es es2 → ∀ v3 : Int, v3 = (gI es2 79 6).toInt → ∀ v4 : Int, v4 = (gI es2 79 7).toInt → v3 ≠ v4 → ∀ v6 : Int, v6 = (gI es2 79 6).toInt → ∀ v7 : Int, v7 = (gI es2 79 7).toInt → ¬ (v7 ≤ v6) → ∀ v9 : Int, v9 = (gI es2 79 6).toInt → ∀ v10 : Int, v10 = (gA es2 82 v9.toNat).toInt → ¬ (v10 < 59) → ∀ v12 : Int, v12 = (gI es2 79 6).toInt → ∀ v13 : Int, v13 = (gA es2 82 v12.toNat).toInt → 59 < v13 → Q (.inl (some (.int (zI (-1)))), es2, kc, ks))
    (K4 : v ≠ 0 → ∀ es2 : PH, blP  es es2 → ∀ v3 : Int, v3 = (gI es2 79 6).toInt → ∀ v4 : Int, v4 = (gI es2 79 7).toInt → v3 ≠ v4 → ∀ v6 : Int, v6 = (gI es2 79 6).toInt → ∀ v7 : Int, v7 = (gI es2 79 7).toInt → ¬ (v7 ≤ v6) → ∀ v9 : Int, v9 = (gI es2 79 6).toInt → ∀ v10 : Int, v10 = (gA es2 82 v9.toNat).toInt → ¬ (v10 < 59) → ∀ v12 : Int, v12 = (gI es2 79 6).toInt → ∀ v13 : Int, v13 = (gA es2 82 v12.toNat).toInt → ¬ (59 < v13) → ∀ v15 : Int, v15 = (gI es2 79 6).toInt → ∀ es16 : PH, es16 = sI es2 79 6 (.int (zI (v15 + 1))) → aW O (d + 2) 175 kc ks Q (42, [some (.ref 143), some (.int (zI 0)), some (.int (zI (n + 1)))], [], es16))
    (K5 : v ≠ 0 → ∀ es2 : PH, blP  es es2 → ∀ v3 : Int, v3 = (gI es2 79 6).toInt → ∀ v4 : Int, v4 = (gI es2 79 7).toInt → ¬ (v3 ≠ v4) → Q (.inl (some (.int (zI (n + 1)))), es2, kc, ks))
    (K6 : ¬ (v ≠ 0) → Q (.inl (some (.int (zI (-1)))), es, kc, ks)) :
    aW O (d + 2) 175 kc ks Q (83, [some (.ref 143), some (.int (zI 0)), some (.int (zI n))], [.int (zI v)], es) := by
  by_cases c1 : v ≠ 0
  · refine x_ifT i_175_83 (by unfold i32 iLO iHI; omega) rfl (by simp only [zC, cR]; omega) ?_
    refine x0 (r := (89, [some (.ref 143), some (.int (zI 0)), some (.int (zI n))], [.ref 143], es)) i_175_88 rfl ?_
    refine x_call (vs := [.ref 143]) (rs := []) i_175_89 rfl (fun _ => rfl) rfl rfl rfl rfl rfl (pCall_v (p := 79) hs_es rfl rfl rfl rfl rfl (by decide) rfl rfl rfl rfl rfl) ?_
    show aW _ _ _ _ _ _ (0, [some (.ref 143)], [], es)
    refine bl_spec hs_es hT_es (fun es2 p_es2 => ?_)
    have hs_es2 : sh es2 := p_es2.1
    have hT_es2 : hOK tT es2 := p_es2.2.1
    show aW _ _ _ _ _ _ (92, [some (.ref 143), some (.int (zI 0)), some (.int (zI n))], [], es2)
    refine x0 (r := (93, [some (.ref 143), some (.int (zI 0)), some (.int (zI n))], [.ref 143], es2)) i_175_92 rfl ?_
    refine x_geti (p := 79) i_175_93 hs_es2 rfl rfl ?_
    obtain ⟨v3, e_v3⟩ : ∃ z : Int, z = (gI es2 79 6).toInt := ⟨_, rfl⟩
    rw [← e_v3]
    have r_v3 : iLO ≤ v3 ∧ v3 ≤ iHI := by rw [e_v3]; exact i32_rng _
    unfold iLO iHI at r_v3
    have b_v3 : (0 : Int) ≤ v3 ∧ v3 ≤ (400 : Int) := by rw [e_v3]; exact gI_bd hT_es2 (p := 79) (b := 6) rfl rfl
    refine x0 (r := (97, [some (.ref 143), some (.int (zI 0)), some (.int (zI n))], [.ref 143, .int (zI v3)], es2)) i_175_96 rfl ?_
    refine x_geti (p := 79) i_175_97 hs_es2 rfl rfl ?_
    obtain ⟨v4, e_v4⟩ : ∃ z : Int, z = (gI es2 79 7).toInt := ⟨_, rfl⟩
    rw [← e_v4]
    have r_v4 : iLO ≤ v4 ∧ v4 ≤ iHI := by rw [e_v4]; exact i32_rng _
    unfold iLO iHI at r_v4
    have b_v4 : (0 : Int) ≤ v4 ∧ v4 ≤ (400 : Int) := by rw [e_v4]; exact gI_bd hT_es2 (p := 79) (b := 7) rfl rfl
    by_cases c5 : v3 ≠ v4
    · refine x_cmpT i_175_100 (by unfold i32 iLO iHI; omega) (by unfold i32 iLO iHI; omega) rfl (by simp only [zC, cR]; omega) ?_
      refine x0 (r := (108, [some (.ref 143), some (.int (zI 0)), some (.int (zI n))], [.ref 143], es2)) i_175_107 rfl ?_
      refine x0 (r := (110, [some (.ref 143), some (.int (zI 0)), some (.int (zI n))], [.int (zI 59), .ref 143], es2)) i_175_108 (by rfl) ?_
      refine x0 (r := (112, [some (.ref 143), some (.int (zI 0)), some (.int (zI n))], [.int (zI 59), .int (zI 59), .ref 143], es2)) i_175_110 (by rfl) ?_
      refine x_call (vs := [.ref 143, .int (zI 59), .int (zI 59)]) (rs := []) i_175_112 rfl (fun _ => rfl) rfl rfl rfl rfl rfl (pCall_v (p := 79) hs_es2 rfl rfl rfl rfl rfl (by decide) rfl rfl rfl rfl rfl) ?_
      show aW _ _ _ _ _ _ (0, [some (.ref 143), some (.int (zI 59)), some (.int (zI 59))], [], es2)
      refine x0 (r := (1, [some (.ref 143), some (.int (zI 59)), some (.int (zI 59))], [.ref 143], es2)) i_177_0 rfl ?_
      refine x_geti (p := 79) i_177_1 hs_es2 rfl rfl ?_
      obtain ⟨v6, e_v6⟩ : ∃ z : Int, z = (gI es2 79 6).toInt := ⟨_, rfl⟩
      rw [← e_v6]
      have r_v6 : iLO ≤ v6 ∧ v6 ≤ iHI := by rw [e_v6]; exact i32_rng _
      unfold iLO iHI at r_v6
      have b_v6 : (0 : Int) ≤ v6 ∧ v6 ≤ (400 : Int) := by rw [e_v6]; exact gI_bd hT_es2 (p := 79) (b := 6) rfl rfl
      refine x0 (r := (5, [some (.ref 143), some (.int (zI 59)), some (.int (zI 59))], [.ref 143, .int (zI v6)], es2)) i_177_4 rfl ?_
      refine x_geti (p := 79) i_177_5 hs_es2 rfl rfl ?_
      obtain ⟨v7, e_v7⟩ : ∃ z : Int, z = (gI es2 79 7).toInt := ⟨_, rfl⟩
      rw [← e_v7]
      have r_v7 : iLO ≤ v7 ∧ v7 ≤ iHI := by rw [e_v7]; exact i32_rng _
      unfold iLO iHI at r_v7
      have b_v7 : (0 : Int) ≤ v7 ∧ v7 ≤ (400 : Int) := by rw [e_v7]; exact gI_bd hT_es2 (p := 79) (b := 7) rfl rfl
      by_cases c8 : v7 ≤ v6
      · refine x_cmpT i_177_8 (by unfold i32 iLO iHI; omega) (by unfold i32 iLO iHI; omega) rfl (by simp only [zC, cR]; omega) ?_
        refine x0 (r := (42, [some (.ref 143), some (.int (zI 59)), some (.int (zI 59))], [.int (zI 0)], es2)) i_177_41 (by rfl) ?_
        refine x_ret (v := some (.int (zI 0))) i_177_42 rfl (fun _ => rfl) rfl rfl (pFin_b (by omega)) ?_
        show aW _ _ _ _ _ _ (115, [some (.ref 143), some (.int (zI 0)), some (.int (zI n))], [.int (zI 0)], es2)
        refine x_ifF i_175_115 (by unfold i32 iLO iHI; omega) rfl (by simp only [zC, cR]; omega) ?_
        refine x0 (r := (119, [some (.ref 143), some (.int (zI 0)), some (.int (zI n))], [.int (zI (-1))], es2)) i_175_118 (by rfl) ?_
        refine x_ret (v := some (.int (zI (-1)))) i_175_119 rfl (fun _ => rfl) rfl rfl rfl ?_
        exact K1 c1 es2 p_es2 v3 e_v3 v4 e_v4 c5 v6 e_v6 v7 e_v7 c8
      · refine x_cmpF i_177_8 (by unfold i32 iLO iHI; omega) (by unfold i32 iLO iHI; omega) rfl (by simp only [zC, cR]; omega) ?_
        refine x0 (r := (12, [some (.ref 143), some (.int (zI 59)), some (.int (zI 59))], [.ref 143], es2)) i_177_11 rfl ?_
        refine x_getr (p := 79) (k := 146) i_177_12 hs_es2 rfl rfl ?_
        show aW _ _ _ _ _ _ (15, [some (.ref 143), some (.int (zI 59)), some (.int (zI 59))], [.ref 146], es2)
        refine x0 (r := (16, [some (.ref 143), some (.int (zI 59)), some (.int (zI 59))], [.ref 143, .ref 146], es2)) i_177_15 rfl ?_
        refine x_geti (p := 79) i_177_16 hs_es2 rfl rfl ?_
        obtain ⟨v9, e_v9⟩ : ∃ z : Int, z = (gI es2 79 6).toInt := ⟨_, rfl⟩
        rw [← e_v9]
        have r_v9 : iLO ≤ v9 ∧ v9 ≤ iHI := by rw [e_v9]; exact i32_rng _
        unfold iLO iHI at r_v9
        have b_v9 : (0 : Int) ≤ v9 ∧ v9 ≤ (400 : Int) := by rw [e_v9]; exact gI_bd hT_es2 (p := 79) (b := 6) rfl rfl
        refine x_bald (p := 82) i_177_19 hs_es2 rfl (by decide) (by unfold i32 iLO iHI; omega) (by omega) (by omega) ?_
        obtain ⟨v10, e_v10⟩ : ∃ z : Int, z = (gA es2 82 v9.toNat).toInt := ⟨_, rfl⟩
        rw [← e_v10]
        have r_v10 : iLO ≤ v10 ∧ v10 ≤ iHI := by rw [e_v10]; exact i32_rng _
        unfold iLO iHI at r_v10
        have b_v10 : (-128 : Int) ≤ v10 ∧ v10 ≤ (127 : Int) := by rw [e_v10]; exact gA_bd hT_es2 (p := 82) (k := v9.toNat) rfl (by omega) (by decide)
        refine x0 (r := (21, [some (.ref 143), some (.int (zI 59)), some (.int (zI 59))], [.int (zI 59), .int (zI v10)], es2)) i_177_20 rfl ?_
        by_cases c11 : v10 < 59
        · refine x_cmpT i_177_21 (by unfold i32 iLO iHI; omega) (by unfold i32 iLO iHI; omega) rfl (by simp only [zC, cR]; omega) ?_
          refine x0 (r := (42, [some (.ref 143), some (.int (zI 59)), some (.int (zI 59))], [.int (zI 0)], es2)) i_177_41 (by rfl) ?_
          refine x_ret (v := some (.int (zI 0))) i_177_42 rfl (fun _ => rfl) rfl rfl (pFin_b (by omega)) ?_
          show aW _ _ _ _ _ _ (115, [some (.ref 143), some (.int (zI 0)), some (.int (zI n))], [.int (zI 0)], es2)
          refine x_ifF i_175_115 (by unfold i32 iLO iHI; omega) rfl (by simp only [zC, cR]; omega) ?_
          refine x0 (r := (119, [some (.ref 143), some (.int (zI 0)), some (.int (zI n))], [.int (zI (-1))], es2)) i_175_118 (by rfl) ?_
          refine x_ret (v := some (.int (zI (-1)))) i_175_119 rfl (fun _ => rfl) rfl rfl rfl ?_
          exact K2 c1 es2 p_es2 v3 e_v3 v4 e_v4 c5 v6 e_v6 v7 e_v7 c8 v9 e_v9 v10 e_v10 c11
        · refine x_cmpF i_177_21 (by unfold i32 iLO iHI; omega) (by unfold i32 iLO iHI; omega) rfl (by simp only [zC, cR]; omega) ?_
          refine x0 (r := (25, [some (.ref 143), some (.int (zI 59)), some (.int (zI 59))], [.ref 143], es2)) i_177_24 rfl ?_
          refine x_getr (p := 79) (k := 146) i_177_25 hs_es2 rfl rfl ?_
          show aW _ _ _ _ _ _ (28, [some (.ref 143), some (.int (zI 59)), some (.int (zI 59))], [.ref 146], es2)
          refine x0 (r := (29, [some (.ref 143), some (.int (zI 59)), some (.int (zI 59))], [.ref 143, .ref 146], es2)) i_177_28 rfl ?_
          refine x_geti (p := 79) i_177_29 hs_es2 rfl rfl ?_
          obtain ⟨v12, e_v12⟩ : ∃ z : Int, z = (gI es2 79 6).toInt := ⟨_, rfl⟩
          rw [← e_v12]
          have r_v12 : iLO ≤ v12 ∧ v12 ≤ iHI := by rw [e_v12]; exact i32_rng _
          unfold iLO iHI at r_v12
          have b_v12 : (0 : Int) ≤ v12 ∧ v12 ≤ (400 : Int) := by rw [e_v12]; exact gI_bd hT_es2 (p := 79) (b := 6) rfl rfl
          refine x_bald (p := 82) i_177_32 hs_es2 rfl (by decide) (by unfold i32 iLO iHI; omega) (by omega) (by omega) ?_
          obtain ⟨v13, e_v13⟩ : ∃ z : Int, z = (gA es2 82 v12.toNat).toInt := ⟨_, rfl⟩
          rw [← e_v13]
          have r_v13 : iLO ≤ v13 ∧ v13 ≤ iHI := by rw [e_v13]; exact i32_rng _
          unfold iLO iHI at r_v13
          have b_v13 : (-128 : Int) ≤ v13 ∧ v13 ≤ (127 : Int) := by rw [e_v13]; exact gA_bd hT_es2 (p := 82) (k := v12.toNat) rfl (by omega) (by decide)
          refine x0 (r := (34, [some (.ref 143), some (.int (zI 59)), some (.int (zI 59))], [.int (zI 59), .int (zI v13)], es2)) i_177_33 rfl ?_
          by_cases c14 : 59 < v13
          · refine x_cmpT i_177_34 (by unfold i32 iLO iHI; omega) (by unfold i32 iLO iHI; omega) rfl (by simp only [zC, cR]; omega) ?_
            refine x0 (r := (42, [some (.ref 143), some (.int (zI 59)), some (.int (zI 59))], [.int (zI 0)], es2)) i_177_41 (by rfl) ?_
            refine x_ret (v := some (.int (zI 0))) i_177_42 rfl (fun _ => rfl) rfl rfl (pFin_b (by omega)) ?_
            show aW _ _ _ _ _ _ (115, [some (.ref 143), some (.int (zI 0)), some (.int (zI n))], [.int (zI 0)], es2)
            refine x_ifF i_175_115 (by unfold i32 iLO iHI; omega) rfl (by simp only [zC, cR]; omega) ?_
            refine x0 (r := (119, [some (.ref 143), some (.int (zI 0)), some (.int (zI n))], [.int (zI (-1))], es2)) i_175_118 (by rfl) ?_
            refine x_ret (v := some (.int (zI (-1)))) i_175_119 rfl (fun _ => rfl) rfl rfl rfl ?_
            exact K3 c1 es2 p_es2 v3 e_v3 v4 e_v4 c5 v6 e_v6 v7 e_v7 c8 v9 e_v9 v10 e_v10 c11 v12 e_v12 v13 e_v13 c14
          · refine x_cmpF i_177_34 (by unfold i32 iLO iHI; omega) (by unfold i32 iLO iHI; omega) rfl (by simp only [zC, cR]; omega) ?_
            refine x0 (r := (38, [some (.ref 143), some (.int (zI 59)), some (.int (zI 59))], [.int (zI 1)], es2)) i_177_37 (by rfl) ?_
            refine x0 (r := (42, [some (.ref 143), some (.int (zI 59)), some (.int (zI 59))], [.int (zI 1)], es2)) i_177_38 rfl ?_
            refine x_ret (v := some (.int (zI 1))) i_177_42 rfl (fun _ => rfl) rfl rfl (pFin_b (by omega)) ?_
            show aW _ _ _ _ _ _ (115, [some (.ref 143), some (.int (zI 0)), some (.int (zI n))], [.int (zI 1)], es2)
            refine x_ifT i_175_115 (by unfold i32 iLO iHI; omega) rfl (by simp only [zC, cR]; omega) ?_
            refine x0 (r := (121, [some (.ref 143), some (.int (zI 0)), some (.int (zI n))], [.ref 143], es2)) i_175_120 rfl ?_
            refine x0 (r := (122, [some (.ref 143), some (.int (zI 0)), some (.int (zI n))], [.ref 143, .ref 143], es2)) i_175_121 rfl ?_
            refine x_geti (p := 79) i_175_122 hs_es2 rfl rfl ?_
            obtain ⟨v15, e_v15⟩ : ∃ z : Int, z = (gI es2 79 6).toInt := ⟨_, rfl⟩
            rw [← e_v15]
            have r_v15 : iLO ≤ v15 ∧ v15 ≤ iHI := by rw [e_v15]; exact i32_rng _
            unfold iLO iHI at r_v15
            have b_v15 : (0 : Int) ≤ v15 ∧ v15 ≤ (400 : Int) := by rw [e_v15]; exact gI_bd hT_es2 (p := 79) (b := 6) rfl rfl
            refine x0 (r := (126, [some (.ref 143), some (.int (zI 0)), some (.int (zI n))], [.int (zI 1), .int (zI v15), .ref 143], es2)) i_175_125 (by rfl) ?_
            refine x_iadd i_175_126 ?_
            refine x_puti (p := 79) (ty := .int) i_175_127 hs_es2 rfl rfl rfl (Or.inl rfl) ?_
            obtain ⟨es16, e_es16⟩ : ∃ z : PH, z = sI es2 79 6 (.int (zI (v15 + 1))) := ⟨_, rfl⟩
            have hs_es16 : sh es16 := by rw [e_es16]; exact sh_sI hs_es2 (p := 79) (b := 6) rfl rfl
            have hT_es16 : hOK tT es16 := by rw [e_es16]; exact hOK_sI hT_es2 (p := 79) (b := 6) rfl rfl (by rw [zI_toInt (by unfold i32 iLO iHI; omega)]; exact ⟨by show (0 : Int) ≤ (v15 + 1); omega, by show (v15 + 1) ≤ (400 : Int); omega⟩)
            rw [← e_es16]
            refine x_iinc (x := n) i_175_130 rfl (by show 2 < 3; decide) ?_
            show aW _ _ _ _ _ _ (133, [some (.ref 143), some (.int (zI 0)), some (.int (zI (n + 1)))], [], es16)
            refine x0 (r := (42, [some (.ref 143), some (.int (zI 0)), some (.int (zI (n + 1)))], [], es16)) i_175_133 rfl ?_
            exact K4 c1 es2 p_es2 v3 e_v3 v4 e_v4 c5 v6 e_v6 v7 e_v7 c8 v9 e_v9 v10 e_v10 c11 v12 e_v12 v13 e_v13 c14 v15 e_v15 es16 e_es16
    · refine x_cmpF i_175_100 (by unfold i32 iLO iHI; omega) (by unfold i32 iLO iHI; omega) rfl (by simp only [zC, cR]; omega) ?_
      refine x0 (r := (104, [some (.ref 143), some (.int (zI 0)), some (.int (zI n))], [.int (zI n)], es2)) i_175_103 rfl ?_
      refine x0 (r := (105, [some (.ref 143), some (.int (zI 0)), some (.int (zI n))], [.int (zI 1), .int (zI n)], es2)) i_175_104 (by rfl) ?_
      refine x_iadd i_175_105 ?_
      refine x_ret (v := some (.int (zI (n + 1)))) i_175_106 rfl (fun _ => rfl) rfl rfl rfl ?_
      exact K5 c1 es2 p_es2 v3 e_v3 v4 e_v4 c5
  · refine x_ifF i_175_83 (by unfold i32 iLO iHI; omega) rfl (by simp only [zC, cR]; omega) ?_
    refine x0 (r := (87, [some (.ref 143), some (.int (zI 0)), some (.int (zI n))], [.int (zI (-1))], es)) i_175_86 (by rfl) ?_
    refine x_ret (v := some (.int (zI (-1)))) i_175_87 rfl (fun _ => rfl) rfl rfl rfl ?_
    exact K6 c1

theorem s_me0 {O : pOut} {d kc ks : Nat} {Q : pRes → Prop} {es : PH} (hs_es : sh es) (hT_es : hOK tT es)
    (K1 : ∀ es1 : PH, es1 = sI es 79 0 (.int (zI 0)) → aW O d 195 kc ks Q (7, [some (.ref 143), none, none], [.int (zI 0), .ref 143], es1)) :
    aW O d 195 kc ks Q (0, [some (.ref 143), none, none], [], es) := by
  refine x0 (r := (1, [some (.ref 143), none, none], [.ref 143], es)) i_195_0 rfl ?_
  refine x0 (r := (2, [some (.ref 143), none, none], [.int (zI 0), .ref 143], es)) i_195_1 (by rfl) ?_
  refine x_puti (p := 79) (ty := .int) i_195_2 hs_es rfl rfl rfl (Or.inl rfl) ?_
  obtain ⟨es1, e_es1⟩ : ∃ z : PH, z = sI es 79 0 (.int (zI 0)) := ⟨_, rfl⟩
  have hs_es1 : sh es1 := by rw [e_es1]; exact sh_sI hs_es (p := 79) (b := 0) rfl rfl
  have hT_es1 : hOK tT es1 := by rw [e_es1]; exact hOK_sI hT_es (p := 79) (b := 0) (lo := iLO) (hi := iHI) rfl rfl (i32_rng _)
  rw [← e_es1]
  refine x0 (r := (6, [some (.ref 143), none, none], [.ref 143], es1)) i_195_5 rfl ?_
  refine x0 (r := (7, [some (.ref 143), none, none], [.int (zI 0), .ref 143], es1)) i_195_6 (by rfl) ?_
  exact K1 es1 e_es1

theorem s_me10 {O : pOut} {d kc ks : Nat} {Q : pRes → Prop} {es : PH} {v : Int} (hs_es : sh es) (hv : -1 ≤ v ∧ v ≤ 10) (hT_es : hOK tT es)
    (K1 : 0 ≤ v → ∀ es2 : PH, es2 = sI es 79 10 (.int (zI (-1))) → ∀ es3 : PH, es3 = sA es2 80 (Int.toNat 1284) (zI v) → aW O (d + 1) 195 kc ks Q (57, [some (.ref 143), some (.int (zI v)), some (.int (zI 0))], [], es3))
    (K2 : ¬ (0 ≤ v) → ∀ v4 : Int, v4 = (gI es 79 8).toInt → ∀ es5 : PH, es5 = sI es 79 10 (.int (zI v4)) → ∀ es6 : PH, es6 = sI es5 79 0 (.int (zI 1)) → Q (.inl (some (.int (zI 0))), es6, kc, ks)) :
    aW O (d + 1) 195 kc ks Q (10, [some (.ref 143), none, none], [.int (zI v)], es) := by
  refine x0 (r := (11, [some (.ref 143), some (.int (zI v)), none], [], es)) i_195_10 rfl ?_
  refine x0 (r := (12, [some (.ref 143), some (.int (zI v)), none], [.ref 143], es)) i_195_11 rfl ?_
  refine x0 (r := (13, [some (.ref 143), some (.int (zI v)), none], [.int (zI v), .ref 143], es)) i_195_12 rfl ?_
  by_cases c1 : 0 ≤ v
  · refine x_ifT i_195_13 (by unfold i32 iLO iHI; omega) rfl (by simp only [zC, cR]; omega) ?_
    refine x0 (r := (24, [some (.ref 143), some (.int (zI v)), none], [.int (zI (-1)), .ref 143], es)) i_195_23 (by rfl) ?_
    refine x_puti (p := 79) (ty := .int) i_195_24 hs_es rfl rfl rfl (Or.inl rfl) ?_
    obtain ⟨es2, e_es2⟩ : ∃ z : PH, z = sI es 79 10 (.int (zI (-1))) := ⟨_, rfl⟩
    have hs_es2 : sh es2 := by rw [e_es2]; exact sh_sI hs_es (p := 79) (b := 10) rfl rfl
    have hT_es2 : hOK tT es2 := by rw [e_es2]; exact hOK_sI hT_es (p := 79) (b := 10) (lo := iLO) (hi := iHI) rfl rfl (i32_rng _)
    rw [← e_es2]
    refine x0 (r := (28, [some (.ref 143), some (.int (zI v)), none], [.ref 143], es2)) i_195_27 rfl ?_
    refine x0 (r := (29, [some (.ref 143), some (.int (zI v)), none], [.int (zI v), .ref 143], es2)) i_195_28 rfl ?_
    refine x_ifT i_195_29 (by unfold i32 iLO iHI; omega) rfl (by simp only [zC, cR]; omega) ?_
    refine x0 (r := (37, [some (.ref 143), some (.int (zI v)), none], [.int (zI 0), .ref 143], es2)) i_195_36 (by rfl) ?_
    refine x0 (r := (38, [some (.ref 143), some (.int (zI v)), none], [.int (zI 1), .int (zI 0), .ref 143], es2)) i_195_37 (by rfl) ?_
    refine x_call (vs := [.ref 143, .int (zI 0), .int (zI 1)]) (rs := []) i_195_38 rfl (fun _ => rfl) rfl rfl rfl rfl rfl (pCall_v (p := 79) hs_es2 rfl rfl rfl rfl rfl (by decide) rfl rfl rfl rfl rfl) ?_
    show aW _ _ _ _ _ _ (0, [some (.ref 143), some (.int (zI 0)), some (.int (zI 1))], [], es2)
    refine x0 (r := (1, [some (.ref 143), some (.int (zI 0)), some (.int (zI 1))], [.int (zI 0)], es2)) i_194_0 rfl ?_
    refine x_ifT i_194_1 (by unfold i32 iLO iHI; omega) rfl (by simp only [zC, cR]; omega) ?_
    refine x0 (r := (10, [some (.ref 143), some (.int (zI 0)), some (.int (zI 1))], [.int (zI 0)], es2)) i_194_9 rfl ?_
    refine x_ret (v := some (.int (zI 0))) i_194_10 rfl (fun _ => rfl) rfl rfl (pFin_b (by omega)) ?_
    show aW _ _ _ _ _ _ (41, [some (.ref 143), some (.int (zI v)), none], [.int (zI 0)], es2)
    refine x_ifT i_195_41 (by unfold i32 iLO iHI; omega) rfl (by simp only [zC, cR]; omega) ?_
    refine x0 (r := (47, [some (.ref 143), some (.int (zI v)), none], [.ref 143], es2)) i_195_46 rfl ?_
    refine x_getr (p := 79) (k := 144) i_195_47 hs_es2 rfl rfl ?_
    show aW _ _ _ _ _ _ (50, [some (.ref 143), some (.int (zI v)), none], [.ref 144], es2)
    refine x0 (r := (53, [some (.ref 143), some (.int (zI v)), none], [.int (zI 1284), .ref 144], es2)) i_195_50 (by rfl) ?_
    refine x0 (r := (54, [some (.ref 143), some (.int (zI v)), none], [.int (zI v), .int (zI 1284), .ref 144], es2)) i_195_53 rfl ?_
    refine x_iast (p := 80) i_195_54 hs_es2 rfl (by unfold i32 iLO iHI; omega) (by omega) (by omega) ?_
    obtain ⟨es3, e_es3⟩ : ∃ z : PH, z = sA es2 80 (Int.toNat 1284) (zI v) := ⟨_, rfl⟩
    have hs_es3 : sh es3 := by rw [e_es3]; exact sh_sA hs_es2
    have hT_es3 : hOK tT es3 := by rw [e_es3]; exact hOK_sA hT_es2 (p := 80) (n := 2125) rfl (fun _ => by rw [zI_toInt (by unfold i32 iLO iHI; omega)]; exact ⟨by show (0 : Int) ≤ v; omega, by show v ≤ (10 : Int); omega⟩)
    rw [← e_es3]
    refine x0 (r := (56, [some (.ref 143), some (.int (zI v)), none], [.int (zI 0)], es3)) i_195_55 (by rfl) ?_
    refine x0 (r := (57, [some (.ref 143), some (.int (zI v)), some (.int (zI 0))], [], es3)) i_195_56 rfl ?_
    exact K1 c1 es2 e_es2 es3 e_es3
  · refine x_ifF i_195_13 (by unfold i32 iLO iHI; omega) rfl (by simp only [zC, cR]; omega) ?_
    refine x0 (r := (17, [some (.ref 143), some (.int (zI v)), none], [.ref 143, .ref 143], es)) i_195_16 rfl ?_
    refine x_geti (p := 79) i_195_17 hs_es rfl rfl ?_
    obtain ⟨v4, e_v4⟩ : ∃ z : Int, z = (gI es 79 8).toInt := ⟨_, rfl⟩
    rw [← e_v4]
    have r_v4 : iLO ≤ v4 ∧ v4 ≤ iHI := by rw [e_v4]; exact i32_rng _
    unfold iLO iHI at r_v4
    have b_v4 : (0 : Int) ≤ v4 ∧ v4 ≤ (400 : Int) := by rw [e_v4]; exact gI_bd hT_es (p := 79) (b := 8) rfl rfl
    refine x0 (r := (24, [some (.ref 143), some (.int (zI v)), none], [.int (zI v4), .ref 143], es)) i_195_20 rfl ?_
    refine x_puti (p := 79) (ty := .int) i_195_24 hs_es rfl rfl rfl (Or.inl rfl) ?_
    obtain ⟨es5, e_es5⟩ : ∃ z : PH, z = sI es 79 10 (.int (zI v4)) := ⟨_, rfl⟩
    have hs_es5 : sh es5 := by rw [e_es5]; exact sh_sI hs_es (p := 79) (b := 10) rfl rfl
    have hT_es5 : hOK tT es5 := by rw [e_es5]; exact hOK_sI hT_es (p := 79) (b := 10) (lo := iLO) (hi := iHI) rfl rfl (i32_rng _)
    rw [← e_es5]
    refine x0 (r := (28, [some (.ref 143), some (.int (zI v)), none], [.ref 143], es5)) i_195_27 rfl ?_
    refine x0 (r := (29, [some (.ref 143), some (.int (zI v)), none], [.int (zI v), .ref 143], es5)) i_195_28 rfl ?_
    refine x_ifF i_195_29 (by unfold i32 iLO iHI; omega) rfl (by simp only [zC, cR]; omega) ?_
    refine x0 (r := (33, [some (.ref 143), some (.int (zI v)), none], [.int (zI 1), .ref 143], es5)) i_195_32 (by rfl) ?_
    refine x0 (r := (37, [some (.ref 143), some (.int (zI v)), none], [.int (zI 1), .ref 143], es5)) i_195_33 rfl ?_
    refine x0 (r := (38, [some (.ref 143), some (.int (zI v)), none], [.int (zI 1), .int (zI 1), .ref 143], es5)) i_195_37 (by rfl) ?_
    refine x_call (vs := [.ref 143, .int (zI 1), .int (zI 1)]) (rs := []) i_195_38 rfl (fun _ => rfl) rfl rfl rfl rfl rfl (pCall_v (p := 79) hs_es5 rfl rfl rfl rfl rfl (by decide) rfl rfl rfl rfl rfl) ?_
    show aW _ _ _ _ _ _ (0, [some (.ref 143), some (.int (zI 1)), some (.int (zI 1))], [], es5)
    refine x0 (r := (1, [some (.ref 143), some (.int (zI 1)), some (.int (zI 1))], [.int (zI 1)], es5)) i_194_0 rfl ?_
    refine x_ifF i_194_1 (by unfold i32 iLO iHI; omega) rfl (by simp only [zC, cR]; omega) ?_
    refine x0 (r := (5, [some (.ref 143), some (.int (zI 1)), some (.int (zI 1))], [.ref 143], es5)) i_194_4 rfl ?_
    refine x0 (r := (6, [some (.ref 143), some (.int (zI 1)), some (.int (zI 1))], [.int (zI 1), .ref 143], es5)) i_194_5 rfl ?_
    refine x_puti (p := 79) (ty := .int) i_194_6 hs_es5 rfl rfl rfl (Or.inl rfl) ?_
    obtain ⟨es6, e_es6⟩ : ∃ z : PH, z = sI es5 79 0 (.int (zI 1)) := ⟨_, rfl⟩
    have hs_es6 : sh es6 := by rw [e_es6]; exact sh_sI hs_es5 (p := 79) (b := 0) rfl rfl
    have hT_es6 : hOK tT es6 := by rw [e_es6]; exact hOK_sI hT_es5 (p := 79) (b := 0) (lo := iLO) (hi := iHI) rfl rfl (i32_rng _)
    rw [← e_es6]
    refine x0 (r := (10, [some (.ref 143), some (.int (zI 1)), some (.int (zI 1))], [.int (zI 1)], es6)) i_194_9 rfl ?_
    refine x_ret (v := some (.int (zI 1))) i_194_10 rfl (fun _ => rfl) rfl rfl (pFin_b (by omega)) ?_
    show aW _ _ _ _ _ _ (41, [some (.ref 143), some (.int (zI v)), none], [.int (zI 1)], es6)
    refine x_ifF i_195_41 (by unfold i32 iLO iHI; omega) rfl (by simp only [zC, cR]; omega) ?_
    refine x0 (r := (45, [some (.ref 143), some (.int (zI v)), none], [.int (zI 0)], es6)) i_195_44 (by rfl) ?_
    refine x_ret (v := some (.int (zI 0))) i_195_45 rfl (fun _ => rfl) rfl rfl rfl ?_
    exact K2 c1 v4 e_v4 es5 e_es5 es6 e_es6

theorem s_me57 {O : pOut} {d kc ks : Nat} {Q : pRes → Prop} {es : PH} {v k : Int} (hs_es : sh es) (hk : 0 ≤ k ∧ k ≤ 841) (hT_es : hOK tT es)
    (K1 : 841 ≤ k → ∀ es2 : PH, es2 = sA es 80 (Int.toNat 4) (zI 1) → Q (.inl (some (.int (zI v))), es2, kc, ks))
    (K2 : ¬ (841 ≤ k) → ∀ v3 : Int, v3 = (gA es 80 (1284 + k).toNat).toInt → ∀ es4 : PH, es4 = sA es 80 (443 + k).toNat (zI v3) → aW O d 195 kc ks Q (57, [some (.ref 143), some (.int (zI v)), some (.int (zI (k + 1)))], [], es4)) :
    aW O d 195 kc ks Q (57, [some (.ref 143), some (.int (zI v)), some (.int (zI k))], [], es) := by
  refine x0 (r := (58, [some (.ref 143), some (.int (zI v)), some (.int (zI k))], [.int (zI k)], es)) i_195_57 rfl ?_
  refine x0 (r := (61, [some (.ref 143), some (.int (zI v)), some (.int (zI k))], [.int (zI 841), .int (zI k)], es)) i_195_58 (by rfl) ?_
  by_cases c1 : 841 ≤ k
  · refine x_cmpT i_195_61 (by unfold i32 iLO iHI; omega) (by unfold i32 iLO iHI; omega) rfl (by simp only [zC, cR]; omega) ?_
    refine x0 (r := (91, [some (.ref 143), some (.int (zI v)), some (.int (zI k))], [.ref 143], es)) i_195_90 rfl ?_
    refine x_getr (p := 79) (k := 144) i_195_91 hs_es rfl rfl ?_
    show aW _ _ _ _ _ _ (94, [some (.ref 143), some (.int (zI v)), some (.int (zI k))], [.ref 144], es)
    refine x0 (r := (95, [some (.ref 143), some (.int (zI v)), some (.int (zI k))], [.int (zI 4), .ref 144], es)) i_195_94 (by rfl) ?_
    refine x0 (r := (96, [some (.ref 143), some (.int (zI v)), some (.int (zI k))], [.int (zI 1), .int (zI 4), .ref 144], es)) i_195_95 (by rfl) ?_
    refine x_iast (p := 80) i_195_96 hs_es rfl (by unfold i32 iLO iHI; omega) (by omega) (by omega) ?_
    obtain ⟨es2, e_es2⟩ : ∃ z : PH, z = sA es 80 (Int.toNat 4) (zI 1) := ⟨_, rfl⟩
    have hs_es2 : sh es2 := by rw [e_es2]; exact sh_sA hs_es
    have hT_es2 : hOK tT es2 := by rw [e_es2]; exact hOK_sA hT_es (p := 80) (n := 2125) rfl (fun _ => by rw [zI_toInt (by unfold i32 iLO iHI; omega)]; exact ⟨by show (0 : Int) ≤ 1; omega, by show 1 ≤ (1 : Int); omega⟩)
    rw [← e_es2]
    refine x0 (r := (98, [some (.ref 143), some (.int (zI v)), some (.int (zI k))], [.int (zI v)], es2)) i_195_97 rfl ?_
    refine x_ret (v := some (.int (zI v))) i_195_98 rfl (fun _ => rfl) rfl rfl rfl ?_
    exact K1 c1 es2 e_es2
  · refine x_cmpF i_195_61 (by unfold i32 iLO iHI; omega) (by unfold i32 iLO iHI; omega) rfl (by simp only [zC, cR]; omega) ?_
    refine x0 (r := (65, [some (.ref 143), some (.int (zI v)), some (.int (zI k))], [.ref 143], es)) i_195_64 rfl ?_
    refine x_getr (p := 79) (k := 144) i_195_65 hs_es rfl rfl ?_
    show aW _ _ _ _ _ _ (68, [some (.ref 143), some (.int (zI v)), some (.int (zI k))], [.ref 144], es)
    refine x0 (r := (71, [some (.ref 143), some (.int (zI v)), some (.int (zI k))], [.int (zI 443), .ref 144], es)) i_195_68 (by rfl) ?_
    refine x0 (r := (72, [some (.ref 143), some (.int (zI v)), some (.int (zI k))], [.int (zI k), .int (zI 443), .ref 144], es)) i_195_71 rfl ?_
    refine x_iadd i_195_72 ?_
    refine x0 (r := (74, [some (.ref 143), some (.int (zI v)), some (.int (zI k))], [.ref 143, .int (zI (443 + k)), .ref 144], es)) i_195_73 rfl ?_
    refine x_getr (p := 79) (k := 144) i_195_74 hs_es rfl rfl ?_
    show aW _ _ _ _ _ _ (77, [some (.ref 143), some (.int (zI v)), some (.int (zI k))], [.ref 144, .int (zI (443 + k)), .ref 144], es)
    refine x0 (r := (80, [some (.ref 143), some (.int (zI v)), some (.int (zI k))], [.int (zI 1284), .ref 144, .int (zI (443 + k)), .ref 144], es)) i_195_77 (by rfl) ?_
    refine x0 (r := (81, [some (.ref 143), some (.int (zI v)), some (.int (zI k))], [.int (zI k), .int (zI 1284), .ref 144, .int (zI (443 + k)), .ref 144], es)) i_195_80 rfl ?_
    refine x_iadd i_195_81 ?_
    refine x_iald (p := 80) i_195_82 hs_es rfl (by unfold i32 iLO iHI; omega) (by omega) (by omega) ?_
    obtain ⟨v3, e_v3⟩ : ∃ z : Int, z = (gA es 80 (1284 + k).toNat).toInt := ⟨_, rfl⟩
    rw [← e_v3]
    have r_v3 : iLO ≤ v3 ∧ v3 ≤ iHI := by rw [e_v3]; exact i32_rng _
    unfold iLO iHI at r_v3
    refine x_iast (p := 80) i_195_83 hs_es rfl (by unfold i32 iLO iHI; omega) (by omega) (by omega) ?_
    obtain ⟨es4, e_es4⟩ : ∃ z : PH, z = sA es 80 (443 + k).toNat (zI v3) := ⟨_, rfl⟩
    have hs_es4 : sh es4 := by rw [e_es4]; exact sh_sA hs_es
    rw [← e_es4]
    refine x_iinc (x := k) i_195_84 rfl (by show 2 < 3; decide) ?_
    show aW _ _ _ _ _ _ (87, [some (.ref 143), some (.int (zI v)), some (.int (zI (k + 1)))], [], es4)
    refine x0 (r := (57, [some (.ref 143), some (.int (zI v)), some (.int (zI (k + 1)))], [], es4)) i_195_87 rfl ?_
    exact K2 c1 v3 e_v3 es4 e_es4

section
variable {O : pOut} {d kc ks : Nat} {Q : pRes → Prop} {es : PH}
theorem rm_spec {n : Nat} (hn : n ≤ 9) (hW : wordsOK O) (hT : hOK tT es) (h0 : sT es ≤ pT es) (K : ∀ es' v, lnP n es es' v → Q (.inl (some (.int (zI v))), es', kc, ks)) : aW O (d + 27) 182 kc ks Q (0, [some (.ref 143), some (.int (zI (n : Int))), none], [], es) := by
  obtain ⟨t0, t1, t2, t3⟩ := tS80_ln n (by omega)
  have hsb := sT_bd hT
  have hk : (1285 : Int) ≤ ((1285 + 4 * n : Nat) : Int) ∧ ((1285 + 4 * n : Nat) : Int) ≤ 1321 := ⟨by omega, by omega⟩
  have no : ∀ b, hOK tT b → fr (frLn n (sT es).toNat) es b → Q (.inl (some (.int (zI 0))), b, kc, ks) := fun b h1 h2 => K b 0 ⟨h1, h2, Or.inl rfl⟩
  -- the end of the line
  have r108 : ∀ e (a : Nat), hOK tT e → fr (frLn n (sT es).toNat) es e → sT e ≤ pT e → sT es ≤ sT e → (gA e 80 (1285 + 4 * n + 2)).toInt = (a : Int) → (a : Int) ≤ sT e → rpn (opD e) ((sT e).toNat - a) a 0 ≠ none → aW O (d + 27) 182 kc ks Q (108, [some (.ref 143), some (.int (zI (n : Int))), some (.int (zI ((1285 + 4 * n : Nat) : Int)))], [], e) := by
    intro e a hTe hf hsp hse ha hae hr
    refine s_rm108 (d := d + 27) (sh_of hTe) ⟨by omega, by omega⟩ hk hTe (fun v1 e1 es2 e2 => ?_)
    have hv1 : v1 = sT e := e1
    rw [hv1, show (((1285 + 4 * n : Nat) : Int) + 3).toNat = 1285 + 4 * n + 3 by omega] at e2
    have hse2 := sT_bd hTe
    obtain ⟨p1, p2, p3, p4, p5, p6, p7, p8⟩ := put80 hTe t3 (by omega) (by unfold i32 iLO iHI; omega) ⟨by omega, by omega⟩ e2
    refine K es2 1 ⟨p1, fr_trans hf (fr1_Ln p8 (by omega) (by omega)), Or.inr ⟨rfl, by omega, by omega, a, (sT e).toNat, ?_, by rw [p2]; omega, by omega, by omega, by rw [p7]; exact hr⟩⟩
    rw [p3 _ (by omega)]
    exact ha
  have r73 : ∀ e, hOK tT e → fr (frLn n (sT es).toNat) es e → pT es ≤ pT e → sT e = sT es → aW O (d + 27) 182 kc ks Q (73, [some (.ref 143), some (.int (zI (n : Int))), some (.int (zI ((1285 + 4 * n : Nat) : Int)))], [], e) := by
    intro e hTe hf hp hs
    refine s_rm73 (d := d + 27) (sh_of hTe) ⟨by omega, by omega⟩ hk hTe (fun v1 e1 es2 e2 => ?_)
    have hv1 : v1 = sT e := e1
    rw [hv1, show (((1285 + 4 * n : Nat) : Int) + 2).toNat = 1285 + 4 * n + 2 by omega] at e2
    obtain ⟨p1, p2, p3, p4, p5, p6, p7, p8⟩ := put80 hTe t2 (by omega) (by unfold i32 iLO iHI; omega) ⟨by omega, by omega⟩ e2
    have f2 : fr (frLn n (sT es).toNat) es es2 := fr_trans hf (fr1_Ln p8 (by omega) (by omega))
    have c2 : (gA es2 80 (1285 + 4 * n + 2)).toInt = ((sT es).toNat : Int) := by rw [p2]; omega
    refine s_rm85 (d := d + 23) (sh_of p1) ⟨by omega, by omega⟩ hk hW p1 (fun es3 e3 es4 v4 p4' h4 => ?_) (fun es3 e3 es4 v4 p4' h4 => ?_)
    all_goals
      obtain ⟨w1, w2, w3, w4, w5, w6⟩ := put9 p1 ⟨by omega, by omega⟩ e3
      obtain ⟨q1, q2, q3, q4, q5⟩ := p4'
      have hs4 := mvB_sT w1 q4
      have f3 : fr (frLn n (sT es).toNat) es es3 := fr_trans f2 (frPr_Ln (w6 _))
      have f4 : fr (frLn n (sT es).toNat) es es4 := fr_trans f3 (frB_Ln q4.1)
      have c4 : (gA es4 80 (1285 + 4 * n + 2)).toInt = ((sT es).toNat : Int) := by rw [mvB_80 w1 q4, w5]; exact c2
    · refine r108 es4 (sT es).toNat q2 f4 (by have := q4.2; omega) (by omega) c4 (by omega) ?_
      rw [show (sT es4).toNat - (sT es).toNat = 0 by omega, rpn]
      exact fun h => by cases h
    · refine x_call (vs := [.ref 143]) (rs := []) i_182_100 rfl (fun _ => rfl) rfl rfl rfl rfl rfl (pCall_v (p := 79) (sh_of q2) rfl rfl rfl rfl rfl (by decide) rfl rfl rfl rfl rfl) ?_
      show aW _ _ _ _ _ _ (0, [some (.ref 143)], [], es4)
      refine rc_all (d := d) hW q2 (by have := q5 h4; omega) (fun es5 v5 p5' => ?_)
      show aW _ _ _ _ _ _ (103, [some (.ref 143), some (.int (zI (n : Int))), some (.int (zI ((1285 + 4 * n : Nat) : Int)))], [.int (zI v5)], es5)
      obtain ⟨u1, u2, u3, u4⟩ := pr_v p5'
      have hsn : (sT es4).toNat = (sT es).toNat := by omega
      refine s_rm103 (d := d + 27) (sh_of u2) ⟨by omega, by omega⟩ hk u1 u2 (fun hv => ?_) (fun hv => no es5 u2 (fr_trans f4 (frPr_Ln (by rw [← hsn]; exact (u4 (by omega)).2.2.1))))
      have hok := u3 hv
      have hk7 := hok.2.2.2.2.2.2.1
      have hk6 := hok.2.2.2.2.2.1
      have hp4 := q5 h4
      have f45 : fr (frPr (sT es).toNat) es4 es5 := by rw [← hsn]; exact hok.2.2.1
      refine r108 es5 (sT es).toNat u2 (fr_trans f4 (frPr_Ln f45)) (by omega) (by omega) ?_ (by omega) ?_
      · rw [fr_at f45 q1 (p := 80) (t := 0) (n := 2125) (sp := tS80) rfl (by decide) (by simp only [frPr, mHq, true_and, and_true, false_and, and_false, or_false, false_or, not_false_eq_true, Nat.reduceEqDiff] <;> omega)]
        exact c4
      · have h8 := hok.2.2.2.2.2.2.2 0 (Int.le_refl _)
        rw [show (sT es5).toNat - (sT es).toNat = (sT es5 - sT es4).toNat by omega, ← hsn, h8]
        exact fun h => by cases h
  have kat : ∀ (pc : Nat) (e : PH) (i x lo hi : Int) (kq : Nat) (f : Int → PH → Prop), iRow 182 pc = some (.invokevirtual 210, kq, 183, 1, some .boolean) → hOK tT e → 1285 ≤ i ∧ i ≤ 1324 → i32 x → (∀ (y : Int), (y = 1 ∧ 0 ≤ x) ∨ (y = 0 ∧ x < 0) → aW O (d + 27) 182 kc ks Q (pc + 3, [some (.ref 143), some (.int (zI (n : Int))), some (.int (zI ((1285 + 4 * n : Nat) : Int)))], [.int (zI y)], sA e 80 i.toNat (zI x))) →
      aW O (d + 27) 182 kc ks Q (pc, [some (.ref 143), some (.int (zI (n : Int))), some (.int (zI ((1285 + 4 * n : Nat) : Int)))], [.int (zI x), .int (zI i), .ref 143], e) := by
    intro pc e i x lo hi kq f hi' hTe hii hx K1
    refine x_call (vs := [.ref 143, .int (zI i), .int (zI x)]) (rs := []) hi' rfl (fun _ => rfl) rfl rfl rfl rfl rfl (pCall_v (p := 79) (sh_of hTe) rfl rfl rfl rfl rfl (by decide) rfl rfl rfl rfl rfl) ?_
    show aW _ _ _ _ _ _ (0, [some (.ref 143), some (.int (zI i)), some (.int (zI x))], [], e)
    exact ka_spec (d := d + 26) (sh_of hTe) hTe hii hx (fun y hy => K1 y hy)
  refine s_rm0 (d := d + 24) (sh_of hT) ⟨by omega, by omega⟩ hW hT (fun es1 v2 p2 h2 => no es1 p2.2.1 (fr_wk (by simp only [mAl]) p2.2.2.2.1)) (fun es1 v2 p2 h2 es4 v5 p5 => ?_)
  obtain ⟨q1, q2, q3, q4, q5⟩ := p5
  have hm1 : mvB es es1 := ⟨fr_sub (by decide) p2.2.2.2.1, by unfold pT; rw [fr_fld p2.2.2.2.1 (sh_of hT) (p := 79) (b := 6) rfl (by simp only [mHq, true_and, and_true, false_and, and_false, or_false, false_or, not_false_eq_true, Nat.reduceEqDiff] <;> omega)]; exact Int.le_refl _⟩
  have hm4 := mvB_trans hm1 q4
  have hs4 := mvB_sT hT hm4
  rw [show (1285 : Int) + 4 * (n : Int) = ((1285 + 4 * n : Nat) : Int) by omega]
  refine kat 27 es4 _ v5 0 0 _ (fun _ _ => True) i_182_27 q2 ⟨by omega, by omega⟩ (by unfold i32 iLO iHI; omega) (fun y hy => ?_)
  obtain ⟨es5, e5⟩ : ∃ z : PH, z = sA es4 80 ((1285 + 4 * n : Nat) : Int).toNat (zI v5) := ⟨_, rfl⟩
  rw [← e5]
  rw [Int.toNat_natCast] at e5
  obtain ⟨a1, a2, a3, a4, a5, a6, a7, a8⟩ := put80 q2 t0 q3 (by unfold i32 iLO iHI; omega) ⟨by omega, by omega⟩ e5
  have f5 : fr (frLn n (sT es).toNat) es es5 := fr_trans (frB_Ln hm4.1) (fr1_Ln a8 (by omega) (by omega))
  refine s_rm30 (d := d + 27) (sh_of a1) ⟨by omega, by omega⟩ hk (by omega) a1 (fun hy1 => ?_) (fun hy1 => no es5 a1 f5)
  refine s_rm35 (d := d + 27) (sh_of a1) ⟨by omega, by omega⟩ hk a1 (fun es6 e6 => ?_)
  rw [show (((1285 + 4 * n : Nat) : Int) + 1).toNat = 1285 + 4 * n + 1 by omega] at e6
  obtain ⟨b1, b2, b3, b4, b5, b6, b7, b8⟩ := put80 a1 t1 (by omega) (by unfold i32 iLO iHI; omega) ⟨by omega, by omega⟩ e6
  have f6 : fr (frLn n (sT es).toNat) es es6 := fr_trans f5 (fr1_Ln b8 (by omega) (by omega))
  have hp4 := hm4.2
  refine s_rm44 (d := d + 23) (sh_of b1) ⟨by omega, by omega⟩ hk hW b1 (fun es7 v7 p7 h7 => ?_) (fun es7 v7 p7 h7 es8 p8 es9 v9 p9 => ?_)
  · have hs7 := mvB_sT b1 p7.2.2.2.1
    exact r73 es7 p7.2.1 (fr_trans f6 (frB_Ln p7.2.2.2.1.1)) (by have := p7.2.2.2.1.2; omega) (by omega)
  · have m9 := mvB_trans (mvB_trans p7.2.2.2.1 p8.2.2.1) p9.2.2.2
    have hs9 := mvB_sT b1 m9
    have hp9 := m9.2
    have f9 : fr (frLn n (sT es).toNat) es es9 := fr_trans f6 (frB_Ln m9.1)
    refine kat 65 es9 _ v9 0 0 _ (fun _ _ => True) i_182_65 p9.2.1 ⟨by omega, by omega⟩ (by have := p9.2.2.1; unfold i32 iLO iHI; omega) (fun y hy => ?_)
    obtain ⟨es10, e10⟩ : ∃ z : PH, z = sA es9 80 (((1285 + 4 * n : Nat) : Int) + 1).toNat (zI v9) := ⟨_, rfl⟩
    rw [← e10]
    rw [show (((1285 + 4 * n : Nat) : Int) + 1).toNat = 1285 + 4 * n + 1 by omega] at e10
    obtain ⟨c1, c2, c3, c4, c5, c6, c7, c8⟩ := put80 p9.2.1 t1 p9.2.2.1 (by have := p9.2.2.1; unfold i32 iLO iHI; omega) ⟨by omega, by omega⟩ e10
    have f10 : fr (frLn n (sT es).toNat) es es10 := fr_trans f9 (fr1_Ln c8 (by omega) (by omega))
    exact s_rm68 (d := d + 27) (sh_of c1) ⟨by omega, by omega⟩ hk (by omega) c1 (fun _ => r73 es10 c1 f10 (by omega) (by omega)) (fun _ => no es10 c1 f10)
/-- readAll of MEASURE's text -/
def frRa : List aMod := [(79, 7, 0, 1), (79, 8, 0, 1), (79, 9, 0, 1), (79, 10, 0, 1), (79, 11, 0, 1), (79, 14, 0, 1), (80, 0, 1285, 2125)]
theorem line_keep {a b : PH} {n i : Nat} (hT : hOK tT a) (hf : fr (frLn n (sT a).toNat) a b) (hs : sT a ≤ sT b) (hi : i < n) (hn : n ≤ 9) (h : lineOK a i) : lineOK b i := by
  obtain ⟨x, y, h1, h2, h3, h4, h5⟩ := h
  have hsb := sT_bd hT
  refine ⟨x, y, ?_, ?_, h3, by omega, ?_⟩
  · rw [fr_at hf (sh_of hT) (p := 80) (t := 0) (n := 2125) (sp := tS80) rfl (by decide) (by simp only [frLn, mHq, true_and, and_true, false_and, and_false, or_false, false_or, not_false_eq_true, Nat.reduceEqDiff] <;> omega)]; exact h1
  · rw [fr_at hf (sh_of hT) (p := 80) (t := 0) (n := 2125) (sp := tS80) rfl (by decide) (by simp only [frLn, mHq, true_and, and_true, false_and, and_false, or_false, false_or, not_false_eq_true, Nat.reduceEqDiff] <;> omega)]; exact h2
  · have hh : ∀ j, x ≤ j → j < x + (y - x) → opD b j = opD a j := fun j h6 h7 => by
      unfold opD
      rw [fr_at hf (sh_of hT) (p := 80) (t := 0) (n := 2125) (sp := tS80) rfl (by decide) (by simp only [frLn, mHq, true_and, and_true, false_and, and_false, or_false, false_or, not_false_eq_true, Nat.reduceEqDiff] <;> omega)]
    rw [rpn_congr (y - x) x 0 hh]
    exact h5
theorem line_mv {a b : PH} {i : Nat} (hs : sT b = sT a) (h80 : gA b 80 = gA a 80) (h : lineOK a i) : lineOK b i := by
  unfold lineOK
  rw [h80, hs, opD_80 h80]
  exact h
def raP (es es' : PH) (v : Int) : Prop := hOK tT es' ∧ fr frRa es es' ∧ (-1 ≤ v ∧ v ≤ 10) ∧ ∀ i : Nat, (i : Int) < v → lineOK es' i
theorem ra_loop (hW : wordsOK O) (K : ∀ es' v, raP es es' v → Q (.inl (some (.int (zI v))), es', kc, ks)) : ∀ (j n : Nat) (es1 : PH), n + j = 10 → hOK tT es1 → fr frRa es es1 → sT es1 ≤ pT es1 → (∀ i, i < n → lineOK es1 i) → aW O (d + 28) 175 kc ks Q (42, [some (.ref 143), some (.int (zI 0)), some (.int (zI (n : Int)))], [], es1) := by
  have bad : ∀ b, hOK tT b → fr frRa es b → Q (.inl (some (.int (zI (-1)))), b, kc, ks) := fun b h1 h2 => K b (-1) ⟨h1, h2, ⟨by omega, by omega⟩, fun i hi => by omega⟩
  have fB : ∀ a b, fr frB a b → fr frRa a b := fun a b h => fr_sub (by decide) h
  intro j
  induction j with
  | zero =>
    intro n es1 hn hT1 hf1 hs1 hl
    exact s_ral42 (d := d + 25) (sh_of hT1) ⟨by omega, by omega⟩ hT1 (fun es2 p2 h2 => absurd (by omega) h2) (fun es2 p2 h2 => bad es2 p2.2.1 (fr_trans hf1 (fB _ _ p2.2.2.1.1)))
  | succ j ih =>
    intro n es1 hn hT1 hf1 hs1 hl
    have e9 : ((n + 1 : Nat) : Int) = (n : Int) + 1 := by omega
    refine s_ral42 (d := d + 25) (sh_of hT1) ⟨by omega, by omega⟩ hT1 (fun es2 p2 h2 => ?_) (fun es2 p2 h2 => absurd (by omega) h2)
    have hT2 := p2.2.1
    have m2 := p2.2.2.1
    have hs2 := mvB_sT hT1 m2
    have hp2 := m2.2
    refine x_call (vs := [.ref 143, .int (zI (n : Int))]) (rs := []) i_175_80 rfl (fun _ => rfl) rfl rfl rfl rfl rfl (pCall_v (p := 79) (sh_of hT2) rfl rfl rfl rfl rfl (by decide) rfl rfl rfl rfl rfl) ?_
    show aW _ _ _ _ _ _ (0, [some (.ref 143), some (.int (zI (n : Int))), none], [], es2)
    refine rm_spec (d := d) (n := n) (by omega) hW hT2 (by omega) (fun es3 v3 p3 => ?_)
    show aW _ _ _ _ _ _ (83, [some (.ref 143), some (.int (zI 0)), some (.int (zI (n : Int)))], [.int (zI v3)], es3)
    obtain ⟨hT3, f3, hv3⟩ := p3
    have hsb2 := sT_bd hT2
    have f3' : fr frRa es es3 := fr_trans hf1 (fr_trans (fB _ _ m2.1) (fr_wk (by simp only [mAl, frLn, frRa, mHq, true_and, and_true, false_and, and_false, or_false, false_or, not_false_eq_true, Nat.reduceEqDiff] <;> (repeat' apply And.intro) <;> intros <;> omega) f3))
    have good : v3 ≠ 0 → sT es3 ≤ pT es3 ∧ ∀ i, i < n + 1 → lineOK es3 i := by
      intro hv
      rcases hv3 with h | ⟨h, g1, g2, g3⟩
      · exact absurd h hv
      · refine ⟨g1, fun i hi => ?_⟩
        by_cases hin : i = n
        · rw [hin]; exact g3
        · exact line_keep hT2 f3 g2 (by omega) (by omega) (line_mv hs2 (mvB_80 hT1 m2) (hl i (by omega)))
    refine s_ral83 (d := d + 26) (sh_of hT3) ⟨by omega, by omega⟩ (by rcases hv3 with h | h <;> omega) hT3 (fun hv es4 p4 v5 e5 v6 e6 h6 v7 e7 v8 e8 h8 => bad es4 p4.2.1 (fr_trans f3' (fB _ _ p4.2.2.1.1))) (fun hv es4 p4 v5 e5 v6 e6 h6 v7 e7 v8 e8 h8 v9 e9 v10 e10 h10 => bad es4 p4.2.1 (fr_trans f3' (fB _ _ p4.2.2.1.1))) (fun hv es4 p4 v5 e5 v6 e6 h6 v7 e7 v8 e8 h8 v9 e9 v10 e10 h10 v11 e11 v12 e12 h12 => bad es4 p4.2.1 (fr_trans f3' (fB _ _ p4.2.2.1.1))) (fun hv es4 p4 v5 e5 v6 e6 h6 v7 e7 v8 e8 h8 v9 e9' v10 e10 h10 v11 e11 v12 e12 h12 v15 e15 es16 e16 => ?_) (fun hv es4 p4 v5 e5 v6 e6 h6 => ?_) (fun hv => bad es3 hT3 f3')
    · obtain ⟨g1, g2⟩ := good hv
      have hT4 := p4.2.1
      have m4 := p4.2.2.1
      have hs4 := mvB_sT hT3 m4
      obtain ⟨a1, a2, a3, a4, -⟩ := pt_up (es' := es16) hT4 (by unfold pT; omega) (by rw [e16, e15])
      have hs16 := mvB_sT hT4 a2
      have := ih (n + 1) es16 (by omega) a1 (fr_trans f3' (fr_trans (fB _ _ m4.1) (fB _ _ a2.1))) (by have := m4.2; omega) (fun i hi => line_mv hs16 (mvB_80 hT4 a2) (line_mv hs4 (mvB_80 hT3 m4) (g2 i hi)))
      rw [e9] at this
      exact this
    · obtain ⟨g1, g2⟩ := good hv
      have m4 := p4.2.2.1
      refine K es4 ((n : Int) + 1) ⟨p4.2.1, fr_trans f3' (fB _ _ m4.1), ⟨by omega, by omega⟩, fun i hi => line_mv (mvB_sT hT3 m4) (mvB_80 hT3 m4) (g2 i (by omega))⟩
theorem ral_spec (hW : wordsOK O) (hT : hOK tT es) (K : ∀ es' v, raP es es' v → Q (.inl (some (.int (zI v))), es', kc, ks)) : aW O (d + 28) 175 kc ks Q (0, [some (.ref 143), some (.int (zI 0)), none], [], es) := by
  have st : ∀ v1 es2 es3 es4 es5, v1 = (gI es 79 5).toInt → es2 = sI es 79 7 (.int (zI v1)) → es3 = sI es2 79 5 (.int (zI 0)) → es4 = sI es3 79 6 (.int (zI 0)) → es5 = sI es4 79 12 (.int (zI 0)) → hOK tT es5 ∧ fr frRa es es5 ∧ sT es5 = 0 := by
    intro v1 es2 es3 es4 es5 e1 e2 e3 e4 e5
    have z0 : (zI 0).toInt = 0 := rfl
    have hb5 : 0 ≤ (gI es 79 5).toInt ∧ (gI es 79 5).toInt ≤ 400 := gI_bd hT (p := 79) (b := 5) rfl rfl
    have hT2 : hOK tT es2 := by rw [e2]; exact hOK_sI hT (p := 79) (b := 7) rfl rfl (by rw [zI_toInt (by unfold i32 iLO iHI; omega), e1]; exact hb5)
    have hT3 : hOK tT es3 := by rw [e3]; exact hOK_sI hT2 (p := 79) (b := 5) rfl rfl (by rw [z0]; exact ⟨by show (0 : Int) ≤ 0; omega, by show (0 : Int) ≤ 400; omega⟩)
    have hT4 : hOK tT es4 := by rw [e4]; exact hOK_sI hT3 (p := 79) (b := 6) rfl rfl (by rw [z0]; exact ⟨by show (0 : Int) ≤ 0; omega, by show (0 : Int) ≤ 400; omega⟩)
    have hT5 : hOK tT es5 := by rw [e5]; exact hOK_sI hT4 (p := 79) (b := 12) rfl rfl (by rw [z0]; exact ⟨by show (0 : Int) ≤ 0; omega, by show (0 : Int) ≤ 400; omega⟩)
    refine ⟨hT5, ?_, ?_⟩
    · rw [e5, e4, e3, e2]
      exact fr_trans (fr_sI rfl) (fr_trans (fr_sI rfl) (fr_trans (fr_sI rfl) (fr_sI rfl)))
    · unfold sT
      rw [e5, gI_sI (sh_of hT4) (p := 79) rfl (by decide)]; rfl
  refine s_ral0 (d := d + 26) (sh_of hT) hT (fun v1 e1 es2 e2 es3 e3 es4 e4 es5 e5 es6 p6 v7 e7 v8 e8 h8 => ?_) (fun v1 e1 es2 e2 es3 e3 es4 e4 es5 e5 es6 p6 v7 e7 v8 e8 h8 => ?_)
  all_goals
    obtain ⟨a1, a2, a3⟩ := st v1 es2 es3 es4 es5 e1 e2 e3 e4 e5
    have m6 := p6.2.2.1
    have hs6 := mvB_sT a1 m6
    have f6 : fr frRa es es6 := fr_trans a2 (fr_sub (by decide) m6.1)
  · exact ra_loop (d := d) hW K 10 0 es6 (by omega) p6.2.1 f6 (by have := pT_bd p6.2.1; omega) (fun i hi => absurd hi (by omega))
  · exact K es6 0 ⟨p6.2.1, f6, ⟨by omega, by omega⟩, fun i hi => by omega⟩
end
/-- the heights out of the run -/
theorem rpn_pre {f : Nat → Int} : ∀ (n s : Nat) (H : Int), rpn f n s H ≠ none → ∀ i, i < n → ∃ H1 H2, rpn f i s H = some H1 ∧ stp (f (s + i)) H1 = some H2 ∧ rpn f (i + 1) s H = some H2 := by
  intro n s H hn i hi
  have h1 : rpn f i s H ≠ none := fun h => by
    apply hn
    rw [show n = i + (n - i) by omega, rpn_app, h]
  have h2 : rpn f (i + 1) s H ≠ none := fun h => by
    apply hn
    rw [show n = (i + 1) + (n - (i + 1)) by omega, rpn_app, h]
  cases h3 : rpn f i s H with
  | none => exact absurd h3 h1
  | some H1 =>
    cases h4 : stp (f (s + i)) H1 with
    | none =>
      exfalso
      apply h2
      rw [rpn_app, h3]
      simp only
      rw [rpn, h4]
    | some H2 =>
      refine ⟨H1, H2, rfl, h4, ?_⟩
      rw [rpn_app, h3]
      simp only
      rw [rpn, h4]
      rfl
theorem wfSeg_of {g : Nat → Int32} {f : Nat → Int} {a b : Nat} (hf : ∀ i, i < 400 → (g (484 + 2 * i)).toInt = f i) (hr : rpn f (b - a) a 0 ≠ none) : wfSeg g a b := by
  refine ⟨fun i => (rpn f (i - a) a 0).getD 0, ?_, fun i h1 h2 h4 => ?_⟩
  · show (rpn f (a - a) a 0).getD 0 = 0
    rw [Nat.sub_self]; rfl
  · obtain ⟨H1, H2, e1, e2, e3⟩ := rpn_pre (b - a) a 0 hr (i - a) (by omega)
    rw [show a + (i - a) = i by omega] at e2
    rw [show i - a + 1 = i + 1 - a by omega] at e3
    rw [hf i h4]
    simp only
    rw [e1, e3]
    simp only [Option.getD_some]
    unfold stp at e2
    split at e2
    · cases e2; left; omega
    · split at e2
      · split at e2
        · cases e2; right; left; omega
        · cases e2
      · split at e2
        · cases e2; right; right; omega
        · cases e2
theorem tS80_td : ∀ k, k < 841 → tS80 (443 + k) = tS80 (1284 + k) := by decide +kernel
section
variable {O : pOut} {d kc ks : Nat} {Q : pRes → Prop} {es : PH}
/-- the draft becomes the text -/
theorem me_copy {v : Int} (hT : hOK tT es) (K : ∀ es', hOK tT es' → fr [(80, 0, 443, 1284), (80, 0, 4, 5)] es es' → (∀ i, i < 841 → gA es' 80 (443 + i) = gA es 80 (1284 + i)) → Q (.inl (some (.int (zI v))), es', kc, ks)) :
    ∀ (j k : Nat) (es1 : PH), k + j = 841 → hOK tT es1 → fr [(80, 0, 443, 1284), (80, 0, 4, 5)] es es1 → (∀ i, i < k → gA es1 80 (443 + i) = gA es 80 (1284 + i)) → aW O d 195 kc ks Q (57, [some (.ref 143), some (.int (zI v)), some (.int (zI (k : Int)))], [], es1) := by
  have hs := sh_of hT
  intro j
  induction j with
  | zero =>
    intro k es1 hk hT1 hf1 hc
    refine s_me57 (sh_of hT1) ⟨by omega, by omega⟩ hT1 (fun _ es2 e2 => ?_) (fun h => by omega)
    have e2' : es2 = sA es1 80 4 (zI 1) := e2
    have hT2 : hOK tT es2 := by rw [e2']; exact hOK_sA hT1 (p := 80) (t := 0) (n := 2125) (sp := tS80) rfl (fun _ => by rw [show (zI 1).toInt = 1 from rfl]; exact ⟨by show (0 : Int) ≤ 1; omega, by show (1 : Int) ≤ 1; omega⟩)
    refine K es2 hT2 (by rw [e2']; exact fr_trans hf1 (fr_sA (mIn_yes (by simp only [mHq, true_and, and_true, false_and, and_false, or_false, false_or, not_false_eq_true, Nat.reduceEqDiff] <;> omega)))) (fun i hi => ?_)
    rw [e2', gA_sA (sh_of hT1) (p := 80) (t := 0) (n := 2125) (sp := tS80) rfl (by decide)]
    unfold upd
    rw [if_neg (by omega)]
    exact hc i (by omega)
  | succ j ih =>
    intro k es1 hk hT1 hf1 hc
    have e9 : ((k + 1 : Nat) : Int) = (k : Int) + 1 := by omega
    refine s_me57 (sh_of hT1) ⟨by omega, by omega⟩ hT1 (fun h => by omega) (fun _ v3 e3 es4 e4 => ?_)
    rw [show (1284 + (k : Int)).toNat = 1284 + k by omega] at e3
    rw [show (443 + (k : Int)).toNat = 443 + k by omega] at e4
    have hz : zI v3 = gA es1 80 (1284 + k) := by rw [e3, zI_id]
    rw [hz] at e4
    have hb := gA_bd hT1 (p := 80) (t := 0) (n := 2125) (sp := tS80) (k := 1284 + k) rfl (by omega) (by decide)
    have h12 : gA es1 80 (1284 + k) = gA es 80 (1284 + k) := fr_at hf1 hs (p := 80) (t := 0) (n := 2125) (sp := tS80) rfl (by decide) (by simp only [mHq, true_and, and_true, false_and, and_false, or_false, false_or, not_false_eq_true, Nat.reduceEqDiff] <;> omega)
    have := ih (k + 1) es4 (by omega) (by rw [e4]; exact hOK_sA hT1 (p := 80) (t := 0) (n := 2125) (sp := tS80) rfl (fun _ => by rw [tS80_td k (by omega)]; exact hb)) (by rw [e4]; exact fr_trans hf1 (fr_sA (mIn_yes (by simp only [mHq, true_and, and_true, false_and, and_false, or_false, false_or, not_false_eq_true, Nat.reduceEqDiff] <;> omega)))) (fun i hi => by
      rw [e4, gA_sA (sh_of hT1) (p := 80) (t := 0) (n := 2125) (sp := tS80) rfl (by decide)]
      unfold upd
      by_cases hik : i = k
      · rw [if_pos (by omega), hik]; exact h12
      · rw [if_neg (by omega)]; exact hc i (by omega))
    rw [e9] at this
    exact this
end
def frMs : List aMod := (79, 2, 0, 1) :: (79, 12, 0, 1) :: frRa
theorem hm_measure {O : pOut} (hW : wordsOK O) : conOK O gG gInv kc_379 := by
  refine ⟨_, rfl, fun d hd ρ vs es hE hC hS hT hI hF => ?_⟩
  obtain ⟨v0, s, rfl, g0, g1⟩ := gS_cons hS
  cases gS_nil g1
  cases arg_r g0
  have hd40 : 40 ≤ d := hd
  obtain ⟨d', rfl⟩ : ∃ d', d = d' + 29 := ⟨d - 29, by omega⟩
  have z : ∀ x : Int, (zI x).toInt = (zI x).toInt := fun _ => rfl
  refine s_me0 (d := d' + 29) (kc := 0) (ks := 0) (sh_of hT) hT (fun es1 e1 => ?_)
  have hT1 : hOK tT es1 := by rw [e1]; exact hOK_sI hT (p := 79) (b := 0) (lo := iLO) (hi := iHI) rfl rfl (i32_rng _)
  have f1 : fr frMs es es1 := by rw [e1]; exact fr_sI rfl
  refine x_call (vs := [.ref 143, .int (zI 0)]) (rs := []) i_195_7 rfl (fun _ => rfl) rfl rfl rfl rfl rfl (pCall_v (p := 79) (sh_of hT1) rfl rfl rfl rfl rfl (by decide) rfl rfl rfl rfl rfl) ?_
  show aW _ _ _ _ _ _ (0, [some (.ref 143), some (.int (zI 0)), none], [], es1)
  refine ral_spec (d := d') hW hT1 (fun es2 v p2 => ?_)
  show aW _ _ _ _ _ _ (10, [some (.ref 143), none, none], [.int (zI v)], es2)
  obtain ⟨hT2, f2, hv, hl⟩ := p2
  have f12 : fr frMs es es2 := fr_trans f1 (fr_sub (by decide) f2)
  refine s_me10 (d := d' + 28) (sh_of hT2) hv hT2 (fun hv0 es3 e3 es4 e4 => ?_) (fun hv0 v4 e4 es5 e5 es6 e6 => ?_)
  · have hT3 : hOK tT es3 := by rw [e3]; exact hOK_sI hT2 (p := 79) (b := 10) (lo := iLO) (hi := iHI) rfl rfl (i32_rng _)
    have e4' : es4 = sA es3 80 1284 (zI v) := e4
    have zv : (zI v).toInt = v := zI_toInt (by unfold i32 iLO iHI; omega)
    have hT4 : hOK tT es4 := by rw [e4']; exact hOK_sA hT3 (p := 80) (t := 0) (n := 2125) (sp := tS80) rfl (fun _ => by rw [zv]; exact ⟨by show (0 : Int) ≤ v; omega, by show v ≤ (10 : Int); omega⟩)
    have f3 : fr frMs es es3 := fr_trans f12 (by rw [e3]; exact fr_sI rfl)
    have g4 : ∀ i, i ≠ 1284 → gA es4 80 i = gA es2 80 i := fun i hi => by
      rw [e4', gA_sA (sh_of hT3) (p := 80) (t := 0) (n := 2125) (sp := tS80) rfl (by decide)]
      unfold upd
      rw [if_neg hi, e3, gA_sI]
    have g44 : gA es4 80 1284 = zI v := by
      rw [e4', gA_sA (sh_of hT3) (p := 80) (t := 0) (n := 2125) (sp := tS80) rfl (by decide)]
      unfold upd
      rw [if_pos rfl]
    refine me_copy (d := d' + 29) hT4 (fun es5 hT5 f5 hc => ?_) 841 0 es4 (by omega) hT4 (fr_refl _ _) (fun i hi => absurd hi (by omega))
    have f15 : fr kc_379.2.2.2.2.2.1 es es5 := by
      refine fr_trans (fr_sub (by decide) f3) (fr_trans (by rw [e4']; exact fr_sA rfl) (fr_sub (by decide) f5))
    have hlen := hOK_len hT
    have same : ∀ p i, (p = 80 ∧ (i = 0 ∨ (13 ≤ i ∧ i < 49))) ∨ p = 81 → gA es5 p i = gA es p i := by
      intro p i hp
      refine fr_cell f15 (by omega) ?_
      rcases hp with ⟨rfl, h⟩ | rfl
      · refine mIn_no ?_
        show ¬ mHq [(79, 2, 0, 1), (79, 9, 0, 1), (79, 7, 0, 1), (79, 8, 0, 1), (79, 14, 0, 1), (79, 10, 0, 1), (79, 11, 0, 1), (79, 12, 0, 1), (80, 0, 443, 2125), (80, 0, 4, 5)] 80 0 i
        simp only [mHq, true_and, and_true, false_and, and_false, or_false, false_or, not_false_eq_true, Nat.reduceEqDiff] <;> omega
      · refine mIn_no ?_
        show ¬ mHq [(79, 2, 0, 1), (79, 9, 0, 1), (79, 7, 0, 1), (79, 8, 0, 1), (79, 14, 0, 1), (79, 10, 0, 1), (79, 11, 0, 1), (79, 12, 0, 1), (80, 0, 443, 2125), (80, 0, 4, 5)] 81 0 i
        simp only [mHq, true_and, and_true, false_and, and_false, or_false, false_or, not_false_eq_true, Nat.reduceEqDiff] <;> omega
    obtain ⟨w1, w2, w3, w4, w5⟩ := hI
    have hI5 : gInv es5 := by
      refine ⟨Nat.le_trans w1 f15.1, ?_, wfT_congr (fun i h1 h2 => same 81 i (Or.inr rfl)) w3, kcs_congr (same 80 0 (Or.inl ⟨rfl, Or.inl rfl⟩)) (fun i h1 h2 => same 80 i (Or.inl ⟨rfl, Or.inr ⟨h1, h2⟩⟩)) w4, kci_congr (fr_field f15 (by omega) (by decide)) (fun w6 => kcs_congr (same 81 0 (Or.inr rfl)) (fun i h1 h2 => same 81 i (Or.inr rfl)) w6) w5⟩
      intro n hn hnl
      have c0 := hc 0 (by omega)
      rw [show 443 + 0 = 443 from rfl, show 1284 + 0 = 1284 from rfl, g44] at c0
      rw [c0, zv] at hnl
      obtain ⟨a, b, h1, h2, h3, h4, h5⟩ := hl n hnl
      have ca := hc (1 + 4 * n + 2) (by omega)
      have cb := hc (1 + 4 * n + 3) (by omega)
      rw [g4 _ (by omega), show 1284 + (1 + 4 * n + 2) = 1285 + 4 * n + 2 by omega, show 443 + (1 + 4 * n + 2) = 444 + 4 * n + 2 by omega] at ca
      rw [g4 _ (by omega), show 1284 + (1 + 4 * n + 3) = 1285 + 4 * n + 3 by omega, show 443 + (1 + 4 * n + 3) = 444 + 4 * n + 3 by omega] at cb
      rw [ca, cb, h1, h2, Int.toNat_natCast, Int.toNat_natCast]
      refine wfSeg_of (f := opD es2) (fun i hi => ?_) h5
      have ci := hc (41 + 2 * i) (by omega)
      rw [g4 _ (by omega), show 1284 + (41 + 2 * i) = 1325 + 2 * i by omega, show 443 + (41 + 2 * i) = 484 + 2 * i by omega] at ci
      rw [ci]
      rfl
    exact post_int (c := kc_379) (lo := iLO) (hi := iHI) hE hT5 hI5 f15 List.mem_cons_self (by unfold i32 iLO iHI; omega) (by unfold iLO; omega) (by unfold iHI; omega) (Nat.le_refl _) (Nat.le_refl _)
  · have hT5 : hOK tT es5 := by rw [e5]; exact hOK_sI hT2 (p := 79) (b := 10) (lo := iLO) (hi := iHI) rfl rfl (i32_rng _)
    have hT6 : hOK tT es6 := by rw [e6]; exact hOK_sI hT5 (p := 79) (b := 0) (lo := iLO) (hi := iHI) rfl rfl (i32_rng _)
    have f6 : fr frMs es es6 := by rw [e6, e5]; exact fr_trans f12 (fr_trans (fr_sI rfl) (fr_sI rfl))
    have hI6 : gInv es6 := gInv_cells f6.1 (fr_field f6 (by have := hOK_len hT; omega) (by decide)) (fun p i hp hi => fr_cell f6 (by have := hOK_len hT; omega) (by
      refine mIn_no ?_
      rcases hp with rfl | rfl
      · simp only [frMs, frRa, mHq, true_and, and_true, false_and, and_false, or_false, false_or, not_false_eq_true, Nat.reduceEqDiff] <;> omega
      · simp only [frMs, frRa, mHq, true_and, and_true, false_and, and_false, or_false, false_or, not_false_eq_true, Nat.reduceEqDiff] <;> omega)) hI
    exact post_int (c := kc_379) (lo := iLO) (hi := iHI) hE hT6 hI6 (fr_sub (by decide) f6) List.mem_cons_self (by unfold i32 iLO iHI; omega) (by unfold iLO; omega) (by unfold iHI; omega) (Nat.le_refl _) (Nat.le_refl _)
