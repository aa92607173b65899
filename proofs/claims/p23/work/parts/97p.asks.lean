/-! laysAll's contract -/
theorem fact_fld {O : pOut} {ρ : List Int} {es : PH} {p b : Nat} {f g : aF} (h : gF1 O ρ es (p, b + 2, g, f)) : evF ρ f = some (gI es p b).toInt := by
  obtain ⟨c, vs, x, h1, h2, h3⟩ := h
  rw [h3]
  unfold gI gFd
  simp only at h1
  rw [h1]
  simp only [List.getD_eq_getElem?_getD, h2, Option.getD_some]
theorem fld_fact {O : pOut} {ρ : List Int} {es : PH} (hs : sh es) {p b c : Nat} {ss : List tS} {lo hi : Int} {f g : aF} (hp : tT[p]? = some (.inr (c, ss))) (hb : ss[b]? = some (0, lo, hi)) (h : evF ρ f = some (gI es p b).toInt) : gF1 O ρ es (p, b + 2, g, f) := by
  obtain ⟨vs, h1, h2⟩ := sh_int hs hp hb
  exact ⟨c, vs, gI es p b, h1, h2, h⟩
theorem hm_laysAll {O : pOut} (h365 : conOK O gG gInv kc_365) : conOK O gG gInv kc_340 := by
  refine ⟨_, rfl, fun d hd ρ vs es hE hC hS hT hI hF => ?_⟩
  obtain ⟨v0, v1, rfl, g0, g1⟩ := gS2 hS
  cases arg_r g0
  obtain ⟨pr, rfl, i1, x1, l1, u1⟩ := arg_i hE g1
  have hp : 0 ≤ pr ∧ pr ≤ 22 := ⟨l1, u1⟩
  have f27 := fact_fld (hF (79, 29, (Int.ofNat 0, []), (Int.ofNat 0, [(Int.ofNat 1, 1)])) List.mem_cons_self)
  have f29 := fact_fld (hF (79, 31, (Int.ofNat 0, []), (Int.ofNat 0, [])) (List.mem_cons_of_mem _ List.mem_cons_self))
  have hq0 := hE.2 1 _ (evV f27)
  have hq : 0 ≤ (gI es 79 27).toInt ∧ (gI es 79 27).toInt ≤ 8000 := hq0
  have hn : (gI es 79 29).toInt = 0 := fC_val (f := (Int.ofNat 0, [])) rfl f29
  have hd10 : 10 ≤ d := hd
  obtain ⟨d', rfl⟩ : ∃ d', d = d' + 7 := ⟨d - 7, by omega⟩
  refine laysAll_spec (d := d') (kc := 0) (ks := 0) h365 hT hI hp hq hn (fun es' h => ?_)
  have hb := h.1
  have hI' : gInv es' := gInv_keep hb.hf (by decide) hT hI
  have hs' := sh_of hb.hT
  have hb29 : 0 ≤ (gI es' 79 29).toInt ∧ (gI es' 79 29).toInt ≤ 1 := gI_bd hb.hT (p := 79) (b := 29) rfl rfl
  by_cases h0 : (gI es' 79 29).toInt = 0
  · have hpos := hb.pos
    have hsp := hb.spent h0
    obtain ⟨a1, a2⟩ := aNew_ok hE (l := 0) (r := 8000) (v := (gI es' 79 27).toInt) ⟨by omega, by omega⟩
    refine ⟨hb.hT, hI', hb.hf, _, List.mem_cons_of_mem _ List.mem_cons_self, [(gI es' 79 27).toInt], a1, (fun f hf => by cases hf), fun t ht => ?_, Nat.le_refl _, Nat.le_refl _, rfl⟩
    rcases List.mem_cons.mp ht with rfl | ht
    · exact fld_fact hs' (p := 79) (b := 29) rfl rfl (by rw [h0]; exact fC_ev (c := 0))
    · rcases List.mem_cons.mp ht with rfl | ht
      · exact fld_fact hs' (p := 79) (b := 27) rfl rfl a2
      · cases ht
  · refine ⟨hb.hT, hI', hb.hf, _, List.mem_cons_self, [], by rw [List.append_nil]; exact hE, (fun f hf => by cases hf), fun t ht => ?_, Nat.le_refl _, Nat.le_refl _, rfl⟩
    rcases List.mem_cons.mp ht with rfl | ht
    · exact fld_fact hs' (p := 79) (b := 29) rfl rfl (by rw [show (gI es' 79 29).toInt = 1 by omega]; exact fC_ev (c := 1))
    · cases ht
/-! asksAll, asks, asksWhole -/
def laP (p : Int) (es es' : PH) : Prop := sh es' ∧ hOK tT es' ∧ LAP (evE es) p es es'
def asksN (es es' : PH) : Prop := sh es' ∧ hOK tT es' ∧ fr [(79, 20, 0, 1), (89, 0, 0, 3), (90, 0, 0, 8)] es es' ∧ ∀ b, b < cW (gA es 80) → akB es' b
def frAs : List aMod := [(79, 27, 0, 1), (79, 28, 0, 1), (79, 29, 0, 1), (79, 30, 0, 1), (79, 31, 0, 1), (79, 32, 0, 1), (79, 37, 0, 1), (79, 39, 0, 1), (79, 43, 0, 1), (79, 44, 0, 1), (79, 45, 0, 1), (79, 46, 0, 1), (91, 0, 0, 31), (92, 0, 0, 2232), (93, 0, 0, 2232), (94, 0, 0, 2325), (95, 0, 0, 31), (96, 0, 0, 24), (97, 0, 0, 24), (98, 0, 0, 30), (99, 0, 0, 30), (100, 0, 0, 30), (101, 0, 0, 31), (85, 0, 0, 6), (86, 0, 0, 400), (87, 0, 0, 1116), (88, 0, 0, 40176)]
/-- nothing below p is met -/
def noBelow (E : Ev) (v : Int) : Prop := ∀ p : Int, 0 ≤ p → p < v → ∀ Pt L, L ≤ 30 → rchE E Pt L → ¬ metE E p Pt L
def asP (es es' : PH) (v : Int) : Prop := sh es' ∧ hOK tT es' ∧ fr frAs es es' ∧ (v = -2 ∨ v = -1 ∨ (0 ≤ v ∧ v ≤ 20 ∧ (gI es' 79 29).toInt = 0 ∧ (0 ≤ (gI es' 79 27).toInt ∧ (gI es' 79 27).toInt ≤ 8000) ∧ FST (evE es') v es' ∧ noBelow (evE es') v)) ∧ (∀ b, akB es' b ↔ akB es b) ∧ (gI es' 79 30).toInt = 0
section
variable {O : pOut} {d kc ks : Nat} {Q : pRes → Prop} {es : PH}
theorem laysAll_T {p : Int} (hs : sh es) (hT : hOK tT es) (h365 : conOK O gG gInv kc_365) (hI : gInv es) (hp : 0 ≤ p ∧ p ≤ 22) (hq : 0 ≤ (gI es 79 27).toInt ∧ (gI es 79 27).toInt ≤ 8000) (hn : (gI es 79 29).toInt = 0) (K : ∀ es', laP p es es' → Q (.inl none, es', kc, ks)) :
    aW O (d + 7) 233 kc ks Q (0, [some (.ref 143), some (.int (zI p)), none, none, none, none], [], es) :=
  laysAll_spec h365 hT hI hp hq hn (fun es' h => K es' ⟨sh_of h.1.hT, h.1.hT, h⟩)
end
theorem s_aa0 {O : pOut} {d kc ks : Nat} {Q : pRes → Prop} {es : PH} (hs_es : sh es) (hT_es : hOK tT es)
    (K1 : ∀ v1 : Int, v1 = (gA es 80 (Int.toNat 1)).toInt → ∀ v2 : Int, v2 = (zI 1 <<< (zI v1 &&& 31)).toInt → ∀ es3 : PH, es3 = sI es 79 18 (.int (zI (v2 - 1))) → aW O d 231 kc ks Q (16, [some (.ref 143), some (.int (zI 0))], [], es3)) :
    aW O d 231 kc ks Q (0, [some (.ref 143), none], [], es) := by
  refine x0 (r := (1, [some (.ref 143), none], [.ref 143], es)) i_231_0 rfl ?_
  refine x0 (r := (2, [some (.ref 143), none], [.int (zI 1), .ref 143], es)) i_231_1 (by rfl) ?_
  refine x0 (r := (3, [some (.ref 143), none], [.ref 143, .int (zI 1), .ref 143], es)) i_231_2 rfl ?_
  refine x_getr (p := 79) (k := 144) i_231_3 hs_es rfl rfl ?_
  show aW _ _ _ _ _ _ (6, [some (.ref 143), none], [.ref 144, .int (zI 1), .ref 143], es)
  refine x0 (r := (7, [some (.ref 143), none], [.int (zI 1), .ref 144, .int (zI 1), .ref 143], es)) i_231_6 (by rfl) ?_
  refine x_iald (p := 80) i_231_7 hs_es rfl (by unfold i32 iLO iHI; omega) (by omega) (by omega) ?_
  obtain ⟨v1, e_v1⟩ : ∃ z : Int, z = (gA es 80 (Int.toNat 1)).toInt := ⟨_, rfl⟩
  rw [← e_v1]
  have r_v1 : iLO ≤ v1 ∧ v1 ≤ iHI := by rw [e_v1]; exact i32_rng _
  unfold iLO iHI at r_v1
  have b_v1 : (0 : Int) ≤ v1 ∧ v1 ≤ (3 : Int) := by rw [e_v1]; exact gA_bd hT_es (p := 80) (k := (Int.toNat 1)) rfl (by omega) (by decide)
  refine x_op i_231_8 (w := (zI 1 <<< (zI v1 &&& 31))) rfl rfl ?_
  obtain ⟨v2, e_v2⟩ : ∃ z : Int, z = (zI 1 <<< (zI v1 &&& 31)).toInt := ⟨_, rfl⟩
  rw [← e_v2]
  have r_v2 : iLO ≤ v2 ∧ v2 ≤ iHI := by rw [e_v2]; exact i32_rng _
  unfold iLO iHI at r_v2
  refine x0 (r := (10, [some (.ref 143), none], [.int (zI 1), .int (zI v2), .ref 143], es)) i_231_9 (by rfl) ?_
  refine x_isub i_231_10 ?_
  refine x_puti (p := 79) (ty := .int) i_231_11 hs_es rfl rfl rfl (Or.inl rfl) ?_
  obtain ⟨es3, e_es3⟩ : ∃ z : PH, z = sI es 79 18 (.int (zI (v2 - 1))) := ⟨_, rfl⟩
  have hs_es3 : sh es3 := by rw [e_es3]; exact sh_sI hs_es (p := 79) (b := 18) rfl rfl
  have hT_es3 : hOK tT es3 := by rw [e_es3]; exact hOK_sI hT_es (p := 79) (b := 18) (lo := iLO) (hi := iHI) rfl rfl (i32_rng _)
  rw [← e_es3]
  refine x0 (r := (15, [some (.ref 143), none], [.int (zI 0)], es3)) i_231_14 (by rfl) ?_
  refine x0 (r := (16, [some (.ref 143), some (.int (zI 0))], [], es3)) i_231_15 rfl ?_
  exact K1 v1 e_v1 v2 e_v2 es3 e_es3

theorem s_aa16 {O : pOut} {d kc ks : Nat} {Q : pRes → Prop} {es : PH} {b : Int} (hs_es : sh es) (hb : 0 ≤ b ∧ b ≤ 3) (hw : b ≤ 2 → 0 ≤ (gA es 80 ((119 + (98 * b)) + 0).toNat).toInt ∧ (gA es 80 ((119 + (98 * b)) + 0).toNat).toInt ≤ 1) (hT_es : hOK tT es)
    (K1 : ∀ v1 : Int, v1 = (gA es 80 (Int.toNat 1)).toInt → v1 ≤ b → aW O (d + 1) 231 kc ks Q (46, [some (.ref 143), some (.int (zI 0))], [], es))
    (K2 : ∀ v1 : Int, v1 = (gA es 80 (Int.toNat 1)).toInt → ¬ (v1 ≤ b) → ∀ v3 : Int, v3 = (gA es 80 ((119 + (98 * b)) + 0).toNat).toInt → ∀ es4 : PH, es4 = sA es 89 b.toNat (zI v3) → aW O (d + 1) 231 kc ks Q (16, [some (.ref 143), some (.int (zI (b + 1)))], [], es4)) :
    aW O (d + 1) 231 kc ks Q (16, [some (.ref 143), some (.int (zI b))], [], es) := by
  refine x0 (r := (17, [some (.ref 143), some (.int (zI b))], [.int (zI b)], es)) i_231_16 rfl ?_
  refine x0 (r := (18, [some (.ref 143), some (.int (zI b))], [.ref 143, .int (zI b)], es)) i_231_17 rfl ?_
  refine x_getr (p := 79) (k := 144) i_231_18 hs_es rfl rfl ?_
  show aW _ _ _ _ _ _ (21, [some (.ref 143), some (.int (zI b))], [.ref 144, .int (zI b)], es)
  refine x0 (r := (22, [some (.ref 143), some (.int (zI b))], [.int (zI 1), .ref 144, .int (zI b)], es)) i_231_21 (by rfl) ?_
  refine x_iald (p := 80) i_231_22 hs_es rfl (by unfold i32 iLO iHI; omega) (by omega) (by omega) ?_
  obtain ⟨v1, e_v1⟩ : ∃ z : Int, z = (gA es 80 (Int.toNat 1)).toInt := ⟨_, rfl⟩
  rw [← e_v1]
  have r_v1 : iLO ≤ v1 ∧ v1 ≤ iHI := by rw [e_v1]; exact i32_rng _
  unfold iLO iHI at r_v1
  have b_v1 : (0 : Int) ≤ v1 ∧ v1 ≤ (3 : Int) := by rw [e_v1]; exact gA_bd hT_es (p := 80) (k := (Int.toNat 1)) rfl (by omega) (by decide)
  by_cases c2 : v1 ≤ b
  · refine x_cmpT i_231_23 (by unfold i32 iLO iHI; omega) (by unfold i32 iLO iHI; omega) rfl (by simp only [zC, cR]; omega) ?_
    refine x0 (r := (45, [some (.ref 143), some (.int (zI b))], [.int (zI 0)], es)) i_231_44 (by rfl) ?_
    refine x0 (r := (46, [some (.ref 143), some (.int (zI 0))], [], es)) i_231_45 rfl ?_
    exact K1 v1 e_v1 c2
  · refine x_cmpF i_231_23 (by unfold i32 iLO iHI; omega) (by unfold i32 iLO iHI; omega) rfl (by simp only [zC, cR]; omega) ?_
    refine x0 (r := (27, [some (.ref 143), some (.int (zI b))], [.ref 143], es)) i_231_26 rfl ?_
    refine x_getr (p := 79) (k := 153) i_231_27 hs_es rfl rfl ?_
    show aW _ _ _ _ _ _ (30, [some (.ref 143), some (.int (zI b))], [.ref 153], es)
    refine x0 (r := (31, [some (.ref 143), some (.int (zI b))], [.int (zI b), .ref 153], es)) i_231_30 rfl ?_
    refine x0 (r := (32, [some (.ref 143), some (.int (zI b))], [.ref 143, .int (zI b), .ref 153], es)) i_231_31 rfl ?_
    refine x0 (r := (33, [some (.ref 143), some (.int (zI b))], [.int (zI b), .ref 143, .int (zI b), .ref 153], es)) i_231_32 rfl ?_
    refine x0 (r := (34, [some (.ref 143), some (.int (zI b))], [.int (zI 0), .int (zI b), .ref 143, .int (zI b), .ref 153], es)) i_231_33 (by rfl) ?_
    refine x_call (vs := [.ref 143, .int (zI b), .int (zI 0)]) (rs := [.int (zI b), .ref 153]) i_231_34 rfl (fun _ => rfl) rfl rfl rfl rfl rfl (pCall_v (p := 79) hs_es rfl rfl rfl rfl rfl (by decide) rfl rfl rfl rfl rfl) ?_
    show aW _ _ _ _ _ _ (0, [some (.ref 143), some (.int (zI b)), some (.int (zI 0))], [], es)
    refine x0 (r := (1, [some (.ref 143), some (.int (zI b)), some (.int (zI 0))], [.ref 143], es)) i_206_0 rfl ?_
    refine x_getr (p := 79) (k := 144) i_206_1 hs_es rfl rfl ?_
    show aW _ _ _ _ _ _ (4, [some (.ref 143), some (.int (zI b)), some (.int (zI 0))], [.ref 144], es)
    refine x0 (r := (6, [some (.ref 143), some (.int (zI b)), some (.int (zI 0))], [.int (zI 119), .ref 144], es)) i_206_4 (by rfl) ?_
    refine x0 (r := (8, [some (.ref 143), some (.int (zI b)), some (.int (zI 0))], [.int (zI 98), .int (zI 119), .ref 144], es)) i_206_6 (by rfl) ?_
    refine x0 (r := (9, [some (.ref 143), some (.int (zI b)), some (.int (zI 0))], [.int (zI b), .int (zI 98), .int (zI 119), .ref 144], es)) i_206_8 rfl ?_
    refine x_imul i_206_9 ?_
    refine x_iadd i_206_10 ?_
    refine x0 (r := (12, [some (.ref 143), some (.int (zI b)), some (.int (zI 0))], [.int (zI 0), .int (zI (119 + (98 * b))), .ref 144], es)) i_206_11 rfl ?_
    refine x_iadd i_206_12 ?_
    refine x_iald (p := 80) i_206_13 hs_es rfl (by unfold i32 iLO iHI; omega) (by omega) (by omega) ?_
    obtain ⟨v3, e_v3⟩ : ∃ z : Int, z = (gA es 80 ((119 + (98 * b)) + 0).toNat).toInt := ⟨_, rfl⟩
    rw [← e_v3]
    have r_v3 : iLO ≤ v3 ∧ v3 ≤ iHI := by rw [e_v3]; exact i32_rng _
    unfold iLO iHI at r_v3
    refine x_ret (v := some (.int (zI v3))) i_206_14 rfl (fun _ => rfl) rfl rfl rfl ?_
    show aW _ _ _ _ _ _ (37, [some (.ref 143), some (.int (zI b))], [.int (zI v3), .int (zI b), .ref 153], es)
    refine x_iast (p := 89) i_231_37 hs_es rfl (by unfold i32 iLO iHI; omega) (by omega) (by omega) ?_
    obtain ⟨es4, e_es4⟩ : ∃ z : PH, z = sA es 89 b.toNat (zI v3) := ⟨_, rfl⟩
    have hs_es4 : sh es4 := by rw [e_es4]; exact sh_sA hs_es
    have hT_es4 : hOK tT es4 := by rw [e_es4]; exact hOK_sA hT_es (p := 89) (n := 3) rfl (fun _ => by rw [zI_toInt (by unfold i32 iLO iHI; omega)]; exact ⟨by show (0 : Int) ≤ v3; omega, by show v3 ≤ (1 : Int); omega⟩)
    rw [← e_es4]
    refine x_iinc (x := b) i_231_38 rfl (by show 1 < 2; decide) ?_
    show aW _ _ _ _ _ _ (41, [some (.ref 143), some (.int (zI (b + 1)))], [], es4)
    refine x0 (r := (16, [some (.ref 143), some (.int (zI (b + 1)))], [], es4)) i_231_41 rfl ?_
    exact K2 v1 e_v1 c2 v3 e_v3 es4 e_es4

theorem s_aa46 {O : pOut} {d kc ks : Nat} {Q : pRes → Prop} {es : PH} {b : Int} (hs_es : sh es) (hb : 0 ≤ b ∧ b ≤ 8) (hw : b ≤ 7 → 0 ≤ (gA es 80 (5 + b).toNat).toInt ∧ (gA es 80 (5 + b).toNat).toInt ≤ 9) (hT_es : hOK tT es)
    (K1 : 8 ≤ b → Q (.inl (none), es, kc, ks))
    (K2 : ¬ (8 ≤ b) → ∀ v2 : Int, v2 = (gA es 80 (5 + b).toNat).toInt → ∀ es3 : PH, es3 = sA es 90 b.toNat (zI v2) → aW O d 231 kc ks Q (46, [some (.ref 143), some (.int (zI (b + 1)))], [], es3)) :
    aW O d 231 kc ks Q (46, [some (.ref 143), some (.int (zI b))], [], es) := by
  refine x0 (r := (47, [some (.ref 143), some (.int (zI b))], [.int (zI b)], es)) i_231_46 rfl ?_
  refine x0 (r := (49, [some (.ref 143), some (.int (zI b))], [.int (zI 8), .int (zI b)], es)) i_231_47 (by rfl) ?_
  by_cases c1 : 8 ≤ b
  · refine x_cmpT i_231_49 (by unfold i32 iLO iHI; omega) (by unfold i32 iLO iHI; omega) rfl (by simp only [zC, cR]; omega) ?_
    refine x_ret (v := none) i_231_72 rfl (fun _ => rfl) rfl rfl rfl ?_
    exact K1 c1
  · refine x_cmpF i_231_49 (by unfold i32 iLO iHI; omega) (by unfold i32 iLO iHI; omega) rfl (by simp only [zC, cR]; omega) ?_
    refine x0 (r := (53, [some (.ref 143), some (.int (zI b))], [.ref 143], es)) i_231_52 rfl ?_
    refine x_getr (p := 79) (k := 154) i_231_53 hs_es rfl rfl ?_
    show aW _ _ _ _ _ _ (56, [some (.ref 143), some (.int (zI b))], [.ref 154], es)
    refine x0 (r := (57, [some (.ref 143), some (.int (zI b))], [.int (zI b), .ref 154], es)) i_231_56 rfl ?_
    refine x0 (r := (58, [some (.ref 143), some (.int (zI b))], [.ref 143, .int (zI b), .ref 154], es)) i_231_57 rfl ?_
    refine x_getr (p := 79) (k := 144) i_231_58 hs_es rfl rfl ?_
    show aW _ _ _ _ _ _ (61, [some (.ref 143), some (.int (zI b))], [.ref 144, .int (zI b), .ref 154], es)
    refine x0 (r := (62, [some (.ref 143), some (.int (zI b))], [.int (zI 5), .ref 144, .int (zI b), .ref 154], es)) i_231_61 (by rfl) ?_
    refine x0 (r := (63, [some (.ref 143), some (.int (zI b))], [.int (zI b), .int (zI 5), .ref 144, .int (zI b), .ref 154], es)) i_231_62 rfl ?_
    refine x_iadd i_231_63 ?_
    refine x_iald (p := 80) i_231_64 hs_es rfl (by unfold i32 iLO iHI; omega) (by omega) (by omega) ?_
    obtain ⟨v2, e_v2⟩ : ∃ z : Int, z = (gA es 80 (5 + b).toNat).toInt := ⟨_, rfl⟩
    rw [← e_v2]
    have r_v2 : iLO ≤ v2 ∧ v2 ≤ iHI := by rw [e_v2]; exact i32_rng _
    unfold iLO iHI at r_v2
    refine x_iast (p := 90) i_231_65 hs_es rfl (by unfold i32 iLO iHI; omega) (by omega) (by omega) ?_
    obtain ⟨es3, e_es3⟩ : ∃ z : PH, z = sA es 90 b.toNat (zI v2) := ⟨_, rfl⟩
    have hs_es3 : sh es3 := by rw [e_es3]; exact sh_sA hs_es
    have hT_es3 : hOK tT es3 := by rw [e_es3]; exact hOK_sA hT_es (p := 90) (n := 8) rfl (fun _ => by rw [zI_toInt (by unfold i32 iLO iHI; omega)]; exact ⟨by show (0 : Int) ≤ v2; omega, by show v2 ≤ (9 : Int); omega⟩)
    rw [← e_es3]
    refine x_iinc (x := b) i_231_66 rfl (by show 1 < 2; decide) ?_
    show aW _ _ _ _ _ _ (69, [some (.ref 143), some (.int (zI (b + 1)))], [], es3)
    refine x0 (r := (46, [some (.ref 143), some (.int (zI (b + 1)))], [], es3)) i_231_69 rfl ?_
    exact K2 c1 v2 e_v2 es3 e_es3

theorem s_ask0 {O : pOut} {d kc ks : Nat} {Q : pRes → Prop} {es : PH} (hs_es : sh es) (hT_es : hOK tT es)
    (K1 : ∀ es1 : PH, es1 = sI es 79 27 (.int (zI 0)) → ∀ es2 : PH, es2 = sI es1 79 29 (.int (zI 0)) → ∀ es3 : PH, es3 = sI es2 79 30 (.int (zI 0)) → ∀ es4 : PH, es4 = sI es3 79 35 (.int (zI 30)) → aW O d 232 kc ks Q (23, [some (.ref 143), some (.int (zI 0))], [], es4)) :
    aW O d 232 kc ks Q (0, [some (.ref 143), none], [], es) := by
  refine x0 (r := (1, [some (.ref 143), none], [.ref 143], es)) i_232_0 rfl ?_
  refine x0 (r := (2, [some (.ref 143), none], [.int (zI 0), .ref 143], es)) i_232_1 (by rfl) ?_
  refine x_puti (p := 79) (ty := .int) i_232_2 hs_es rfl rfl rfl (Or.inl rfl) ?_
  obtain ⟨es1, e_es1⟩ : ∃ z : PH, z = sI es 79 27 (.int (zI 0)) := ⟨_, rfl⟩
  have hs_es1 : sh es1 := by rw [e_es1]; exact sh_sI hs_es (p := 79) (b := 27) rfl rfl
  have hT_es1 : hOK tT es1 := by rw [e_es1]; exact hOK_sI hT_es (p := 79) (b := 27) (lo := iLO) (hi := iHI) rfl rfl (i32_rng _)
  rw [← e_es1]
  refine x0 (r := (6, [some (.ref 143), none], [.ref 143], es1)) i_232_5 rfl ?_
  refine x0 (r := (7, [some (.ref 143), none], [.int (zI 0), .ref 143], es1)) i_232_6 (by rfl) ?_
  refine x_puti (p := 79) (ty := .boolean) i_232_7 hs_es1 rfl rfl rfl (Or.inr ⟨rfl, by omega⟩) ?_
  obtain ⟨es2, e_es2⟩ : ∃ z : PH, z = sI es1 79 29 (.int (zI 0)) := ⟨_, rfl⟩
  have hs_es2 : sh es2 := by rw [e_es2]; exact sh_sI hs_es1 (p := 79) (b := 29) rfl rfl
  have hT_es2 : hOK tT es2 := by rw [e_es2]; exact hOK_sI hT_es1 (p := 79) (b := 29) rfl rfl (by rw [zI_toInt (by unfold i32 iLO iHI; omega)]; exact ⟨by show (0 : Int) ≤ 0; omega, by show 0 ≤ (1 : Int); omega⟩)
  rw [← e_es2]
  refine x0 (r := (11, [some (.ref 143), none], [.ref 143], es2)) i_232_10 rfl ?_
  refine x0 (r := (12, [some (.ref 143), none], [.int (zI 0), .ref 143], es2)) i_232_11 (by rfl) ?_
  refine x_puti (p := 79) (ty := .boolean) i_232_12 hs_es2 rfl rfl rfl (Or.inr ⟨rfl, by omega⟩) ?_
  obtain ⟨es3, e_es3⟩ : ∃ z : PH, z = sI es2 79 30 (.int (zI 0)) := ⟨_, rfl⟩
  have hs_es3 : sh es3 := by rw [e_es3]; exact sh_sI hs_es2 (p := 79) (b := 30) rfl rfl
  have hT_es3 : hOK tT es3 := by rw [e_es3]; exact hOK_sI hT_es2 (p := 79) (b := 30) rfl rfl (by rw [zI_toInt (by unfold i32 iLO iHI; omega)]; exact ⟨by show (0 : Int) ≤ 0; omega, by show 0 ≤ (1 : Int); omega⟩)
  rw [← e_es3]
  refine x0 (r := (16, [some (.ref 143), none], [.ref 143], es3)) i_232_15 rfl ?_
  refine x0 (r := (18, [some (.ref 143), none], [.int (zI 30), .ref 143], es3)) i_232_16 (by rfl) ?_
  refine x_puti (p := 79) (ty := .int) i_232_18 hs_es3 rfl rfl rfl (Or.inl rfl) ?_
  obtain ⟨es4, e_es4⟩ : ∃ z : PH, z = sI es3 79 35 (.int (zI 30)) := ⟨_, rfl⟩
  have hs_es4 : sh es4 := by rw [e_es4]; exact sh_sI hs_es3 (p := 79) (b := 35) rfl rfl
  have hT_es4 : hOK tT es4 := by rw [e_es4]; exact hOK_sI hT_es3 (p := 79) (b := 35) rfl rfl (by rw [zI_toInt (by unfold i32 iLO iHI; omega)]; exact ⟨by show (0 : Int) ≤ 30; omega, by show 30 ≤ (2147483647 : Int); omega⟩)
  rw [← e_es4]
  refine x0 (r := (22, [some (.ref 143), none], [.int (zI 0)], es4)) i_232_21 (by rfl) ?_
  refine x0 (r := (23, [some (.ref 143), some (.int (zI 0))], [], es4)) i_232_22 rfl ?_
  exact K1 es1 e_es1 es2 e_es2 es3 e_es3 es4 e_es4

theorem s_ask23 {O : pOut} {d kc ks : Nat} {Q : pRes → Prop} {es : PH} {p : Int} (hs_es : sh es) (hp : 0 ≤ p ∧ p ≤ 21) (h365 : conOK O gG gInv kc_365) (hI : gInv es) (hq : 0 ≤ (gI es 79 27).toInt ∧ (gI es 79 27).toInt ≤ 8000) (hn : (gI es 79 29).toInt = 0) (hT_es : hOK tT es)
    (K1 : 20 < p → Q (.inl (some (.int (zI (-1)))), es, kc, ks))
    (K2 : ¬ (20 < p) → ∀ es2 : PH, laP p es es2 → ∀ v3 : Int, v3 = (gI es2 79 29).toInt → v3 = 0 → ∀ v5 : Int, v5 = (gI es2 79 37).toInt → v5 ≤ 0 → aW O (d + 8) 232 kc ks Q (23, [some (.ref 143), some (.int (zI (p + 1)))], [], es2))
    (K3 : ¬ (20 < p) → ∀ es2 : PH, laP p es es2 → ∀ v3 : Int, v3 = (gI es2 79 29).toInt → v3 = 0 → ∀ v5 : Int, v5 = (gI es2 79 37).toInt → ¬ (v5 ≤ 0) → Q (.inl (some (.int (zI p))), es2, kc, ks))
    (K4 : ¬ (20 < p) → ∀ es2 : PH, laP p es es2 → ∀ v3 : Int, v3 = (gI es2 79 29).toInt → ¬ (v3 = 0) → Q (.inl (some (.int (zI (-2)))), es2, kc, ks)) :
    aW O (d + 8) 232 kc ks Q (23, [some (.ref 143), some (.int (zI p))], [], es) := by
  refine x0 (r := (24, [some (.ref 143), some (.int (zI p))], [.int (zI p)], es)) i_232_23 rfl ?_
  refine x0 (r := (26, [some (.ref 143), some (.int (zI p))], [.int (zI 20), .int (zI p)], es)) i_232_24 (by rfl) ?_
  by_cases c1 : 20 < p
  · refine x_cmpT i_232_26 (by unfold i32 iLO iHI; omega) (by unfold i32 iLO iHI; omega) rfl (by simp only [zC, cR]; omega) ?_
    refine x0 (r := (60, [some (.ref 143), some (.int (zI p))], [.int (zI (-1))], es)) i_232_59 (by rfl) ?_
    refine x_ret (v := some (.int (zI (-1)))) i_232_60 rfl (fun _ => rfl) rfl rfl rfl ?_
    exact K1 c1
  · refine x_cmpF i_232_26 (by unfold i32 iLO iHI; omega) (by unfold i32 iLO iHI; omega) rfl (by simp only [zC, cR]; omega) ?_
    refine x0 (r := (30, [some (.ref 143), some (.int (zI p))], [.ref 143], es)) i_232_29 rfl ?_
    refine x0 (r := (31, [some (.ref 143), some (.int (zI p))], [.int (zI p), .ref 143], es)) i_232_30 rfl ?_
    refine x_call (vs := [.ref 143, .int (zI p)]) (rs := []) i_232_31 rfl (fun _ => rfl) rfl rfl rfl rfl rfl (pCall_v (p := 79) hs_es rfl rfl rfl rfl rfl (by decide) rfl rfl rfl rfl rfl) ?_
    show aW _ _ _ _ _ _ (0, [some (.ref 143), some (.int (zI p)), none, none, none, none], [], es)
    refine laysAll_T hs_es hT_es h365 hI (by omega) hq hn (fun es2 p_es2 => ?_)
    have hs_es2 : sh es2 := p_es2.1
    have hT_es2 : hOK tT es2 := p_es2.2.1
    show aW _ _ _ _ _ _ (34, [some (.ref 143), some (.int (zI p))], [], es2)
    refine x0 (r := (35, [some (.ref 143), some (.int (zI p))], [.ref 143], es2)) i_232_34 rfl ?_
    refine x_geti (p := 79) i_232_35 hs_es2 rfl rfl ?_
    obtain ⟨v3, e_v3⟩ : ∃ z : Int, z = (gI es2 79 29).toInt := ⟨_, rfl⟩
    rw [← e_v3]
    have r_v3 : iLO ≤ v3 ∧ v3 ≤ iHI := by rw [e_v3]; exact i32_rng _
    unfold iLO iHI at r_v3
    have b_v3 : (0 : Int) ≤ v3 ∧ v3 ≤ (1 : Int) := by rw [e_v3]; exact gI_bd hT_es2 (p := 79) (b := 29) rfl rfl
    by_cases c4 : v3 = 0
    · refine x_ifT i_232_38 (by unfold i32 iLO iHI; omega) rfl (by simp only [zC, cR]; omega) ?_
      refine x0 (r := (45, [some (.ref 143), some (.int (zI p))], [.ref 143], es2)) i_232_44 rfl ?_
      refine x_geti (p := 79) i_232_45 hs_es2 rfl rfl ?_
      obtain ⟨v5, e_v5⟩ : ∃ z : Int, z = (gI es2 79 37).toInt := ⟨_, rfl⟩
      rw [← e_v5]
      have r_v5 : iLO ≤ v5 ∧ v5 ≤ iHI := by rw [e_v5]; exact i32_rng _
      unfold iLO iHI at r_v5
      by_cases c6 : v5 ≤ 0
      · refine x_ifT i_232_48 (by unfold i32 iLO iHI; omega) rfl (by simp only [zC, cR]; omega) ?_
        refine x_iinc (x := p) i_232_53 rfl (by show 1 < 2; decide) ?_
        show aW _ _ _ _ _ _ (56, [some (.ref 143), some (.int (zI (p + 1)))], [], es2)
        refine x0 (r := (23, [some (.ref 143), some (.int (zI (p + 1)))], [], es2)) i_232_56 rfl ?_
        exact K2 c1 es2 p_es2 v3 e_v3 c4 v5 e_v5 c6
      · refine x_ifF i_232_48 (by unfold i32 iLO iHI; omega) rfl (by simp only [zC, cR]; omega) ?_
        refine x0 (r := (52, [some (.ref 143), some (.int (zI p))], [.int (zI p)], es2)) i_232_51 rfl ?_
        refine x_ret (v := some (.int (zI p))) i_232_52 rfl (fun _ => rfl) rfl rfl rfl ?_
        exact K3 c1 es2 p_es2 v3 e_v3 c4 v5 e_v5 c6
    · refine x_ifF i_232_38 (by unfold i32 iLO iHI; omega) rfl (by simp only [zC, cR]; omega) ?_
      refine x0 (r := (43, [some (.ref 143), some (.int (zI p))], [.int (zI (-2))], es2)) i_232_41 (by rfl) ?_
      refine x_ret (v := some (.int (zI (-2)))) i_232_43 rfl (fun _ => rfl) rfl rfl rfl ?_
      exact K4 c1 es2 p_es2 v3 e_v3 c4
section
variable {O : pOut} {d kc ks : Nat} {Q : pRes → Prop} {es : PH}
theorem tS80_pr : ∀ s, s < 8 → tS80 (5 + s) = (0, 9) := by decide +kernel
theorem aa_46 (hs : sh es) (K : ∀ es', hOK tT es' → fr [(90, 0, 0, 8)] es es' → Q (.inl none, es', kc, ks)) : ∀ (j b : Nat) (es1 : PH), b + j = 8 → hOK tT es1 → fr [(90, 0, 0, 8)] es es1 → aW O d 231 kc ks Q (46, [some (.ref 143), some (.int (zI (b : Int)))], [], es1) := by
  intro j
  induction j with
  | zero =>
    intro b es1 hb hT1 hf1
    exact s_aa46 (sh_of hT1) ⟨by omega, by omega⟩ (fun h => by omega) hT1 (fun _ => K es1 hT1 hf1) (fun h => by omega)
  | succ j ih =>
    intro b es1 hb hT1 hf1
    have e9 : ((b + 1 : Nat) : Int) = (b : Int) + 1 := by omega
    have jx : (5 + (b : Int)).toNat = 5 + b := by omega
    have h := gA_bd hT1 (p := 80) (t := 0) (n := 2125) (sp := tS80) (k := 5 + b) rfl (by omega) (by decide)
    rw [tS80_pr b (by omega)] at h
    have h' : 0 ≤ (gA es1 80 (5 + b)).toInt ∧ (gA es1 80 (5 + b)).toInt ≤ 9 := h
    refine s_aa46 (sh_of hT1) ⟨by omega, by omega⟩ (fun _ => by rw [jx]; exact h') hT1 (fun h => by omega) (fun _ v2 e2 es3 e3 => ?_)
    rw [jx] at e2
    rw [Int.toNat_natCast] at e3
    have := ih (b + 1) es3 (by omega) (by rw [e3]; exact hOK_sA hT1 (p := 90) (t := 0) (n := 8) rfl (fun _ => by rw [zI_toInt (by unfold i32 iLO iHI; omega), e2]; exact h')) (by rw [e3]; exact fr_trans hf1 (fr_sA (mIn_yes (by simp only [mHq, true_and, and_true, false_and, and_false, or_false, false_or, not_false_eq_true, Nat.reduceEqDiff] <;> omega))))
    rw [e9] at this
    exact this
theorem aa_16 (hT : hOK tT es) (K : ∀ es', hOK tT es' → fr [(89, 0, 0, 3), (90, 0, 0, 8)] es es' → Q (.inl none, es', kc, ks)) : ∀ (j b : Nat) (es1 : PH), b + j = cW (gA es 80) → hOK tT es1 → fr [(89, 0, 0, 3), (90, 0, 0, 8)] es es1 → aW O (d + 1) 231 kc ks Q (16, [some (.ref 143), some (.int (zI (b : Int)))], [], es1) := by
  have hcb := cW_bd hT
  have hs := sh_of hT
  have rd : ∀ es1, hOK tT es1 → ∀ b : Nat, ((b : Int) ≤ 2 → 0 ≤ (gA es1 80 ((119 + (98 * (b : Int))) + 0).toNat).toInt ∧ (gA es1 80 ((119 + (98 * (b : Int))) + 0).toNat).toInt ≤ 1) := by
    intro es1 hT1 b hb
    have h := gA_bd hT1 (p := 80) (t := 0) (n := 2125) (sp := tS80) (k := 119 + 98 * b) rfl (by omega) (by decide)
    rw [(tS80_bw b (by omega)).1] at h
    rw [show ((119 + (98 * (b : Int))) + 0).toNat = 119 + 98 * b by omega]
    exact h
  intro j
  induction j with
  | zero =>
    intro b es1 hb hT1 hf1
    have hW : gA es1 80 = gA es 80 := fr_row hf1 hs (p := 80) (t := 0) (n := 2125) (sp := tS80) rfl (by decide) (fun k => by simp only [mHq, true_and, and_true, false_and, and_false, or_false, false_or, not_false_eq_true, Nat.reduceEqDiff] <;> omega)
    refine s_aa16 (d := d) (sh_of hT1) ⟨by omega, by omega⟩ (rd es1 hT1 b) hT1 (fun v1 e1 h1 => aa_46 (d := d + 1) (sh_of hT1) (fun es' h1 h2 => K es' h1 (fr_trans hf1 (fr_wk (by simp only [mAl, mHq, true_and, and_true, false_and, and_false, or_false, false_or, not_false_eq_true, Nat.reduceEqDiff] <;> (repeat' apply And.intro) <;> intros <;> omega) h2))) 8 0 es1 (by omega) hT1 (fr_refl _ _)) (fun v1 e1 h1 => ?_)
    have e1' : v1 = (gA es1 80 1).toInt := e1
    rw [hW] at e1'
    omega
  | succ j ih =>
    intro b es1 hb hT1 hf1
    have e9 : ((b + 1 : Nat) : Int) = (b : Int) + 1 := by omega
    have hW : gA es1 80 = gA es 80 := fr_row hf1 hs (p := 80) (t := 0) (n := 2125) (sp := tS80) rfl (by decide) (fun k => by simp only [mHq, true_and, and_true, false_and, and_false, or_false, false_or, not_false_eq_true, Nat.reduceEqDiff] <;> omega)
    refine s_aa16 (d := d) (sh_of hT1) ⟨by omega, by omega⟩ (rd es1 hT1 b) hT1 (fun v1 e1 h1 => ?_) (fun v1 e1 h1 v3 e3 es4 e4 => ?_)
    · have e1' : v1 = (gA es1 80 1).toInt := e1
      rw [hW] at e1'
      omega
    · have hr := rd es1 hT1 b (by omega)
      rw [← e3] at hr
      rw [Int.toNat_natCast] at e4
      have := ih (b + 1) es4 (by omega) (by rw [e4]; exact hOK_sA hT1 (p := 89) (t := 0) (n := 3) rfl (fun _ => by rw [zI_toInt (by unfold i32 iLO iHI; omega)]; exact hr)) (by rw [e4]; exact fr_trans hf1 (fr_sA (mIn_yes (by simp only [mHq, true_and, and_true, false_and, and_false, or_false, false_or, not_false_eq_true, Nat.reduceEqDiff] <;> omega))))
      rw [e9] at this
      exact this
theorem aki_all : ∀ c b : Nat, c ≤ 3 → b < c → akI (zI ((zI 1 <<< (zI (c : Int) &&& 31)).toInt - 1)).toInt (b : Int) = 1 := by
  intro c b hc hb
  have : c = 1 ∨ c = 2 ∨ c = 3 := by omega
  rcases this with rfl | rfl | rfl
  · have : b = 0 := by omega
    subst this; decide
  · have : b = 0 ∨ b = 1 := by omega
    rcases this with rfl | rfl <;> decide
  · have : b = 0 ∨ b = 1 ∨ b = 2 := by omega
    rcases this with rfl | rfl | rfl <;> decide
theorem asksAll_spec (hT : hOK tT es) (K : ∀ es', asksN es es' → Q (.inl none, es', kc, ks)) : aW O (d + 1) 231 kc ks Q (0, [some (.ref 143), none], [], es) := by
  have hcb := cW_bd hT
  refine s_aa0 (d := d + 1) (sh_of hT) hT (fun v1 e1 v2 e2 es3 e3 => ?_)
  have e1' : v1 = (cW (gA es 80) : Int) := by rw [← hcb.1]; exact e1
  have hT3 : hOK tT es3 := by rw [e3]; exact hOK_sI hT (p := 79) (b := 18) (lo := iLO) (hi := iHI) rfl rfl (i32_rng _)
  have f3 : fr [(79, 20, 0, 1), (89, 0, 0, 3), (90, 0, 0, 8)] es es3 := by rw [e3]; exact fr_sI (mIn_yes (by simp only [mHq, true_and, and_true, false_and, and_false, or_false, false_or, not_false_eq_true, Nat.reduceEqDiff] <;> omega))
  have g18 : gI es3 79 18 = zI (v2 - 1) := by rw [e3, gI_sI (sh_of hT) (p := 79) rfl (by decide)]
  refine aa_16 (d := d) hT3 (fun es' h1 h2 => K es' ⟨sh_of h1, h1, fr_trans f3 (fr_wk (by simp only [mAl, mHq, true_and, and_true, false_and, and_false, or_false, false_or, not_false_eq_true, Nat.reduceEqDiff] <;> (repeat' apply And.intro) <;> intros <;> omega) h2), fun b hb => ?_⟩) _ 0 es3 (Nat.zero_add _) hT3 (fr_refl _ _)
  unfold akB
  rw [fr_fld h2 (sh_of hT3) (p := 79) (b := 18) rfl (by simp only [mHq, true_and, and_true, false_and, and_false, or_false, false_or, not_false_eq_true, Nat.reduceEqDiff] <;> omega), g18, e2, e1']
  exact aki_all _ _ hcb.2 hb
theorem noBelow_step {E : Ev} {v : Int} (h : noBelow E v) (h2 : ∀ Pt L, L ≤ 30 → rchE E Pt L → ¬ metE E v Pt L) : noBelow E (v + 1) := by
  intro p h0 h1
  by_cases hp : p = v
  · rw [hp]; exact h2
  · exact h p h0 (by omega)
theorem as_23 (h365 : conOK O gG gInv kc_365) (hT0 : hOK tT es) (hz : (gI es 79 30).toInt = 0) (K : ∀ es' v, asP es es' v → Q (.inl (some (.int (zI v))), es', kc, ks)) : ∀ (j p : Nat) (es1 : PH), p + j = 21 → hOK tT es1 → gInv es1 → fr frA es es1 → (gI es1 79 29).toInt = 0 → (0 ≤ (gI es1 79 27).toInt ∧ (gI es1 79 27).toInt ≤ 8000) → noBelow (evE es) p →
    aW O (d + 8) 232 kc ks Q (23, [some (.ref 143), some (.int (zI (p : Int)))], [], es1) := by
  have hs := sh_of hT0
  have fin : ∀ es1 v, hOK tT es1 → fr frA es es1 → (v = -2 ∨ v = -1 ∨ (0 ≤ v ∧ v ≤ 20 ∧ (gI es1 79 29).toInt = 0 ∧ (0 ≤ (gI es1 79 27).toInt ∧ (gI es1 79 27).toInt ≤ 8000) ∧ FST (evE es) v es1 ∧ noBelow (evE es) v)) → Q (.inl (some (.int (zI v))), es1, kc, ks) := by
    intro es1 v hT1 hf1 h
    have hE : evE es1 = evE es := evE_fr hf1 hs (fun k => by simp only [frA, mHq, true_and, and_true, false_and, and_false, or_false, false_or, not_false_eq_true, Nat.reduceEqDiff] <;> omega) (fun k => by simp only [frA, mHq, true_and, and_true, false_and, and_false, or_false, false_or, not_false_eq_true, Nat.reduceEqDiff] <;> omega) (fun k => by simp only [frA, mHq, true_and, and_true, false_and, and_false, or_false, false_or, not_false_eq_true, Nat.reduceEqDiff] <;> omega) (by simp only [frA, mHq, true_and, and_true, false_and, and_false, or_false, false_or, not_false_eq_true, Nat.reduceEqDiff] <;> omega) (by simp only [frA, mHq, true_and, and_true, false_and, and_false, or_false, false_or, not_false_eq_true, Nat.reduceEqDiff] <;> omega)
    refine K es1 v ⟨sh_of hT1, hT1, fr_wk (by simp only [mAl, frA, frAs, mHq, true_and, and_true, false_and, and_false, or_false, false_or, not_false_eq_true, Nat.reduceEqDiff] <;> (repeat' apply And.intro) <;> intros <;> omega) hf1, ?_, fun b => ?_, ?_⟩
    · rw [hE]; exact h
    · unfold akB
      rw [fr_fld hf1 hs (p := 79) (b := 18) rfl (by simp only [frA, mHq, true_and, and_true, false_and, and_false, or_false, false_or, not_false_eq_true, Nat.reduceEqDiff] <;> omega)]
    · rw [fr_fld hf1 hs (p := 79) (b := 30) rfl (by simp only [frA, mHq, true_and, and_true, false_and, and_false, or_false, false_or, not_false_eq_true, Nat.reduceEqDiff] <;> omega)]
      exact hz
  intro j
  induction j with
  | zero =>
    intro p es1 hp hT1 hI1 hf1 hn hq hb
    exact s_ask23 (d := d) (sh_of hT1) ⟨by omega, by omega⟩ h365 hI1 hq hn hT1 (fun _ => fin es1 (-1) hT1 hf1 (Or.inr (Or.inl rfl))) (fun h => by omega) (fun h => by omega) (fun h => by omega)
  | succ j ih =>
    intro p es1 hp hT1 hI1 hf1 hn hq hb
    have e9 : ((p + 1 : Nat) : Int) = (p : Int) + 1 := by omega
    have hE : evE es1 = evE es := evE_fr hf1 hs (fun k => by simp only [frA, mHq, true_and, and_true, false_and, and_false, or_false, false_or, not_false_eq_true, Nat.reduceEqDiff] <;> omega) (fun k => by simp only [frA, mHq, true_and, and_true, false_and, and_false, or_false, false_or, not_false_eq_true, Nat.reduceEqDiff] <;> omega) (fun k => by simp only [frA, mHq, true_and, and_true, false_and, and_false, or_false, false_or, not_false_eq_true, Nat.reduceEqDiff] <;> omega) (by simp only [frA, mHq, true_and, and_true, false_and, and_false, or_false, false_or, not_false_eq_true, Nat.reduceEqDiff] <;> omega) (by simp only [frA, mHq, true_and, and_true, false_and, and_false, or_false, false_or, not_false_eq_true, Nat.reduceEqDiff] <;> omega)
    refine s_ask23 (d := d) (sh_of hT1) ⟨by omega, by omega⟩ h365 hI1 hq hn hT1 (fun h => by omega) (fun _ es2 p2 v3 e3 h3 v5 e5 h5 => ?_) (fun _ es2 p2 v3 e3 h3 v5 e5 h5 => ?_) (fun _ es2 p2 v3 e3 h3 => ?_)
    all_goals
      obtain ⟨q1, q2, q3⟩ := p2
      rw [hE] at q3
      have hf2 : fr frA es es2 := fr_trans hf1 q3.1.hf
      have hfnd := q3.1.fnd
    · have hn2 : (gI es2 79 29).toInt = 0 := by omega
      have hpos := q3.1.pos
      have hsp := q3.1.spent hn2
      have := ih (p + 1) es2 (by omega) q2 (gInv_keep q3.1.hf (by decide) hT1 hI1) hf2 hn2 ⟨by omega, by omega⟩ (by
        rw [e9]
        exact noBelow_step hb (fun Pt L h1 h2 h4 => by
          have := (q3.2 hn2 Pt L h1 h2 h4).1
          omega))
      rw [e9] at this
      exact this
    · have hn2 : (gI es2 79 29).toInt = 0 := by omega
      have hpos := q3.1.pos
      have hsp := q3.1.spent hn2
      refine fin es2 p q2 hf2 (Or.inr (Or.inr ⟨by omega, by omega, hn2, ⟨by omega, by omega⟩, ?_, hb⟩))
      rcases q3.1.first with h | h
      · omega
      · exact h
    · exact fin es2 (-2) q2 hf2 (Or.inl rfl)
theorem asks_spec (h365 : conOK O gG gInv kc_365) (hT : hOK tT es) (hI : gInv es) (K : ∀ es' v, asP es es' v → Q (.inl (some (.int (zI v))), es', kc, ks)) : aW O (d + 8) 232 kc ks Q (0, [some (.ref 143), none], [], es) := by
  refine s_ask0 (d := d + 8) (sh_of hT) hT (fun es1 e1 es2 e2 es3 e3 es4 e4 => ?_)
  have z0 : (zI 0).toInt = 0 := rfl
  have hT1 : hOK tT es1 := by rw [e1]; exact hOK_sI hT (p := 79) (b := 27) (lo := iLO) (hi := iHI) rfl rfl (i32_rng _)
  have hT2 : hOK tT es2 := by rw [e2]; exact hOK_sI hT1 (p := 79) (b := 29) rfl rfl (by rw [z0]; exact ⟨by show (0 : Int) ≤ 0; omega, by show (0 : Int) ≤ 1; omega⟩)
  have hT3 : hOK tT es3 := by rw [e3]; exact hOK_sI hT2 (p := 79) (b := 30) rfl rfl (by rw [z0]; exact ⟨by show (0 : Int) ≤ 0; omega, by show (0 : Int) ≤ 1; omega⟩)
  have z30 : (zI 30).toInt = 30 := rfl
  have hT4 : hOK tT es4 := by rw [e4]; exact hOK_sI hT3 (p := 79) (b := 35) rfl rfl (by rw [z30]; exact ⟨by show (0 : Int) ≤ 30; omega, by show (30 : Int) ≤ 2147483647; omega⟩)
  have f4 : fr [(79, 29, 0, 1), (79, 31, 0, 1), (79, 32, 0, 1), (79, 37, 0, 1)] es es4 := by
    rw [e4, e3, e2, e1]
    exact fr_trans (fr_sI (mIn_yes (by simp only [mHq, true_and, and_true, false_and, and_false, or_false, false_or, not_false_eq_true, Nat.reduceEqDiff] <;> omega))) (fr_trans (fr_sI (mIn_yes (by simp only [mHq, true_and, and_true, false_and, and_false, or_false, false_or, not_false_eq_true, Nat.reduceEqDiff] <;> omega))) (fr_trans (fr_sI (mIn_yes (by simp only [mHq, true_and, and_true, false_and, and_false, or_false, false_or, not_false_eq_true, Nat.reduceEqDiff] <;> omega))) (fr_sI (mIn_yes (by simp only [mHq, true_and, and_true, false_and, and_false, or_false, false_or, not_false_eq_true, Nat.reduceEqDiff] <;> omega)))))
  have hI4 : gInv es4 := gInv_keep f4 (by decide) hT hI
  have g27 : (gI es4 79 27).toInt = 0 := by
    rw [e4, gI_sI_ne (Or.inr (by decide)), e3, gI_sI_ne (Or.inr (by decide)), e2, gI_sI_ne (Or.inr (by decide)), e1, gI_sI (sh_of hT) (p := 79) rfl (by decide)]; rfl
  have g29 : (gI es4 79 29).toInt = 0 := by
    rw [e4, gI_sI_ne (Or.inr (by decide)), e3, gI_sI_ne (Or.inr (by decide)), e2, gI_sI (sh_of hT1) (p := 79) rfl (by decide)]; rfl
  have g30 : (gI es4 79 30).toInt = 0 := by
    rw [e4, gI_sI_ne (Or.inr (by decide)), e3, gI_sI (sh_of hT2) (p := 79) rfl (by decide)]; rfl
  refine as_23 (d := d) h365 hT4 g30 (fun es' v h => K es' v ?_) 21 0 es4 (by omega) hT4 hI4 (fr_refl _ _) g29 (by omega) (fun p h0 h1 => by omega)
  obtain ⟨q1, q2, q3, q4, q5, q6⟩ := h
  refine ⟨q1, q2, fr_trans (fr_wk (by simp only [mAl, frAs, mHq, true_and, and_true, false_and, and_false, or_false, false_or, not_false_eq_true, Nat.reduceEqDiff] <;> (repeat' apply And.intro) <;> intros <;> omega) f4) q3, q4, fun b => (q5 b).trans ?_, q6⟩
  unfold akB
  rw [fr_fld f4 (sh_of hT) (p := 79) (b := 18) rfl (by simp only [mHq, true_and, and_true, false_and, and_false, or_false, false_or, not_false_eq_true, Nat.reduceEqDiff] <;> omega)]
/-- with all the books -/
def awP (es es' : PH) (v : Int) : Prop := ∃ es1, asksN es es1 ∧ asP es1 es' v
theorem asksWhole_spec (h365 : conOK O gG gInv kc_365) (hT : hOK tT es) (hI : gInv es) (K : ∀ es' v, awP es es' v → Q (.inl (some (.int (zI v))), es', kc, ks)) : aW O (d + 9) 230 kc ks Q (0, [some (.ref 143)], [], es) := by
  refine x0 (r := (1, [some (.ref 143)], [.ref 143], es)) i_230_0 rfl ?_
  refine x_call (vs := [.ref 143]) (rs := []) i_230_1 rfl (fun _ => rfl) rfl rfl rfl rfl rfl (pCall_v (p := 79) (sh_of hT) rfl rfl rfl rfl rfl (by decide) rfl rfl rfl rfl rfl) ?_
  show aW _ _ _ _ _ _ (0, [some (.ref 143), none], [], es)
  refine asksAll_spec (d := d + 7) hT (fun es1 h1 => ?_)
  show aW _ _ _ _ _ _ (4, [some (.ref 143)], [], es1)
  obtain ⟨hs1, hT1, f1, a1⟩ := h1
  refine x0 (r := (5, [some (.ref 143)], [.ref 143], es1)) i_230_4 rfl ?_
  refine x_call (vs := [.ref 143]) (rs := []) i_230_5 rfl (fun _ => rfl) rfl rfl rfl rfl rfl (pCall_v (p := 79) hs1 rfl rfl rfl rfl rfl (by decide) rfl rfl rfl rfl rfl) ?_
  show aW _ _ _ _ _ _ (0, [some (.ref 143), none], [], es1)
  refine asks_spec (d := d) h365 hT1 (gInv_keep f1 (by decide) hT hI) (fun es2 v h2 => ?_)
  show aW _ _ _ _ _ _ (8, [some (.ref 143)], [.int (zI v)], es2)
  refine x_ret (v := some (.int (zI v))) i_230_8 rfl (fun _ => rfl) rfl rfl rfl ?_
  exact K es2 v ⟨es1, ⟨hs1, hT1, f1, a1⟩, h2⟩
end
