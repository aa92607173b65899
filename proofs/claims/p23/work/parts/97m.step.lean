/-! laysAll: the rows as they stand, one step -/
def pth (es : PH) : Nat → Nat := fun k => (gA es 91 k).toInt.toNat
def fst98 (es : PH) : Nat → Nat := fun k => (gA es 98 k).toInt.toNat
def rwsAt (E : Ev) (P : Nat → Nat) (es : PH) (k : Nat) : Prop := brow es k = bdF E.W P k ∧ ∀ b n, b < cW E.W → E.ak b → n ≤ nW E.W b → smS es b k n = sumF E P b k n
def trAll (D : Nat) (es es' : PH) : Prop := sh es' ∧ hOK tT es' ∧ fr [(92, 0, 72 * D, 72 * D + 72), (93, 0, 72 * D, 72 * D + 72)] es es' ∧ ∀ b n, b < cW (gA es 80) → akB es b → n < nW (gA es 80) b → ftS es' b D n = fitF (gA es 80) (gA es 89) (gA es 90) (brow es D) (pth es D) b n
def trTo (D : Nat) (es es1 : PH) (b n : Nat) : Prop := hOK tT es1 ∧ fr [(92, 0, 72 * D, 72 * D + 72), (93, 0, 72 * D, 72 * D + 72)] es es1 ∧ ∀ b' n', (b' < b ∨ (b' = b ∧ n' < n)) → b' < cW (gA es 80) → akB es b' → n' < nW (gA es 80) b' → ftS es1 b' D n' = fitF (gA es 80) (gA es 89) (gA es 90) (brow es D) (pth es D) b' n'
def triesZ (dp b n : Int) (es es' : PH) : Prop := triesP dp.toNat b.toNat n.toNat es es'
def beginsT (es es' : PH) : Prop := sh es' ∧ hOK tT es' ∧ beginsP es es'
def makesT (dp c : Int) (es es' : PH) : Prop := sh es' ∧ hOK tT es' ∧ makesP dp c es es'
section
variable {O : pOut} {d kc ks : Nat} {Q : pRes → Prop} {es : PH}
theorem tries_T {dp b n : Int} (hs : sh es) (hT : hOK tT es) (hd : 0 ≤ dp ∧ dp ≤ 30) (hb : 0 ≤ b ∧ b ≤ 2) (hn : 0 ≤ n ∧ n ≤ 23) (K : ∀ es', triesZ dp b n es es' → Q (.inl none, es', kc, ks)) :
    aW O (d + 2) 254 kc ks Q (0, [some (.ref 143), some (.int (zI dp)), some (.int (zI b)), some (.int (zI n)), none, none, none, none, none, none, none, none, none, none], [], es) := tries_spec hs hd hb hn hT K
theorem begins_T (hs : sh es) (hT : hOK tT es) (K : ∀ es', beginsT es es' → Q (.inl none, es', kc, ks)) : aW O d 217 kc ks Q (0, [some (.ref 143), none], [], es) :=
  begins_spec hs (fun es' h => K es' ⟨h.1, h.2.1 hT, h⟩)
theorem makes_T {dp c : Int} (hs : sh es) (hT : hOK tT es) (hd : 0 ≤ dp ∧ dp ≤ 29) (hc : 0 ≤ c ∧ c ≤ 1295) (K : ∀ es', makesT dp c es es' → Q (.inl none, es', kc, ks)) : aW O (d + 1) 253 kc ks Q (0, [some (.ref 143), some (.int (zI dp)), some (.int (zI c)), none], [], es) :=
  makes_spec hs hd hc (fun es' h => K es' ⟨h.1, h.2.1 hT, h⟩)
theorem prices_T {m : Int} (hs : sh es) (hT : hOK tT es) (hm : 0 ≤ m ∧ m ≤ 30) (K : ∀ es', pricesP m es es' → Q (.inl none, es', kc, ks)) :
    aW O (d + 5) 234 kc ks Q (0, [some (.ref 143), some (.int (zI m)), none, none, none], [], es) := prices_spec hs hm hT K
end
theorem s_la0 {O : pOut} {d kc ks : Nat} {Q : pRes → Prop} {es : PH} {pr : Int} (hs_es : sh es) (hT_es : hOK tT es)
    (K1 : aW O d 233 kc ks Q (2, [some (.ref 143), some (.int (zI pr)), some (.int (zI 0)), none, none, none], [], es)) :
    aW O d 233 kc ks Q (0, [some (.ref 143), some (.int (zI pr)), none, none, none, none], [], es) := by
  refine x0 (r := (1, [some (.ref 143), some (.int (zI pr)), none, none, none, none], [.int (zI 0)], es)) i_233_0 (by rfl) ?_
  refine x0 (r := (2, [some (.ref 143), some (.int (zI pr)), some (.int (zI 0)), none, none, none], [], es)) i_233_1 rfl ?_
  exact K1

theorem s_la2 {O : pOut} {d kc ks : Nat} {Q : pRes → Prop} {es : PH} {pr k : Int} (hs_es : sh es) (hp : 0 ≤ pr ∧ pr ≤ 22) (hk : 0 ≤ k ∧ k ≤ 24) (hT_es : hOK tT es)
    (K1 : 24 ≤ k → ∀ es2 : PH, es2 = sI es 79 37 (.int (zI 0)) → ∀ es3 : PH, es3 = sI es2 79 28 (.int (zI 0)) → ∀ es4 : PH, beginsT  es3 es4 → ∀ es5 : PH, pricesP 0 es4 es5 → aW O (d + 6) 233 kc ks Q (50, [some (.ref 143), some (.int (zI pr)), some (.int (zI k)), none, none, none], [], es5))
    (K2 : ¬ (24 ≤ k) → ∀ es6 : PH, es6 = sJ es 96 k.toNat (Int64.ofNat 0) → ∀ es7 : PH, es7 = sJ es6 97 k.toNat (Int64.ofNat 0) → aW O (d + 6) 233 kc ks Q (2, [some (.ref 143), some (.int (zI pr)), some (.int (zI (k + 1))), none, none, none], [], es7)) :
    aW O (d + 6) 233 kc ks Q (2, [some (.ref 143), some (.int (zI pr)), some (.int (zI k)), none, none, none], [], es) := by
  refine x0 (r := (3, [some (.ref 143), some (.int (zI pr)), some (.int (zI k)), none, none, none], [.int (zI k)], es)) i_233_2 rfl ?_
  refine x0 (r := (4, [some (.ref 143), some (.int (zI pr)), some (.int (zI k)), none, none, none], [.ref 143, .int (zI k)], es)) i_233_3 rfl ?_
  refine x_getr (p := 79) (k := 160) i_233_4 hs_es rfl rfl ?_
  show aW _ _ _ _ _ _ (7, [some (.ref 143), some (.int (zI pr)), some (.int (zI k)), none, none, none], [.ref 160, .int (zI k)], es)
  refine x_alen (p := 96) (n := 24) i_233_7 hs_es rfl ?_
  by_cases c1 : 24 ≤ k
  · refine x_cmpT i_233_8 (by unfold i32 iLO iHI; omega) (by unfold i32 iLO iHI; omega) rfl (by simp only [zC, cR]; omega) ?_
    refine x0 (r := (32, [some (.ref 143), some (.int (zI pr)), some (.int (zI k)), none, none, none], [.ref 143], es)) i_233_31 rfl ?_
    refine x0 (r := (33, [some (.ref 143), some (.int (zI pr)), some (.int (zI k)), none, none, none], [.int (zI 0), .ref 143], es)) i_233_32 (by rfl) ?_
    refine x_puti (p := 79) (ty := .int) i_233_33 hs_es rfl rfl rfl (Or.inl rfl) ?_
    obtain ⟨es2, e_es2⟩ : ∃ z : PH, z = sI es 79 37 (.int (zI 0)) := ⟨_, rfl⟩
    have hs_es2 : sh es2 := by rw [e_es2]; exact sh_sI hs_es (p := 79) (b := 37) rfl rfl
    have hT_es2 : hOK tT es2 := by rw [e_es2]; exact hOK_sI hT_es (p := 79) (b := 37) (lo := iLO) (hi := iHI) rfl rfl (i32_rng _)
    rw [← e_es2]
    refine x0 (r := (37, [some (.ref 143), some (.int (zI pr)), some (.int (zI k)), none, none, none], [.ref 143], es2)) i_233_36 rfl ?_
    refine x0 (r := (38, [some (.ref 143), some (.int (zI pr)), some (.int (zI k)), none, none, none], [.int (zI 0), .ref 143], es2)) i_233_37 (by rfl) ?_
    refine x_puti (p := 79) (ty := .int) i_233_38 hs_es2 rfl rfl rfl (Or.inl rfl) ?_
    obtain ⟨es3, e_es3⟩ : ∃ z : PH, z = sI es2 79 28 (.int (zI 0)) := ⟨_, rfl⟩
    have hs_es3 : sh es3 := by rw [e_es3]; exact sh_sI hs_es2 (p := 79) (b := 28) rfl rfl
    have hT_es3 : hOK tT es3 := by rw [e_es3]; exact hOK_sI hT_es2 (p := 79) (b := 28) (lo := iLO) (hi := iHI) rfl rfl (i32_rng _)
    rw [← e_es3]
    refine x0 (r := (42, [some (.ref 143), some (.int (zI pr)), some (.int (zI k)), none, none, none], [.ref 143], es3)) i_233_41 rfl ?_
    refine x_call (vs := [.ref 143]) (rs := []) i_233_42 rfl (fun _ => rfl) rfl rfl rfl rfl rfl (pCall_v (p := 79) hs_es3 rfl rfl rfl rfl rfl (by decide) rfl rfl rfl rfl rfl) ?_
    show aW _ _ _ _ _ _ (0, [some (.ref 143), none], [], es3)
    refine begins_T hs_es3 hT_es3 (fun es4 p_es4 => ?_)
    have hs_es4 : sh es4 := p_es4.1
    have hT_es4 : hOK tT es4 := p_es4.2.1
    show aW _ _ _ _ _ _ (45, [some (.ref 143), some (.int (zI pr)), some (.int (zI k)), none, none, none], [], es4)
    refine x0 (r := (46, [some (.ref 143), some (.int (zI pr)), some (.int (zI k)), none, none, none], [.ref 143], es4)) i_233_45 rfl ?_
    refine x0 (r := (47, [some (.ref 143), some (.int (zI pr)), some (.int (zI k)), none, none, none], [.int (zI 0), .ref 143], es4)) i_233_46 (by rfl) ?_
    refine x_call (vs := [.ref 143, .int (zI 0)]) (rs := []) i_233_47 rfl (fun _ => rfl) rfl rfl rfl rfl rfl (pCall_v (p := 79) hs_es4 rfl rfl rfl rfl rfl (by decide) rfl rfl rfl rfl rfl) ?_
    show aW _ _ _ _ _ _ (0, [some (.ref 143), some (.int (zI 0)), none, none, none], [], es4)
    refine prices_T hs_es4 hT_es4 (by omega) (fun es5 p_es5 => ?_)
    have hs_es5 : sh es5 := p_es5.1
    have hT_es5 : hOK tT es5 := p_es5.2.1
    show aW _ _ _ _ _ _ (50, [some (.ref 143), some (.int (zI pr)), some (.int (zI k)), none, none, none], [], es5)
    exact K1 c1 es2 e_es2 es3 e_es3 es4 p_es4 es5 p_es5
  · refine x_cmpF i_233_8 (by unfold i32 iLO iHI; omega) (by unfold i32 iLO iHI; omega) rfl (by simp only [zC, cR]; omega) ?_
    refine x0 (r := (12, [some (.ref 143), some (.int (zI pr)), some (.int (zI k)), none, none, none], [.ref 143], es)) i_233_11 rfl ?_
    refine x_getr (p := 79) (k := 160) i_233_12 hs_es rfl rfl ?_
    show aW _ _ _ _ _ _ (15, [some (.ref 143), some (.int (zI pr)), some (.int (zI k)), none, none, none], [.ref 160], es)
    refine x0 (r := (16, [some (.ref 143), some (.int (zI pr)), some (.int (zI k)), none, none, none], [.int (zI k), .ref 160], es)) i_233_15 rfl ?_
    refine x0 (r := (17, [some (.ref 143), some (.int (zI pr)), some (.int (zI k)), none, none, none], [.long (Int64.ofNat 0), .int (zI k), .ref 160], es)) i_233_16 rfl ?_
    refine x_last (p := 96) i_233_17 hs_es rfl (by unfold i32 iLO iHI; omega) (by omega) (by omega) ?_
    obtain ⟨es6, e_es6⟩ : ∃ z : PH, z = sJ es 96 k.toNat (Int64.ofNat 0) := ⟨_, rfl⟩
    have hs_es6 : sh es6 := by rw [e_es6]; exact sh_sJ hs_es
    have hT_es6 : hOK tT es6 := by rw [e_es6]; exact hOK_sJ hT_es
    rw [← e_es6]
    refine x0 (r := (19, [some (.ref 143), some (.int (zI pr)), some (.int (zI k)), none, none, none], [.ref 143], es6)) i_233_18 rfl ?_
    refine x_getr (p := 79) (k := 161) i_233_19 hs_es6 rfl rfl ?_
    show aW _ _ _ _ _ _ (22, [some (.ref 143), some (.int (zI pr)), some (.int (zI k)), none, none, none], [.ref 161], es6)
    refine x0 (r := (23, [some (.ref 143), some (.int (zI pr)), some (.int (zI k)), none, none, none], [.int (zI k), .ref 161], es6)) i_233_22 rfl ?_
    refine x0 (r := (24, [some (.ref 143), some (.int (zI pr)), some (.int (zI k)), none, none, none], [.long (Int64.ofNat 0), .int (zI k), .ref 161], es6)) i_233_23 rfl ?_
    refine x_last (p := 97) i_233_24 hs_es6 rfl (by unfold i32 iLO iHI; omega) (by omega) (by omega) ?_
    obtain ⟨es7, e_es7⟩ : ∃ z : PH, z = sJ es6 97 k.toNat (Int64.ofNat 0) := ⟨_, rfl⟩
    have hs_es7 : sh es7 := by rw [e_es7]; exact sh_sJ hs_es6
    have hT_es7 : hOK tT es7 := by rw [e_es7]; exact hOK_sJ hT_es6
    rw [← e_es7]
    refine x_iinc (x := k) i_233_25 rfl (by show 2 < 6; decide) ?_
    show aW _ _ _ _ _ _ (28, [some (.ref 143), some (.int (zI pr)), some (.int (zI (k + 1))), none, none, none], [], es7)
    refine x0 (r := (2, [some (.ref 143), some (.int (zI pr)), some (.int (zI (k + 1))), none, none, none], [], es7)) i_233_28 rfl ?_
    exact K2 c1 es6 e_es6 es7 e_es7

theorem s_la50 {O : pOut} {d kc ks : Nat} {Q : pRes → Prop} {es : PH} {pr k : Int} (hs_es : sh es) (hp : 0 ≤ pr ∧ pr ≤ 22) (h365 : conOK O gG gInv kc_365) (hI : gInv es) (hq : 0 ≤ (gI es 79 27).toInt ∧ (gI es 79 27).toInt ≤ 10000) (hf : 0 ≤ (gI es 79 37).toInt ∧ (gI es 79 37).toInt ≤ 10000) (hT_es : hOK tT es)
    (K1 : ∀ es1 : PH, laysP 0 pr es es1 → aW O (d + 7) 233 kc ks Q (58, [some (.ref 143), some (.int (zI pr)), some (.int (zI 0)), none, none, none], [], es1)) :
    aW O (d + 7) 233 kc ks Q (50, [some (.ref 143), some (.int (zI pr)), some (.int (zI k)), none, none, none], [], es) := by
  refine x0 (r := (51, [some (.ref 143), some (.int (zI pr)), some (.int (zI k)), none, none, none], [.ref 143], es)) i_233_50 rfl ?_
  refine x0 (r := (52, [some (.ref 143), some (.int (zI pr)), some (.int (zI k)), none, none, none], [.int (zI 0), .ref 143], es)) i_233_51 (by rfl) ?_
  refine x0 (r := (53, [some (.ref 143), some (.int (zI pr)), some (.int (zI k)), none, none, none], [.int (zI pr), .int (zI 0), .ref 143], es)) i_233_52 rfl ?_
  refine x_call (vs := [.ref 143, .int (zI 0), .int (zI pr)]) (rs := []) i_233_53 rfl (fun _ => rfl) rfl rfl rfl rfl rfl (pCall_v (p := 79) hs_es rfl rfl rfl rfl rfl (by decide) rfl rfl rfl rfl rfl) ?_
  show aW _ _ _ _ _ _ (0, [some (.ref 143), some (.int (zI 0)), some (.int (zI pr))], [], es)
  refine lays_T hs_es hT_es h365 hI (by omega) (by omega) hq hf (fun es1 p_es1 => ?_)
  have hs_es1 : sh es1 := p_es1.1
  have hT_es1 : hOK tT es1 := p_es1.2.1
  show aW _ _ _ _ _ _ (56, [some (.ref 143), some (.int (zI pr)), some (.int (zI k)), none, none, none], [], es1)
  refine x0 (r := (57, [some (.ref 143), some (.int (zI pr)), some (.int (zI k)), none, none, none], [.int (zI 0)], es1)) i_233_56 (by rfl) ?_
  refine x0 (r := (58, [some (.ref 143), some (.int (zI pr)), some (.int (zI 0)), none, none, none], [], es1)) i_233_57 rfl ?_
  exact K1 es1 p_es1

theorem s_la58 {O : pOut} {d kc ks : Nat} {Q : pRes → Prop} {es : PH} {pr dp : Int} {x3 x4 x5 : Option Value} (hs_es : sh es) (hp : 0 ≤ pr ∧ pr ≤ 22) (hd : -1 ≤ dp ∧ dp ≤ 30) (hT_es : hOK tT es)
    (K1 : dp < 0 → Q (.inl (none), es, kc, ks))
    (K2 : ¬ (dp < 0) → ∀ v2 : Int, v2 = (gI es 79 29).toInt → v2 ≠ 0 → Q (.inl (none), es, kc, ks))
    (K3 : ¬ (dp < 0) → ∀ v2 : Int, v2 = (gI es 79 29).toInt → ¬ (v2 ≠ 0) → ∀ v4 : Int, v4 = (gA es 95 dp.toNat).toInt → aW O d 233 kc ks Q (76, [some (.ref 143), some (.int (zI pr)), some (.int (zI dp)), some (.int (zI v4)), x4, x5], [], es)) :
    aW O d 233 kc ks Q (58, [some (.ref 143), some (.int (zI pr)), some (.int (zI dp)), x3, x4, x5], [], es) := by
  refine x0 (r := (59, [some (.ref 143), some (.int (zI pr)), some (.int (zI dp)), x3, x4, x5], [.int (zI dp)], es)) i_233_58 rfl ?_
  by_cases c1 : dp < 0
  · refine x_ifT i_233_59 (by unfold i32 iLO iHI; omega) rfl (by simp only [zC, cR]; omega) ?_
    refine x_ret (v := none) i_233_227 rfl (fun _ => rfl) rfl rfl rfl ?_
    exact K1 c1
  · refine x_ifF i_233_59 (by unfold i32 iLO iHI; omega) rfl (by simp only [zC, cR]; omega) ?_
    refine x0 (r := (63, [some (.ref 143), some (.int (zI pr)), some (.int (zI dp)), x3, x4, x5], [.ref 143], es)) i_233_62 rfl ?_
    refine x_geti (p := 79) i_233_63 hs_es rfl rfl ?_
    obtain ⟨v2, e_v2⟩ : ∃ z : Int, z = (gI es 79 29).toInt := ⟨_, rfl⟩
    rw [← e_v2]
    have r_v2 : iLO ≤ v2 ∧ v2 ≤ iHI := by rw [e_v2]; exact i32_rng _
    unfold iLO iHI at r_v2
    have b_v2 : (0 : Int) ≤ v2 ∧ v2 ≤ (1 : Int) := by rw [e_v2]; exact gI_bd hT_es (p := 79) (b := 29) rfl rfl
    by_cases c3 : v2 ≠ 0
    · refine x_ifT i_233_66 (by unfold i32 iLO iHI; omega) rfl (by simp only [zC, cR]; omega) ?_
      refine x_ret (v := none) i_233_227 rfl (fun _ => rfl) rfl rfl rfl ?_
      exact K2 c1 v2 e_v2 c3
    · refine x_ifF i_233_66 (by unfold i32 iLO iHI; omega) rfl (by simp only [zC, cR]; omega) ?_
      refine x0 (r := (70, [some (.ref 143), some (.int (zI pr)), some (.int (zI dp)), x3, x4, x5], [.ref 143], es)) i_233_69 rfl ?_
      refine x_getr (p := 79) (k := 159) i_233_70 hs_es rfl rfl ?_
      show aW _ _ _ _ _ _ (73, [some (.ref 143), some (.int (zI pr)), some (.int (zI dp)), x3, x4, x5], [.ref 159], es)
      refine x0 (r := (74, [some (.ref 143), some (.int (zI pr)), some (.int (zI dp)), x3, x4, x5], [.int (zI dp), .ref 159], es)) i_233_73 rfl ?_
      refine x_iald (p := 95) i_233_74 hs_es rfl (by unfold i32 iLO iHI; omega) (by omega) (by omega) ?_
      obtain ⟨v4, e_v4⟩ : ∃ z : Int, z = (gA es 95 dp.toNat).toInt := ⟨_, rfl⟩
      rw [← e_v4]
      have r_v4 : iLO ≤ v4 ∧ v4 ≤ iHI := by rw [e_v4]; exact i32_rng _
      unfold iLO iHI at r_v4
      have b_v4 : (0 : Int) ≤ v4 ∧ v4 ≤ (1296 : Int) := by rw [e_v4]; exact gA_bd hT_es (p := 95) (k := dp.toNat) rfl (by omega) (by decide)
      refine x0 (r := (76, [some (.ref 143), some (.int (zI pr)), some (.int (zI dp)), some (.int (zI v4)), x4, x5], [], es)) i_233_75 rfl ?_
      exact K3 c1 v2 e_v2 c3 v4 e_v4

theorem s_la76 {O : pOut} {d kc ks : Nat} {Q : pRes → Prop} {es : PH} {pr dp c : Int} {x4 x5 : Option Value} (hs_es : sh es) (hp : 0 ≤ pr ∧ pr ≤ 22) (hd : 0 ≤ dp ∧ dp ≤ 30) (hc : 0 ≤ c ∧ c ≤ 1296) (hT_es : hOK tT es)
    (K1 : 1296 ≤ c → aW O d 233 kc ks Q (58, [some (.ref 143), some (.int (zI pr)), some (.int (zI (dp + (-1)))), some (.int (zI c)), x4, x5], [], es))
    (K2 : ¬ (1296 ≤ c) → ∀ v2 : Int, v2 = (gA es 88 ((1296 * dp) + c).toNat).toInt → v2 ≠ 0 → aW O d 233 kc ks Q (117, [some (.ref 143), some (.int (zI pr)), some (.int (zI dp)), some (.int (zI c)), x4, x5], [], es))
    (K3 : ¬ (1296 ≤ c) → ∀ v2 : Int, v2 = (gA es 88 ((1296 * dp) + c).toNat).toInt → ¬ (v2 ≠ 0) → aW O d 233 kc ks Q (76, [some (.ref 143), some (.int (zI pr)), some (.int (zI dp)), some (.int (zI (c + 1))), x4, x5], [], es)) :
    aW O d 233 kc ks Q (76, [some (.ref 143), some (.int (zI pr)), some (.int (zI dp)), some (.int (zI c)), x4, x5], [], es) := by
  refine x0 (r := (77, [some (.ref 143), some (.int (zI pr)), some (.int (zI dp)), some (.int (zI c)), x4, x5], [.int (zI c)], es)) i_233_76 rfl ?_
  refine x0 (r := (80, [some (.ref 143), some (.int (zI pr)), some (.int (zI dp)), some (.int (zI c)), x4, x5], [.int (zI 1296), .int (zI c)], es)) i_233_77 (by rfl) ?_
  by_cases c1 : 1296 ≤ c
  · refine x_cmpT i_233_80 (by unfold i32 iLO iHI; omega) (by unfold i32 iLO iHI; omega) rfl (by simp only [zC, cR]; omega) ?_
    refine x0 (r := (105, [some (.ref 143), some (.int (zI pr)), some (.int (zI dp)), some (.int (zI c)), x4, x5], [.int (zI c)], es)) i_233_104 rfl ?_
    refine x0 (r := (108, [some (.ref 143), some (.int (zI pr)), some (.int (zI dp)), some (.int (zI c)), x4, x5], [.int (zI 1296), .int (zI c)], es)) i_233_105 (by rfl) ?_
    refine x_cmpF i_233_108 (by unfold i32 iLO iHI; omega) (by unfold i32 iLO iHI; omega) rfl (by simp only [zC, cR]; omega) ?_
    refine x_iinc (x := dp) i_233_111 rfl (by show 2 < 6; decide) ?_
    show aW _ _ _ _ _ _ (114, [some (.ref 143), some (.int (zI pr)), some (.int (zI (dp + (-1)))), some (.int (zI c)), x4, x5], [], es)
    refine x0 (r := (58, [some (.ref 143), some (.int (zI pr)), some (.int (zI (dp + (-1)))), some (.int (zI c)), x4, x5], [], es)) i_233_114 rfl ?_
    exact K1 c1
  · refine x_cmpF i_233_80 (by unfold i32 iLO iHI; omega) (by unfold i32 iLO iHI; omega) rfl (by simp only [zC, cR]; omega) ?_
    refine x0 (r := (84, [some (.ref 143), some (.int (zI pr)), some (.int (zI dp)), some (.int (zI c)), x4, x5], [.ref 143], es)) i_233_83 rfl ?_
    refine x_getr (p := 79) (k := 152) i_233_84 hs_es rfl rfl ?_
    show aW _ _ _ _ _ _ (87, [some (.ref 143), some (.int (zI pr)), some (.int (zI dp)), some (.int (zI c)), x4, x5], [.ref 152], es)
    refine x0 (r := (90, [some (.ref 143), some (.int (zI pr)), some (.int (zI dp)), some (.int (zI c)), x4, x5], [.int (zI 1296), .ref 152], es)) i_233_87 (by rfl) ?_
    refine x0 (r := (91, [some (.ref 143), some (.int (zI pr)), some (.int (zI dp)), some (.int (zI c)), x4, x5], [.int (zI dp), .int (zI 1296), .ref 152], es)) i_233_90 rfl ?_
    refine x_imul i_233_91 ?_
    refine x0 (r := (93, [some (.ref 143), some (.int (zI pr)), some (.int (zI dp)), some (.int (zI c)), x4, x5], [.int (zI c), .int (zI (1296 * dp)), .ref 152], es)) i_233_92 rfl ?_
    refine x_iadd i_233_93 ?_
    refine x_bald (p := 88) i_233_94 hs_es rfl (by decide) (by unfold i32 iLO iHI; omega) (by omega) (by omega) ?_
    obtain ⟨v2, e_v2⟩ : ∃ z : Int, z = (gA es 88 ((1296 * dp) + c).toNat).toInt := ⟨_, rfl⟩
    rw [← e_v2]
    have r_v2 : iLO ≤ v2 ∧ v2 ≤ iHI := by rw [e_v2]; exact i32_rng _
    unfold iLO iHI at r_v2
    have b_v2 : (0 : Int) ≤ v2 ∧ v2 ≤ (1 : Int) := by rw [e_v2]; exact gA_bd hT_es (p := 88) (k := ((1296 * dp) + c).toNat) rfl (by omega) (by decide)
    by_cases c3 : v2 ≠ 0
    · refine x_ifT i_233_95 (by unfold i32 iLO iHI; omega) rfl (by simp only [zC, cR]; omega) ?_
      refine x0 (r := (105, [some (.ref 143), some (.int (zI pr)), some (.int (zI dp)), some (.int (zI c)), x4, x5], [.int (zI c)], es)) i_233_104 rfl ?_
      refine x0 (r := (108, [some (.ref 143), some (.int (zI pr)), some (.int (zI dp)), some (.int (zI c)), x4, x5], [.int (zI 1296), .int (zI c)], es)) i_233_105 (by rfl) ?_
      refine x_cmpT i_233_108 (by unfold i32 iLO iHI; omega) (by unfold i32 iLO iHI; omega) rfl (by simp only [zC, cR]; omega) ?_
      exact K2 c1 v2 e_v2 c3
    · refine x_ifF i_233_95 (by unfold i32 iLO iHI; omega) rfl (by simp only [zC, cR]; omega) ?_
      refine x_iinc (x := c) i_233_98 rfl (by show 3 < 6; decide) ?_
      show aW _ _ _ _ _ _ (101, [some (.ref 143), some (.int (zI pr)), some (.int (zI dp)), some (.int (zI (c + 1))), x4, x5], [], es)
      refine x0 (r := (76, [some (.ref 143), some (.int (zI pr)), some (.int (zI dp)), some (.int (zI (c + 1))), x4, x5], [], es)) i_233_101 rfl ?_
      exact K3 c1 v2 e_v2 c3

theorem s_la117 {O : pOut} {d kc ks : Nat} {Q : pRes → Prop} {es : PH} {pr dp c : Int} {x4 x5 : Option Value} (hs_es : sh es) (hp : 0 ≤ pr ∧ pr ≤ 22) (hd : 0 ≤ dp ∧ dp ≤ 29) (hc : 0 ≤ c ∧ c ≤ 1295) (hT_es : hOK tT es)
    (K1 : ∀ es1 : PH, es1 = sA es 95 dp.toNat (zI (c + 1)) → ∀ es2 : PH, es2 = sA es1 91 dp.toNat (zI c) → ∀ es3 : PH, makesT dp c es2 es3 → aW O (d + 2) 233 kc ks Q (142, [some (.ref 143), some (.int (zI pr)), some (.int (zI dp)), some (.int (zI c)), some (.int (zI 0)), x5], [], es3)) :
    aW O (d + 2) 233 kc ks Q (117, [some (.ref 143), some (.int (zI pr)), some (.int (zI dp)), some (.int (zI c)), x4, x5], [], es) := by
  refine x0 (r := (118, [some (.ref 143), some (.int (zI pr)), some (.int (zI dp)), some (.int (zI c)), x4, x5], [.ref 143], es)) i_233_117 rfl ?_
  refine x_getr (p := 79) (k := 159) i_233_118 hs_es rfl rfl ?_
  show aW _ _ _ _ _ _ (121, [some (.ref 143), some (.int (zI pr)), some (.int (zI dp)), some (.int (zI c)), x4, x5], [.ref 159], es)
  refine x0 (r := (122, [some (.ref 143), some (.int (zI pr)), some (.int (zI dp)), some (.int (zI c)), x4, x5], [.int (zI dp), .ref 159], es)) i_233_121 rfl ?_
  refine x0 (r := (123, [some (.ref 143), some (.int (zI pr)), some (.int (zI dp)), some (.int (zI c)), x4, x5], [.int (zI c), .int (zI dp), .ref 159], es)) i_233_122 rfl ?_
  refine x0 (r := (124, [some (.ref 143), some (.int (zI pr)), some (.int (zI dp)), some (.int (zI c)), x4, x5], [.int (zI 1), .int (zI c), .int (zI dp), .ref 159], es)) i_233_123 (by rfl) ?_
  refine x_iadd i_233_124 ?_
  refine x_iast (p := 95) i_233_125 hs_es rfl (by unfold i32 iLO iHI; omega) (by omega) (by omega) ?_
  obtain ⟨es1, e_es1⟩ : ∃ z : PH, z = sA es 95 dp.toNat (zI (c + 1)) := ⟨_, rfl⟩
  have hs_es1 : sh es1 := by rw [e_es1]; exact sh_sA hs_es
  have hT_es1 : hOK tT es1 := by rw [e_es1]; exact hOK_sA hT_es (p := 95) (n := 31) rfl (fun _ => by rw [zI_toInt (by unfold i32 iLO iHI; omega)]; exact ⟨by show (0 : Int) ≤ (c + 1); omega, by show (c + 1) ≤ (1296 : Int); omega⟩)
  rw [← e_es1]
  refine x0 (r := (127, [some (.ref 143), some (.int (zI pr)), some (.int (zI dp)), some (.int (zI c)), x4, x5], [.ref 143], es1)) i_233_126 rfl ?_
  refine x_getr (p := 79) (k := 155) i_233_127 hs_es1 rfl rfl ?_
  show aW _ _ _ _ _ _ (130, [some (.ref 143), some (.int (zI pr)), some (.int (zI dp)), some (.int (zI c)), x4, x5], [.ref 155], es1)
  refine x0 (r := (131, [some (.ref 143), some (.int (zI pr)), some (.int (zI dp)), some (.int (zI c)), x4, x5], [.int (zI dp), .ref 155], es1)) i_233_130 rfl ?_
  refine x0 (r := (132, [some (.ref 143), some (.int (zI pr)), some (.int (zI dp)), some (.int (zI c)), x4, x5], [.int (zI c), .int (zI dp), .ref 155], es1)) i_233_131 rfl ?_
  refine x_iast (p := 91) i_233_132 hs_es1 rfl (by unfold i32 iLO iHI; omega) (by omega) (by omega) ?_
  obtain ⟨es2, e_es2⟩ : ∃ z : PH, z = sA es1 91 dp.toNat (zI c) := ⟨_, rfl⟩
  have hs_es2 : sh es2 := by rw [e_es2]; exact sh_sA hs_es1
  have hT_es2 : hOK tT es2 := by rw [e_es2]; exact hOK_sA hT_es1 (p := 91) (n := 31) rfl (fun _ => by rw [zI_toInt (by unfold i32 iLO iHI; omega)]; exact ⟨by show (0 : Int) ≤ c; omega, by show c ≤ (1295 : Int); omega⟩)
  rw [← e_es2]
  refine x0 (r := (134, [some (.ref 143), some (.int (zI pr)), some (.int (zI dp)), some (.int (zI c)), x4, x5], [.ref 143], es2)) i_233_133 rfl ?_
  refine x0 (r := (135, [some (.ref 143), some (.int (zI pr)), some (.int (zI dp)), some (.int (zI c)), x4, x5], [.int (zI dp), .ref 143], es2)) i_233_134 rfl ?_
  refine x0 (r := (136, [some (.ref 143), some (.int (zI pr)), some (.int (zI dp)), some (.int (zI c)), x4, x5], [.int (zI c), .int (zI dp), .ref 143], es2)) i_233_135 rfl ?_
  refine x_call (vs := [.ref 143, .int (zI dp), .int (zI c)]) (rs := []) i_233_136 rfl (fun _ => rfl) rfl rfl rfl rfl rfl (pCall_v (p := 79) hs_es2 rfl rfl rfl rfl rfl (by decide) rfl rfl rfl rfl rfl) ?_
  show aW _ _ _ _ _ _ (0, [some (.ref 143), some (.int (zI dp)), some (.int (zI c)), none], [], es2)
  refine makes_T hs_es2 hT_es2 (by omega) (by omega) (fun es3 p_es3 => ?_)
  have hs_es3 : sh es3 := p_es3.1
  have hT_es3 : hOK tT es3 := p_es3.2.1
  show aW _ _ _ _ _ _ (139, [some (.ref 143), some (.int (zI pr)), some (.int (zI dp)), some (.int (zI c)), x4, x5], [], es3)
  refine x0 (r := (140, [some (.ref 143), some (.int (zI pr)), some (.int (zI dp)), some (.int (zI c)), x4, x5], [.int (zI 0)], es3)) i_233_139 (by rfl) ?_
  refine x0 (r := (142, [some (.ref 143), some (.int (zI pr)), some (.int (zI dp)), some (.int (zI c)), some (.int (zI 0)), x5], [], es3)) i_233_140 rfl ?_
  exact K1 es1 e_es1 es2 e_es2 es3 p_es3

theorem s_la142 {O : pOut} {d kc ks : Nat} {Q : pRes → Prop} {es : PH} {pr dp c b : Int} {x5 : Option Value} (hs_es : sh es) (hp : 0 ≤ pr ∧ pr ≤ 22) (hb : 0 ≤ b ∧ b ≤ 3) (hT_es : hOK tT es)
    (K1 : ∀ v1 : Int, v1 = (gA es 80 (Int.toNat 1)).toInt → v1 ≤ b → aW O d 233 kc ks Q (197, [some (.ref 143), some (.int (zI pr)), some (.int (zI dp)), some (.int (zI c)), some (.int (zI b)), x5], [], es))
    (K2 : ∀ v1 : Int, v1 = (gA es 80 (Int.toNat 1)).toInt → ¬ (v1 ≤ b) → aW O d 233 kc ks Q (156, [some (.ref 143), some (.int (zI pr)), some (.int (zI dp)), some (.int (zI c)), some (.int (zI b)), some (.int (zI 0))], [], es)) :
    aW O d 233 kc ks Q (142, [some (.ref 143), some (.int (zI pr)), some (.int (zI dp)), some (.int (zI c)), some (.int (zI b)), x5], [], es) := by
  refine x0 (r := (144, [some (.ref 143), some (.int (zI pr)), some (.int (zI dp)), some (.int (zI c)), some (.int (zI b)), x5], [.int (zI b)], es)) i_233_142 rfl ?_
  refine x0 (r := (145, [some (.ref 143), some (.int (zI pr)), some (.int (zI dp)), some (.int (zI c)), some (.int (zI b)), x5], [.ref 143, .int (zI b)], es)) i_233_144 rfl ?_
  refine x_getr (p := 79) (k := 144) i_233_145 hs_es rfl rfl ?_
  show aW _ _ _ _ _ _ (148, [some (.ref 143), some (.int (zI pr)), some (.int (zI dp)), some (.int (zI c)), some (.int (zI b)), x5], [.ref 144, .int (zI b)], es)
  refine x0 (r := (149, [some (.ref 143), some (.int (zI pr)), some (.int (zI dp)), some (.int (zI c)), some (.int (zI b)), x5], [.int (zI 1), .ref 144, .int (zI b)], es)) i_233_148 (by rfl) ?_
  refine x_iald (p := 80) i_233_149 hs_es rfl (by unfold i32 iLO iHI; omega) (by omega) (by omega) ?_
  obtain ⟨v1, e_v1⟩ : ∃ z : Int, z = (gA es 80 (Int.toNat 1)).toInt := ⟨_, rfl⟩
  rw [← e_v1]
  have r_v1 : iLO ≤ v1 ∧ v1 ≤ iHI := by rw [e_v1]; exact i32_rng _
  unfold iLO iHI at r_v1
  have b_v1 : (0 : Int) ≤ v1 ∧ v1 ≤ (3 : Int) := by rw [e_v1]; exact gA_bd hT_es (p := 80) (k := (Int.toNat 1)) rfl (by omega) (by decide)
  by_cases c2 : v1 ≤ b
  · refine x_cmpT i_233_150 (by unfold i32 iLO iHI; omega) (by unfold i32 iLO iHI; omega) rfl (by simp only [zC, cR]; omega) ?_
    exact K1 v1 e_v1 c2
  · refine x_cmpF i_233_150 (by unfold i32 iLO iHI; omega) (by unfold i32 iLO iHI; omega) rfl (by simp only [zC, cR]; omega) ?_
    refine x0 (r := (154, [some (.ref 143), some (.int (zI pr)), some (.int (zI dp)), some (.int (zI c)), some (.int (zI b)), x5], [.int (zI 0)], es)) i_233_153 (by rfl) ?_
    refine x0 (r := (156, [some (.ref 143), some (.int (zI pr)), some (.int (zI dp)), some (.int (zI c)), some (.int (zI b)), some (.int (zI 0))], [], es)) i_233_154 rfl ?_
    exact K2 v1 e_v1 c2

theorem s_la156 {O : pOut} {d kc ks : Nat} {Q : pRes → Prop} {es : PH} {pr dp c b n : Int} (hs_es : sh es) (hp : 0 ≤ pr ∧ pr ≤ 22) (hd : 0 ≤ dp ∧ dp ≤ 30) (hb : 0 ≤ b ∧ b ≤ 2) (hn : 0 ≤ n ∧ n ≤ 24) (hN : 0 ≤ (gA es 80 ((119 + (98 * b)) + 1).toNat).toInt ∧ (gA es 80 ((119 + (98 * b)) + 1).toNat).toInt ≤ 24) (hT_es : hOK tT es)
    (K1 : ∀ v1 : Int, v1 = (gA es 80 ((119 + (98 * b)) + 1).toNat).toInt → v1 ≤ n → aW O (d + 3) 233 kc ks Q (142, [some (.ref 143), some (.int (zI pr)), some (.int (zI dp)), some (.int (zI c)), some (.int (zI (b + 1))), some (.int (zI n))], [], es))
    (K2 : ∀ v1 : Int, v1 = (gA es 80 ((119 + (98 * b)) + 1).toNat).toInt → ¬ (v1 ≤ n) → ∀ v3 : Int, askP b es v3 → v3 = 0 → aW O (d + 3) 233 kc ks Q (142, [some (.ref 143), some (.int (zI pr)), some (.int (zI dp)), some (.int (zI c)), some (.int (zI (b + 1))), some (.int (zI n))], [], es))
    (K3 : ∀ v1 : Int, v1 = (gA es 80 ((119 + (98 * b)) + 1).toNat).toInt → ¬ (v1 ≤ n) → ∀ v3 : Int, askP b es v3 → ¬ (v3 = 0) → ∀ es5 : PH, triesZ dp b n es es5 → aW O (d + 3) 233 kc ks Q (156, [some (.ref 143), some (.int (zI pr)), some (.int (zI dp)), some (.int (zI c)), some (.int (zI b)), some (.int (zI (n + 1)))], [], es5)) :
    aW O (d + 3) 233 kc ks Q (156, [some (.ref 143), some (.int (zI pr)), some (.int (zI dp)), some (.int (zI c)), some (.int (zI b)), some (.int (zI n))], [], es) := by
  refine x0 (r := (158, [some (.ref 143), some (.int (zI pr)), some (.int (zI dp)), some (.int (zI c)), some (.int (zI b)), some (.int (zI n))], [.int (zI n)], es)) i_233_156 rfl ?_
  refine x0 (r := (159, [some (.ref 143), some (.int (zI pr)), some (.int (zI dp)), some (.int (zI c)), some (.int (zI b)), some (.int (zI n))], [.ref 143, .int (zI n)], es)) i_233_158 rfl ?_
  refine x0 (r := (161, [some (.ref 143), some (.int (zI pr)), some (.int (zI dp)), some (.int (zI c)), some (.int (zI b)), some (.int (zI n))], [.int (zI b), .ref 143, .int (zI n)], es)) i_233_159 rfl ?_
  refine x_call (vs := [.ref 143, .int (zI b)]) (rs := [.int (zI n)]) i_233_161 rfl (fun _ => rfl) rfl rfl rfl rfl rfl (pCall_v (p := 79) hs_es rfl rfl rfl rfl rfl (by decide) rfl rfl rfl rfl rfl) ?_
  show aW _ _ _ _ _ _ (0, [some (.ref 143), some (.int (zI b))], [], es)
  refine x0 (r := (1, [some (.ref 143), some (.int (zI b))], [.ref 143], es)) i_205_0 rfl ?_
  refine x0 (r := (2, [some (.ref 143), some (.int (zI b))], [.int (zI b), .ref 143], es)) i_205_1 rfl ?_
  refine x0 (r := (3, [some (.ref 143), some (.int (zI b))], [.int (zI 1), .int (zI b), .ref 143], es)) i_205_2 (by rfl) ?_
  refine x_call (vs := [.ref 143, .int (zI b), .int (zI 1)]) (rs := []) i_205_3 rfl (fun _ => rfl) rfl rfl rfl rfl rfl (pCall_v (p := 79) hs_es rfl rfl rfl rfl rfl (by decide) rfl rfl rfl rfl rfl) ?_
  show aW _ _ _ _ _ _ (0, [some (.ref 143), some (.int (zI b)), some (.int (zI 1))], [], es)
  refine x0 (r := (1, [some (.ref 143), some (.int (zI b)), some (.int (zI 1))], [.ref 143], es)) i_206_0 rfl ?_
  refine x_getr (p := 79) (k := 144) i_206_1 hs_es rfl rfl ?_
  show aW _ _ _ _ _ _ (4, [some (.ref 143), some (.int (zI b)), some (.int (zI 1))], [.ref 144], es)
  refine x0 (r := (6, [some (.ref 143), some (.int (zI b)), some (.int (zI 1))], [.int (zI 119), .ref 144], es)) i_206_4 (by rfl) ?_
  refine x0 (r := (8, [some (.ref 143), some (.int (zI b)), some (.int (zI 1))], [.int (zI 98), .int (zI 119), .ref 144], es)) i_206_6 (by rfl) ?_
  refine x0 (r := (9, [some (.ref 143), some (.int (zI b)), some (.int (zI 1))], [.int (zI b), .int (zI 98), .int (zI 119), .ref 144], es)) i_206_8 rfl ?_
  refine x_imul i_206_9 ?_
  refine x_iadd i_206_10 ?_
  refine x0 (r := (12, [some (.ref 143), some (.int (zI b)), some (.int (zI 1))], [.int (zI 1), .int (zI (119 + (98 * b))), .ref 144], es)) i_206_11 rfl ?_
  refine x_iadd i_206_12 ?_
  refine x_iald (p := 80) i_206_13 hs_es rfl (by unfold i32 iLO iHI; omega) (by omega) (by omega) ?_
  obtain ⟨v1, e_v1⟩ : ∃ z : Int, z = (gA es 80 ((119 + (98 * b)) + 1).toNat).toInt := ⟨_, rfl⟩
  rw [← e_v1]
  have r_v1 : iLO ≤ v1 ∧ v1 ≤ iHI := by rw [e_v1]; exact i32_rng _
  unfold iLO iHI at r_v1
  refine x_ret (v := some (.int (zI v1))) i_206_14 rfl (fun _ => rfl) rfl rfl rfl ?_
  show aW _ _ _ _ _ _ (6, [some (.ref 143), some (.int (zI b))], [.int (zI v1)], es)
  refine x_ret (v := some (.int (zI v1))) i_205_6 rfl (fun _ => rfl) rfl rfl rfl ?_
  show aW _ _ _ _ _ _ (164, [some (.ref 143), some (.int (zI pr)), some (.int (zI dp)), some (.int (zI c)), some (.int (zI b)), some (.int (zI n))], [.int (zI v1), .int (zI n)], es)
  by_cases c2 : v1 ≤ n
  · refine x_cmpT i_233_164 (by unfold i32 iLO iHI; omega) (by unfold i32 iLO iHI; omega) rfl (by simp only [zC, cR]; omega) ?_
    refine x_iinc (x := b) i_233_191 rfl (by show 4 < 6; decide) ?_
    show aW _ _ _ _ _ _ (194, [some (.ref 143), some (.int (zI pr)), some (.int (zI dp)), some (.int (zI c)), some (.int (zI (b + 1))), some (.int (zI n))], [], es)
    refine x0 (r := (142, [some (.ref 143), some (.int (zI pr)), some (.int (zI dp)), some (.int (zI c)), some (.int (zI (b + 1))), some (.int (zI n))], [], es)) i_233_194 rfl ?_
    exact K1 v1 e_v1 c2
  · refine x_cmpF i_233_164 (by unfold i32 iLO iHI; omega) (by unfold i32 iLO iHI; omega) rfl (by simp only [zC, cR]; omega) ?_
    refine x0 (r := (168, [some (.ref 143), some (.int (zI pr)), some (.int (zI dp)), some (.int (zI c)), some (.int (zI b)), some (.int (zI n))], [.ref 143], es)) i_233_167 rfl ?_
    refine x0 (r := (170, [some (.ref 143), some (.int (zI pr)), some (.int (zI dp)), some (.int (zI c)), some (.int (zI b)), some (.int (zI n))], [.int (zI b), .ref 143], es)) i_233_168 rfl ?_
    refine x_call (vs := [.ref 143, .int (zI b)]) (rs := []) i_233_170 rfl (fun _ => rfl) rfl rfl rfl rfl rfl (pCall_v (p := 79) hs_es rfl rfl rfl rfl rfl (by decide) rfl rfl rfl rfl rfl) ?_
    show aW _ _ _ _ _ _ (0, [some (.ref 143), some (.int (zI b))], [], es)
    refine ask_spec hs_es (by omega) (fun v3 p_v3 => ?_)
    have r_v3 := p_v3.2
    show aW _ _ _ _ _ _ (173, [some (.ref 143), some (.int (zI pr)), some (.int (zI dp)), some (.int (zI c)), some (.int (zI b)), some (.int (zI n))], [.int (zI v3)], es)
    by_cases c4 : v3 = 0
    · refine x_ifT i_233_173 (by unfold i32 iLO iHI; omega) rfl (by simp only [zC, cR]; omega) ?_
      refine x_iinc (x := b) i_233_191 rfl (by show 4 < 6; decide) ?_
      show aW _ _ _ _ _ _ (194, [some (.ref 143), some (.int (zI pr)), some (.int (zI dp)), some (.int (zI c)), some (.int (zI (b + 1))), some (.int (zI n))], [], es)
      refine x0 (r := (142, [some (.ref 143), some (.int (zI pr)), some (.int (zI dp)), some (.int (zI c)), some (.int (zI (b + 1))), some (.int (zI n))], [], es)) i_233_194 rfl ?_
      exact K2 v1 e_v1 c2 v3 p_v3 c4
    · refine x_ifF i_233_173 (by unfold i32 iLO iHI; omega) rfl (by simp only [zC, cR]; omega) ?_
      refine x0 (r := (177, [some (.ref 143), some (.int (zI pr)), some (.int (zI dp)), some (.int (zI c)), some (.int (zI b)), some (.int (zI n))], [.ref 143], es)) i_233_176 rfl ?_
      refine x0 (r := (178, [some (.ref 143), some (.int (zI pr)), some (.int (zI dp)), some (.int (zI c)), some (.int (zI b)), some (.int (zI n))], [.int (zI dp), .ref 143], es)) i_233_177 rfl ?_
      refine x0 (r := (180, [some (.ref 143), some (.int (zI pr)), some (.int (zI dp)), some (.int (zI c)), some (.int (zI b)), some (.int (zI n))], [.int (zI b), .int (zI dp), .ref 143], es)) i_233_178 rfl ?_
      refine x0 (r := (182, [some (.ref 143), some (.int (zI pr)), some (.int (zI dp)), some (.int (zI c)), some (.int (zI b)), some (.int (zI n))], [.int (zI n), .int (zI b), .int (zI dp), .ref 143], es)) i_233_180 rfl ?_
      refine x_call (vs := [.ref 143, .int (zI dp), .int (zI b), .int (zI n)]) (rs := []) i_233_182 rfl (fun _ => rfl) rfl rfl rfl rfl rfl (pCall_v (p := 79) hs_es rfl rfl rfl rfl rfl (by decide) rfl rfl rfl rfl rfl) ?_
      show aW _ _ _ _ _ _ (0, [some (.ref 143), some (.int (zI dp)), some (.int (zI b)), some (.int (zI n)), none, none, none, none, none, none, none, none, none, none], [], es)
      refine tries_T hs_es hT_es (by omega) (by omega) (by omega) (fun es5 p_es5 => ?_)
      have hs_es5 : sh es5 := p_es5.1
      have hT_es5 : hOK tT es5 := p_es5.2.1
      show aW _ _ _ _ _ _ (185, [some (.ref 143), some (.int (zI pr)), some (.int (zI dp)), some (.int (zI c)), some (.int (zI b)), some (.int (zI n))], [], es5)
      refine x_iinc (x := n) i_233_185 rfl (by show 5 < 6; decide) ?_
      show aW _ _ _ _ _ _ (188, [some (.ref 143), some (.int (zI pr)), some (.int (zI dp)), some (.int (zI c)), some (.int (zI b)), some (.int (zI (n + 1)))], [], es5)
      refine x0 (r := (156, [some (.ref 143), some (.int (zI pr)), some (.int (zI dp)), some (.int (zI c)), some (.int (zI b)), some (.int (zI (n + 1)))], [], es5)) i_233_188 rfl ?_
      exact K3 v1 e_v1 c2 v3 p_v3 c4 es5 p_es5

theorem s_la197 {O : pOut} {d kc ks : Nat} {Q : pRes → Prop} {es : PH} {pr dp c b : Int} {x5 : Option Value} (hs_es : sh es) (hp : 0 ≤ pr ∧ pr ≤ 22) (hd : 0 ≤ dp ∧ dp ≤ 29) (hT_es : hOK tT es)
    (K1 : ∀ es1 : PH, pricesP (dp + 1) es es1 → ∀ v2 : Int, v2 = (gI es1 79 25).toInt → v2 ≤ pr → aW O (d + 6) 233 kc ks Q (218, [some (.ref 143), some (.int (zI pr)), some (.int (zI (dp + 1))), some (.int (zI c)), some (.int (zI b)), x5], [], es1))
    (K2 : ∀ es1 : PH, pricesP (dp + 1) es es1 → ∀ v2 : Int, v2 = (gI es1 79 25).toInt → ¬ (v2 ≤ pr) → aW O (d + 6) 233 kc ks Q (58, [some (.ref 143), some (.int (zI pr)), some (.int (zI dp)), some (.int (zI c)), some (.int (zI b)), x5], [], es1)) :
    aW O (d + 6) 233 kc ks Q (197, [some (.ref 143), some (.int (zI pr)), some (.int (zI dp)), some (.int (zI c)), some (.int (zI b)), x5], [], es) := by
  refine x0 (r := (198, [some (.ref 143), some (.int (zI pr)), some (.int (zI dp)), some (.int (zI c)), some (.int (zI b)), x5], [.ref 143], es)) i_233_197 rfl ?_
  refine x0 (r := (199, [some (.ref 143), some (.int (zI pr)), some (.int (zI dp)), some (.int (zI c)), some (.int (zI b)), x5], [.int (zI dp), .ref 143], es)) i_233_198 rfl ?_
  refine x0 (r := (200, [some (.ref 143), some (.int (zI pr)), some (.int (zI dp)), some (.int (zI c)), some (.int (zI b)), x5], [.int (zI 1), .int (zI dp), .ref 143], es)) i_233_199 (by rfl) ?_
  refine x_iadd i_233_200 ?_
  refine x_call (vs := [.ref 143, .int (zI (dp + 1))]) (rs := []) i_233_201 rfl (fun _ => rfl) rfl rfl rfl rfl rfl (pCall_v (p := 79) hs_es rfl rfl rfl rfl rfl (by decide) rfl rfl rfl rfl rfl) ?_
  show aW _ _ _ _ _ _ (0, [some (.ref 143), some (.int (zI (dp + 1))), none, none, none], [], es)
  refine prices_T hs_es hT_es (by omega) (fun es1 p_es1 => ?_)
  have hs_es1 : sh es1 := p_es1.1
  have hT_es1 : hOK tT es1 := p_es1.2.1
  show aW _ _ _ _ _ _ (204, [some (.ref 143), some (.int (zI pr)), some (.int (zI dp)), some (.int (zI c)), some (.int (zI b)), x5], [], es1)
  refine x0 (r := (205, [some (.ref 143), some (.int (zI pr)), some (.int (zI dp)), some (.int (zI c)), some (.int (zI b)), x5], [.ref 143], es1)) i_233_204 rfl ?_
  refine x_geti (p := 79) i_233_205 hs_es1 rfl rfl ?_
  obtain ⟨v2, e_v2⟩ : ∃ z : Int, z = (gI es1 79 25).toInt := ⟨_, rfl⟩
  rw [← e_v2]
  have r_v2 : iLO ≤ v2 ∧ v2 ≤ iHI := by rw [e_v2]; exact i32_rng _
  unfold iLO iHI at r_v2
  have b_v2 : (0 : Int) ≤ v2 ∧ v2 ≤ (3000 : Int) := by rw [e_v2]; exact gI_bd hT_es1 (p := 79) (b := 25) rfl rfl
  refine x0 (r := (209, [some (.ref 143), some (.int (zI pr)), some (.int (zI dp)), some (.int (zI c)), some (.int (zI b)), x5], [.int (zI pr), .int (zI v2)], es1)) i_233_208 rfl ?_
  by_cases c3 : v2 ≤ pr
  · refine x_cmpT i_233_209 (by unfold i32 iLO iHI; omega) (by unfold i32 iLO iHI; omega) rfl (by simp only [zC, cR]; omega) ?_
    refine x_iinc (x := dp) i_233_215 rfl (by show 2 < 6; decide) ?_
    show aW _ _ _ _ _ _ (218, [some (.ref 143), some (.int (zI pr)), some (.int (zI (dp + 1))), some (.int (zI c)), some (.int (zI b)), x5], [], es1)
    exact K1 es1 p_es1 v2 e_v2 c3
  · refine x_cmpF i_233_209 (by unfold i32 iLO iHI; omega) (by unfold i32 iLO iHI; omega) rfl (by simp only [zC, cR]; omega) ?_
    refine x0 (r := (58, [some (.ref 143), some (.int (zI pr)), some (.int (zI dp)), some (.int (zI c)), some (.int (zI b)), x5], [], es1)) i_233_212 rfl ?_
    exact K2 es1 p_es1 v2 e_v2 c3

theorem s_la218 {O : pOut} {d kc ks : Nat} {Q : pRes → Prop} {es : PH} {pr dp c b : Int} {x5 : Option Value} (hs_es : sh es) (hp : 0 ≤ pr ∧ pr ≤ 22) (hd : 0 ≤ dp ∧ dp ≤ 30) (h365 : conOK O gG gInv kc_365) (hI : gInv es) (hq : 0 ≤ (gI es 79 27).toInt ∧ (gI es 79 27).toInt ≤ 10000) (hf : 0 ≤ (gI es 79 37).toInt ∧ (gI es 79 37).toInt ≤ 10000) (hT_es : hOK tT es)
    (K1 : ∀ es1 : PH, laysP dp pr es es1 → aW O (d + 7) 233 kc ks Q (58, [some (.ref 143), some (.int (zI pr)), some (.int (zI dp)), some (.int (zI c)), some (.int (zI b)), x5], [], es1)) :
    aW O (d + 7) 233 kc ks Q (218, [some (.ref 143), some (.int (zI pr)), some (.int (zI dp)), some (.int (zI c)), some (.int (zI b)), x5], [], es) := by
  refine x0 (r := (219, [some (.ref 143), some (.int (zI pr)), some (.int (zI dp)), some (.int (zI c)), some (.int (zI b)), x5], [.ref 143], es)) i_233_218 rfl ?_
  refine x0 (r := (220, [some (.ref 143), some (.int (zI pr)), some (.int (zI dp)), some (.int (zI c)), some (.int (zI b)), x5], [.int (zI dp), .ref 143], es)) i_233_219 rfl ?_
  refine x0 (r := (221, [some (.ref 143), some (.int (zI pr)), some (.int (zI dp)), some (.int (zI c)), some (.int (zI b)), x5], [.int (zI pr), .int (zI dp), .ref 143], es)) i_233_220 rfl ?_
  refine x_call (vs := [.ref 143, .int (zI dp), .int (zI pr)]) (rs := []) i_233_221 rfl (fun _ => rfl) rfl rfl rfl rfl rfl (pCall_v (p := 79) hs_es rfl rfl rfl rfl rfl (by decide) rfl rfl rfl rfl rfl) ?_
  show aW _ _ _ _ _ _ (0, [some (.ref 143), some (.int (zI dp)), some (.int (zI pr))], [], es)
  refine lays_T hs_es hT_es h365 hI (by omega) (by omega) hq hf (fun es1 p_es1 => ?_)
  have hs_es1 : sh es1 := p_es1.1
  have hT_es1 : hOK tT es1 := p_es1.2.1
  show aW _ _ _ _ _ _ (224, [some (.ref 143), some (.int (zI pr)), some (.int (zI dp)), some (.int (zI c)), some (.int (zI b)), x5], [], es1)
  refine x0 (r := (58, [some (.ref 143), some (.int (zI pr)), some (.int (zI dp)), some (.int (zI c)), some (.int (zI b)), x5], [], es1)) i_233_224 rfl ?_
  exact K1 es1 p_es1
theorem brow_begins {es es' : PH} {P : Nat → Nat} (h : beginsP es es') : brow es' 0 = bdF (gA es 80) P 0 := by
  funext i
  unfold brow bdF
  by_cases hi : i < 36
  · rw [if_pos hi, if_pos hi, show 36 * 0 + i = i by omega, h.2.2.2 i hi]
  · rw [if_neg hi, if_neg hi]
theorem brow_makes {es es' : PH} {P : Nat → Nat} {W : Nat → Int32} {D : Nat} {c : Int} (h : makesP (D : Int) c es es') (hD : brow es D = bdF W P D) (hc : P D = c.toNat) : brow es' (D + 1) = bdF W P (D + 1) := by
  funext i
  have h2 := h.2.2.2
  rw [Int.toNat_natCast] at h2
  rw [bdF]
  show brow es' (D + 1) i = if i < 36 then mkF (bdF W P D) (P D) i else 0
  by_cases hi : i < 36
  · rw [if_pos hi, h2 i hi, hD, hc]
  · rw [if_neg hi]
    unfold brow
    rw [if_neg hi]
/-- the row m of a book out of what stands there -/
theorem rwS_sumF {E : Ev} {P : Nat → Nat} {es : PH} {b m : Nat} (hE : evE es = E) (h1 : ∀ n, n ≤ nW E.W b → smS es b m n = sumF E P b m n) (h2 : ∀ n, n < nW E.W b → ftS es b m n = fitF E.W E.wo E.po (bdF E.W P m) (P m) b n) : ∀ n, n ≤ nW E.W b → rwS es b (m + 1) n = sumF E P b (m + 1) n := by
  intro n hn
  have hW : gA es 80 = E.W := by rw [← hE]; rfl
  have hP : gA es 90 = E.po := by rw [← hE]; rfl
  unfold rwS
  rw [sumF, hW, hP, Nat.add_sub_cancel]
  exact rowF_congr (N := nW E.W b) (fun _ k hk => h1 k hk) (fun _ k hk => h2 k hk) n hn
theorem rwS_sumF0 {E : Ev} {P : Nat → Nat} {es : PH} {b : Nat} (hE : evE es = E) : ∀ n, n ≤ nW E.W b → rwS es b 0 n = sumF E P b 0 n := by
  intro n hn
  have hW : gA es 80 = E.W := by rw [← hE]; rfl
  have hP : gA es 90 = E.po := by rw [← hE]; rfl
  unfold rwS
  rw [sumF, hW, hP]
  exact rowF_congr (N := nW E.W b) (fun h => absurd rfl h) (fun h => absurd rfl h) n hn
theorem prices_E {E : Ev} {P : Nat → Nat} {es es' : PH} {m : Nat} (hT : hOK tT es) (hE : evE es = E) (hp : pricesN m es es') (hr : ∀ b, b < cW E.W → E.ak b → ∀ n, n ≤ nW E.W b → rwS es b m n = sumF E P b m n) :
    (∀ b n, b < cW E.W → E.ak b → n ≤ nW E.W b → smS es' b m n = sumF E P b m n) ∧ (gI es' 79 25).toInt = soF E P m ∧ (gI es' 79 26).toInt = whF E P m := by
  obtain ⟨h1, h2, h3, h4, h5, h6⟩ := hp
  have hW : gA es 80 = E.W := by rw [← hE]; rfl
  have hA : akB es = E.ak := by rw [← hE]; rfl
  rw [hW, hA] at h4 h5 h6
  refine ⟨fun b n hb ha hn => by rw [h4 b n hb ha hn, hr b hb ha n hn], ?_, ?_⟩
  · rw [h5]
    unfold soF
    exact accF_congr _ (fun _ _ => Iff.rfl) (fun b hb ha => lstF_congr _ (fun k hk => hr b hb ha k (by omega)))
  · rw [h6]
    unfold whF
    exact accF_congr _ (fun _ _ => Iff.rfl) (fun b hb ha => hr b hb ha _ (Nat.le_refl _))
section
variable {O : pOut} {d kc ks : Nat} {Q : pRes → Prop} {es : PH} {pr c : Int} {D : Nat}
theorem tr_inner (hD : D ≤ 30) (hp : 0 ≤ pr ∧ pr ≤ 22) (hT : hOK tT es) {b : Nat} (hb : b < cW (gA es 80)) (K : ∀ es' x5, trTo D es es' (b + 1) 0 → aW O (d + 3) 233 kc ks Q (142, [some (.ref 143), some (.int (zI pr)), some (.int (zI (D : Int))), some (.int (zI c)), some (.int (zI ((b : Int) + 1))), x5], [], es')) :
    ∀ (j n : Nat) (es1 : PH), n + j = nW (gA es 80) b → trTo D es es1 b n → aW O (d + 3) 233 kc ks Q (156, [some (.ref 143), some (.int (zI pr)), some (.int (zI (D : Int))), some (.int (zI c)), some (.int (zI (b : Int))), some (.int (zI (n : Int)))], [], es1) := by
  have hs0 := sh_of hT
  have hcb := cW_bd hT
  have hnb := nW_bd hT (b := b) (by omega)
  have jn : ((119 + (98 * (b : Int))) + 1).toNat = 119 + 98 * b + 1 := by omega
  intro j
  induction j with
  | zero =>
    intro n es1 hn ht
    have hW : gA es1 80 = gA es 80 := fr_row ht.2.1 hs0 (p := 80) (t := 0) (n := 2125) (sp := tS80) rfl (by decide) (fun k => by simp only [mHq, true_and, and_true, false_and, and_false, or_false, false_or, not_false_eq_true, Nat.reduceEqDiff] <;> omega)
    have done : trTo D es es1 (b + 1) 0 := ⟨ht.1, ht.2.1, fun b' n' h1 h2 h3 h4 => ht.2.2 b' n' (by
      rcases h1 with h1 | h1
      · by_cases hbb : b' = b
        · subst hbb; exact Or.inr ⟨rfl, by omega⟩
        · exact Or.inl (by omega)
      · omega) h2 h3 h4⟩
    refine s_la156 (d := d) (sh_of ht.1) hp ⟨by omega, by omega⟩ ⟨by omega, by omega⟩ ⟨by omega, by omega⟩ (by rw [jn, hW]; omega) ht.1 (fun v1 e1 h1 => K es1 _ done) (fun v1 e1 h1 v3 p3 h3 => K es1 _ done) (fun v1 e1 h1 => ?_)
    rw [jn, hW] at e1
    omega
  | succ j ih =>
    intro n es1 hn ht
    have hW : gA es1 80 = gA es 80 := fr_row ht.2.1 hs0 (p := 80) (t := 0) (n := 2125) (sp := tS80) rfl (by decide) (fun k => by simp only [mHq, true_and, and_true, false_and, and_false, or_false, false_or, not_false_eq_true, Nat.reduceEqDiff] <;> omega)
    have hA : gI es1 79 18 = gI es 79 18 := fr_fld ht.2.1 hs0 (p := 79) (b := 18) rfl (by simp only [mHq, true_and, and_true, false_and, and_false, or_false, false_or, not_false_eq_true, Nat.reduceEqDiff] <;> omega)
    have e9 : ((n + 1 : Nat) : Int) = (n : Int) + 1 := by omega
    refine s_la156 (d := d) (sh_of ht.1) hp ⟨by omega, by omega⟩ ⟨by omega, by omega⟩ ⟨by omega, by omega⟩ (by rw [jn, hW]; omega) ht.1 (fun v1 e1 h1 => ?_) (fun v1 e1 h1 v3 p3 h3 => K es1 _ ⟨ht.1, ht.2.1, fun b' n' q1 q2 q3 q4 => ?_⟩) (fun v1 e1 h1 v3 p3 h3 es5 p5 => ?_)
    · rw [jn, hW] at e1
      omega
    · by_cases hbb : b' = b
      · exfalso
        subst hbb
        have := p3.1
        rw [hA] at this
        unfold akB at q3
        rw [if_pos q3] at this
        omega
      · exact ht.2.2 b' n' (Or.inl (by omega)) q2 q3 q4
    · unfold triesZ at p5
      simp only [Int.toNat_natCast] at p5
      obtain ⟨q1, q2, q3, q4⟩ := p5
      have := ih (n + 1) es5 (by omega) ⟨q2, fr_trans ht.2.1 (fr_wk (by simp only [mAl, mHq, true_and, and_true, false_and, and_false, or_false, false_or, not_false_eq_true, Nat.reduceEqDiff] <;> (repeat' apply And.intro) <;> intros <;> omega) q3), fun b' n' r1 r2 r3 r4 => ?_⟩
      · rw [e9] at this
        exact this
      · have hcell : ∀ x, x ≠ 72 * D + 24 * b + n → gA es5 92 x = gA es1 92 x := fun x hx => fr_at q3 (sh_of ht.1) (p := 92) (t := 0) (n := 2232) rfl (by decide) (by simp only [mHq, true_and, and_true, false_and, and_false, or_false, false_or, not_false_eq_true, Nat.reduceEqDiff] <;> omega)
        by_cases hbn : b' = b ∧ n' = n
        · obtain ⟨rfl, rfl⟩ := hbn
          unfold ftS
          rw [q4, hW, fr_row ht.2.1 hs0 (p := 89) (t := 0) (n := 3) rfl (by decide) (fun k => by simp only [mHq, true_and, and_true, false_and, and_false, or_false, false_or, not_false_eq_true, Nat.reduceEqDiff] <;> omega), fr_row ht.2.1 hs0 (p := 90) (t := 0) (n := 8) rfl (by decide) (fun k => by simp only [mHq, true_and, and_true, false_and, and_false, or_false, false_or, not_false_eq_true, Nat.reduceEqDiff] <;> omega), fr_row ht.2.1 hs0 (p := 91) (t := 0) (n := 31) rfl (by decide) (fun k => by simp only [mHq, true_and, and_true, false_and, and_false, or_false, false_or, not_false_eq_true, Nat.reduceEqDiff] <;> omega)]
          have hB : brow es1 D = brow es D := by
            funext i; unfold brow
            rw [fr_row ht.2.1 hs0 (p := 87) (t := 0) (n := 1116) rfl (by decide) (fun k => by simp only [mHq, true_and, and_true, false_and, and_false, or_false, false_or, not_false_eq_true, Nat.reduceEqDiff] <;> omega)]
          rw [hB]
          rfl
        · have h24 := (nW_bd hT (b := b') (by omega)).2
          have : ftS es5 b' D n' = ftS es1 b' D n' := by
            unfold ftS
            rw [hcell _ (by omega)]
          rw [this]
          exact ht.2.2 b' n' (by omega) r2 r3 r4
theorem tr_outer (hD : D ≤ 30) (hp : 0 ≤ pr ∧ pr ≤ 22) (hT : hOK tT es) (K : ∀ es' b x5, trAll D es es' → aW O (d + 3) 233 kc ks Q (197, [some (.ref 143), some (.int (zI pr)), some (.int (zI (D : Int))), some (.int (zI c)), some (.int (zI b)), x5], [], es')) :
    ∀ (j b : Nat) (es1 : PH) (x5 : Option Value), b + j = cW (gA es 80) → trTo D es es1 b 0 → aW O (d + 3) 233 kc ks Q (142, [some (.ref 143), some (.int (zI pr)), some (.int (zI (D : Int))), some (.int (zI c)), some (.int (zI (b : Int))), x5], [], es1) := by
  have hs0 := sh_of hT
  have hcb := cW_bd hT
  intro j
  induction j with
  | zero =>
    intro b es1 x5 hb ht
    have hW : gA es1 80 = gA es 80 := fr_row ht.2.1 hs0 (p := 80) (t := 0) (n := 2125) (sp := tS80) rfl (by decide) (fun k => by simp only [mHq, true_and, and_true, false_and, and_false, or_false, false_or, not_false_eq_true, Nat.reduceEqDiff] <;> omega)
    refine s_la142 (d := d + 3) (sh_of ht.1) hp ⟨by omega, by omega⟩ ht.1 (fun v1 e1 h1 => K es1 _ _ ⟨sh_of ht.1, ht.1, ht.2.1, fun b' n' h1 h2 h3 => ht.2.2 b' n' (Or.inl (by omega)) h1 h2 h3⟩) (fun v1 e1 h1 => ?_)
    have e1' : v1 = (gA es1 80 1).toInt := e1
    rw [hW] at e1'
    omega
  | succ j ih =>
    intro b es1 x5 hb ht
    have hW : gA es1 80 = gA es 80 := fr_row ht.2.1 hs0 (p := 80) (t := 0) (n := 2125) (sp := tS80) rfl (by decide) (fun k => by simp only [mHq, true_and, and_true, false_and, and_false, or_false, false_or, not_false_eq_true, Nat.reduceEqDiff] <;> omega)
    refine s_la142 (d := d + 3) (sh_of ht.1) hp ⟨by omega, by omega⟩ ht.1 (fun v1 e1 h1 => ?_) (fun v1 e1 h1 => ?_)
    · have e1' : v1 = (gA es1 80 1).toInt := e1
      rw [hW] at e1'
      omega
    · exact tr_inner hD hp hT (b := b) (by omega) (fun es' y5 h' => ih (b + 1) es' y5 (by omega) h') (nW (gA es 80) b) 0 es1 (Nat.zero_add _) ht
/-- the step out of 117 -/
def frS (D : Nat) : List aMod := [(95, 0, D, D + 1), (91, 0, D, D + 1), (87, 0, 36 * (D + 1), 36 * (D + 2)), (92, 0, 72 * D, 72 * D + 72), (93, 0, 72 * D, 72 * D + 72), (79, 27, 0, 1), (79, 28, 0, 1), (94, 0, 25 * (D + 1), 25 * (D + 1) + 25), (94, 0, 25 * (31 + (D + 1)), 25 * (31 + (D + 1)) + 25), (94, 0, 25 * (62 + (D + 1)), 25 * (62 + (D + 1)) + 25)]
def stepN (E : Ev) (D C : Nat) (es es5 : PH) : Prop := hOK tT es5 ∧ fr (frS D) es es5 ∧ (gA es5 95 D).toInt = (C : Int) + 1 ∧ pth es5 D = C ∧ rwsAt E (pth es5) es5 (D + 1) ∧ (gI es5 79 25).toInt = soF E (pth es5) (D + 1) ∧ (gI es5 79 26).toInt = whF E (pth es5) (D + 1)
theorem la_step {E : Ev} {C : Nat} (hD : D ≤ 29) (hC : C ≤ 1295) (hp : 0 ≤ pr ∧ pr ≤ 22) (hT : hOK tT es) (hE : evE es = E) (hr : rwsAt E (pth es) es D)
    (K1 : ∀ es5 x4 x5, stepN E D C es es5 → soF E (pth es5) (D + 1) ≤ pr → aW O (d + 7) 233 kc ks Q (218, [some (.ref 143), some (.int (zI pr)), some (.int (zI ((D : Int) + 1))), some (.int (zI (C : Int))), some (.int (zI x4)), x5], [], es5))
    (K2 : ∀ es5 x4 x5, stepN E D C es es5 → ¬ soF E (pth es5) (D + 1) ≤ pr → aW O (d + 7) 233 kc ks Q (58, [some (.ref 143), some (.int (zI pr)), some (.int (zI (D : Int))), some (.int (zI (C : Int))), some (.int (zI x4)), x5], [], es5)) (x4 x5 : Option Value) :
    aW O (d + 7) 233 kc ks Q (117, [some (.ref 143), some (.int (zI pr)), some (.int (zI (D : Int))), some (.int (zI (C : Int))), x4, x5], [], es) := by
  have hs0 := sh_of hT
  refine s_la117 (d := d + 5) hs0 hp ⟨by omega, by omega⟩ ⟨by omega, by omega⟩ hT (fun es1 e1 es2 e2 es3 p3 => ?_)
  rw [Int.toNat_natCast] at e1 e2
  have z1 : (zI ((C : Int) + 1)).toInt = (C : Int) + 1 := zI_toInt (by unfold i32 iLO iHI; omega)
  have z2 : (zI (C : Int)).toInt = (C : Int) := zI_toInt (by unfold i32 iLO iHI; omega)
  have hT1 : hOK tT es1 := by rw [e1]; exact hOK_sA hT (p := 95) (t := 0) (n := 31) rfl (fun _ => by rw [z1]; exact ⟨by show (0 : Int) ≤ _; omega, by show _ ≤ (1296 : Int); omega⟩)
  have hT2 : hOK tT es2 := by rw [e2]; exact hOK_sA hT1 (p := 91) (t := 0) (n := 31) rfl (fun _ => by rw [z2]; exact ⟨by show (0 : Int) ≤ _; omega, by show _ ≤ (1295 : Int); omega⟩)
  have f2 : fr [(95, 0, D, D + 1), (91, 0, D, D + 1)] es es2 := by
    rw [e2, e1]
    exact fr_trans (fr_sA (mIn_yes (by simp only [mHq, true_and, and_true, false_and, and_false, or_false, false_or, not_false_eq_true, Nat.reduceEqDiff] <;> omega))) (fr_sA (mIn_yes (by simp only [mHq, true_and, and_true, false_and, and_false, or_false, false_or, not_false_eq_true, Nat.reduceEqDiff] <;> omega)))
  have c95 : (gA es2 95 D).toInt = (C : Int) + 1 := by
    rw [e2, gA_sA_ne (by decide), e1, gA_sA hs0 (p := 95) (t := 0) (n := 31) rfl (by decide)]
    unfold upd
    rw [if_pos rfl, z1]
  have c91 : (gA es2 91 D).toInt = (C : Int) := by
    rw [e2, gA_sA (sh_of hT1) (p := 91) (t := 0) (n := 31) rfl (by decide)]
    unfold upd
    rw [if_pos rfl, z2]
  obtain ⟨hs3, hT3, m3⟩ := p3
  have f3 : fr [(87, 0, 36 * (D + 1), 36 * (D + 2))] es2 es3 := by
    have := m3.2.2.1
    rw [Int.toNat_natCast] at this
    exact this
  have f13 : fr [(95, 0, D, D + 1), (91, 0, D, D + 1), (87, 0, 36 * (D + 1), 36 * (D + 2))] es es3 := fr_trans (fr_wk (by simp only [mAl, mHq, true_and, and_true, false_and, and_false, or_false, false_or, not_false_eq_true, Nat.reduceEqDiff] <;> (repeat' apply And.intro) <;> intros <;> omega) f2) (fr_wk (by simp only [mAl, mHq, true_and, and_true, false_and, and_false, or_false, false_or, not_false_eq_true, Nat.reduceEqDiff] <;> (repeat' apply And.intro) <;> intros <;> omega) f3)
  have hE3 : evE es3 = E := by rw [← hE]; exact evE_fr f13 hs0 (fun k => by simp only [mHq, true_and, and_true, false_and, and_false, or_false, false_or, not_false_eq_true, Nat.reduceEqDiff] <;> omega) (fun k => by simp only [mHq, true_and, and_true, false_and, and_false, or_false, false_or, not_false_eq_true, Nat.reduceEqDiff] <;> omega) (fun k => by simp only [mHq, true_and, and_true, false_and, and_false, or_false, false_or, not_false_eq_true, Nat.reduceEqDiff] <;> omega) (by simp only [mHq, true_and, and_true, false_and, and_false, or_false, false_or, not_false_eq_true, Nat.reduceEqDiff] <;> omega) (by simp only [mHq, true_and, and_true, false_and, and_false, or_false, false_or, not_false_eq_true, Nat.reduceEqDiff] <;> omega)
  have hW3 : gA es3 80 = E.W := by rw [← hE3]; rfl
  refine tr_outer (d := d + 4) (D := D) (c := (C : Int)) (by omega) hp hT3 (fun es4 b y5 h4 => ?_) (cW (gA es3 80)) 0 es3 x5 (Nat.zero_add _) ⟨hT3, fr_refl _ _, fun b' n' q => by omega⟩
  obtain ⟨hs4, hT4, f4, t4⟩ := h4
  have f14 : fr [(95, 0, D, D + 1), (91, 0, D, D + 1), (87, 0, 36 * (D + 1), 36 * (D + 2)), (92, 0, 72 * D, 72 * D + 72), (93, 0, 72 * D, 72 * D + 72)] es es4 := fr_trans (fr_wk (by simp only [mAl, mHq, true_and, and_true, false_and, and_false, or_false, false_or, not_false_eq_true, Nat.reduceEqDiff] <;> (repeat' apply And.intro) <;> intros <;> omega) f13) (fr_wk (by simp only [mAl, mHq, true_and, and_true, false_and, and_false, or_false, false_or, not_false_eq_true, Nat.reduceEqDiff] <;> (repeat' apply And.intro) <;> intros <;> omega) f4)
  have hE4 : evE es4 = E := by rw [← hE]; exact evE_fr f14 hs0 (fun k => by simp only [mHq, true_and, and_true, false_and, and_false, or_false, false_or, not_false_eq_true, Nat.reduceEqDiff] <;> omega) (fun k => by simp only [mHq, true_and, and_true, false_and, and_false, or_false, false_or, not_false_eq_true, Nat.reduceEqDiff] <;> omega) (fun k => by simp only [mHq, true_and, and_true, false_and, and_false, or_false, false_or, not_false_eq_true, Nat.reduceEqDiff] <;> omega) (by simp only [mHq, true_and, and_true, false_and, and_false, or_false, false_or, not_false_eq_true, Nat.reduceEqDiff] <;> omega) (by simp only [mHq, true_and, and_true, false_and, and_false, or_false, false_or, not_false_eq_true, Nat.reduceEqDiff] <;> omega)
  have hp4 : ∀ k, k ≠ D → pth es4 k = pth es k := fun k hk => by
    unfold pth
    rw [fr_at f14 hs0 (p := 91) (t := 0) (n := 31) rfl (by decide) (by simp only [mHq, true_and, and_true, false_and, and_false, or_false, false_or, not_false_eq_true, Nat.reduceEqDiff] <;> omega)]
  have hp34 : ∀ k, pth es4 k = pth es3 k := fun k => by
    unfold pth
    rw [fr_at f4 hs3 (p := 91) (t := 0) (n := 31) rfl (by decide) (by simp only [mHq, true_and, and_true, false_and, and_false, or_false, false_or, not_false_eq_true, Nat.reduceEqDiff] <;> omega)]
  have hpD : pth es4 D = C := by
    rw [hp34]
    unfold pth
    rw [fr_at f3 (sh_of hT2) (p := 91) (t := 0) (n := 31) rfl (by decide) (by simp only [mHq, true_and, and_true, false_and, and_false, or_false, false_or, not_false_eq_true, Nat.reduceEqDiff] <;> omega), c91, Int.toNat_natCast]
  have cg : ∀ i, i < D → pth es i = pth es4 i := fun i hi => (hp4 i (by omega)).symm
  have b2 : brow es2 D = bdF E.W (pth es4) D := by
    rw [← bdF_congr D cg, ← hr.1]
    funext i; unfold brow
    rw [fr_row f2 hs0 (p := 87) (t := 0) (n := 1116) rfl (by decide) (fun k => by simp only [mHq, true_and, and_true, false_and, and_false, or_false, false_or, not_false_eq_true, Nat.reduceEqDiff] <;> omega)]
  have b3 : brow es3 (D + 1) = bdF E.W (pth es4) (D + 1) := brow_makes m3 b2 (by rw [hpD, Int.toNat_natCast])
  have b3D : brow es3 D = bdF E.W (pth es4) D := by
    rw [← b2]
    funext i; unfold brow
    by_cases hi : i < 36
    · rw [if_pos hi, if_pos hi, fr_at f3 (sh_of hT2) (p := 87) (t := 0) (n := 1116) rfl (by decide) (by simp only [mHq, true_and, and_true, false_and, and_false, or_false, false_or, not_false_eq_true, Nat.reduceEqDiff] <;> omega)]
    · rw [if_neg hi, if_neg hi]
  refine s_la197 (d := d + 1) hs4 hp ⟨by omega, by omega⟩ hT4 (fun es5 p5 v2 e2 h2 => ?_) (fun es5 p5 v2 e2 h2 => ?_)
  all_goals
    have p5' : pricesN (D + 1) es4 es5 := by
      unfold pricesP at p5
      rw [show ((D : Int) + 1).toNat = D + 1 by omega] at p5
      exact p5
    have f5 : fr (frP (D + 1)) es4 es5 := p5'.2.2.1
    have hp5 : ∀ k, pth es5 k = pth es4 k := fun k => by
      unfold pth
      rw [fr_at f5 hs4 (p := 91) (t := 0) (n := 31) rfl (by decide) (by simp only [frP, mHq, true_and, and_true, false_and, and_false, or_false, false_or, not_false_eq_true, Nat.reduceEqDiff] <;> omega)]
    have hpe : pth es5 = pth es4 := funext hp5
    have hst : stepN E D C es es5 ∧ (gI es5 79 25).toInt = soF E (pth es5) (D + 1) := by
      obtain ⟨r1, r2, r3⟩ := prices_E (P := pth es4) hT4 hE4 p5' (fun b hb ha n hn => by
        refine rwS_sumF hE4 (fun k hk => ?_) (fun k hk => ?_) n hn
        · rw [← sumF_congr D cg, ← hr.2 b k hb ha hk]
          unfold smS
          rw [fr_row f14 hs0 (p := 94) (t := 0) (n := 2325) rfl (by decide) (fun k => by simp only [mHq, true_and, and_true, false_and, and_false, or_false, false_or, not_false_eq_true, Nat.reduceEqDiff] <;> omega)]
        · have := t4 b k (by rw [hW3]; exact hb) (by
            have hA : akB es3 = E.ak := by rw [← hE3]; rfl
            rw [hA]; exact ha) (by rw [hW3]; exact hk)
          rw [this, hW3, b3D, ← hp34, show gA es3 89 = E.wo by rw [← hE3]; rfl, show gA es3 90 = E.po by rw [← hE3]; rfl])
      rw [← hpe] at r1 r2 r3
      refine ⟨⟨p5'.2.1, ?_, ?_, by rw [hpe, hpD], ⟨?_, r1⟩, r2, r3⟩, r2⟩
      · exact fr_trans (fr_wk (by simp only [mAl, frS, mHq, true_and, and_true, false_and, and_false, or_false, false_or, not_false_eq_true, Nat.reduceEqDiff] <;> (repeat' apply And.intro) <;> intros <;> omega) f14) (fr_wk (by simp only [mAl, frS, frP, mHq, true_and, and_true, false_and, and_false, or_false, false_or, not_false_eq_true, Nat.reduceEqDiff] <;> (repeat' apply And.intro) <;> intros <;> omega) f5)
      · rw [fr_at f5 hs4 (p := 95) (t := 0) (n := 31) rfl (by decide) (by simp only [frP, mHq, true_and, and_true, false_and, and_false, or_false, false_or, not_false_eq_true, Nat.reduceEqDiff] <;> omega), fr_at f4 hs3 (p := 95) (t := 0) (n := 31) rfl (by decide) (by simp only [mHq, true_and, and_true, false_and, and_false, or_false, false_or, not_false_eq_true, Nat.reduceEqDiff] <;> omega), fr_at f3 (sh_of hT2) (p := 95) (t := 0) (n := 31) rfl (by decide) (by simp only [mHq, true_and, and_true, false_and, and_false, or_false, false_or, not_false_eq_true, Nat.reduceEqDiff] <;> omega)]
        exact c95
      · rw [hpe, ← b3]
        funext i; unfold brow
        rw [fr_row f5 hs4 (p := 87) (t := 0) (n := 1116) rfl (by decide) (fun k => by simp only [frP, mHq, true_and, and_true, false_and, and_false, or_false, false_or, not_false_eq_true, Nat.reduceEqDiff] <;> omega), fr_row f4 hs3 (p := 87) (t := 0) (n := 1116) rfl (by decide) (fun k => by simp only [mHq, true_and, and_true, false_and, and_false, or_false, false_or, not_false_eq_true, Nat.reduceEqDiff] <;> omega)]
    obtain ⟨hst, h25⟩ := hst
    rw [h25] at e2
  · exact K1 es5 b y5 hst (by omega)
  · exact K2 es5 b y5 hst (by omega)
end
