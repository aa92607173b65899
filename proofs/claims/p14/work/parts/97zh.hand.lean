/-! THE RELATION, and the cases of the law by hand; printed by wip/rel/p14.py -/
theorem i_167_0 : iRow 167 0 = some (.aload_n 0, 0, 0, 0, (some (Jvm.ClassFile.FieldType.int))) := rfl
theorem i_167_1 : iRow 167 1 = some (.getfield 3, 164, 12, 0, (some (Jvm.ClassFile.FieldType.int))) := rfl
theorem i_167_4 : iRow 167 4 = some (.ireturn, 0, 0, 0, (some (Jvm.ClassFile.FieldType.int))) := rfl
set_option maxRecDepth 20000 in
theorem i_301_742 : iRow 301 742 = some (.aload_n 1, 0, 0, 0, (some (Jvm.ClassFile.FieldType.boolean))) := rfl
set_option maxRecDepth 20000 in
theorem i_301_743 : iRow 301 743 = some (.aload_n 0, 0, 0, 0, (some (Jvm.ClassFile.FieldType.boolean))) := rfl
set_option maxRecDepth 20000 in
theorem i_301_744 : iRow 301 744 = some (.iload 4, 0, 0, 0, (some (Jvm.ClassFile.FieldType.boolean))) := rfl
set_option maxRecDepth 20000 in
theorem i_301_746 : iRow 301 746 = some (.iconst 1, 0, 0, 0, (some (Jvm.ClassFile.FieldType.boolean))) := rfl
set_option maxRecDepth 20000 in
theorem i_301_747 : iRow 301 747 = some (.iadd, 0, 0, 0, (some (Jvm.ClassFile.FieldType.boolean))) := rfl
set_option maxRecDepth 20000 in
theorem i_301_748 : iRow 301 748 = some (.iaload, 0, 0, 0, (some (Jvm.ClassFile.FieldType.boolean))) := rfl
set_option maxRecDepth 20000 in
theorem i_301_749 : iRow 301 749 = some (.aload_n 0, 0, 0, 0, (some (Jvm.ClassFile.FieldType.boolean))) := rfl
set_option maxRecDepth 20000 in
theorem i_301_750 : iRow 301 750 = some (.iload 4, 0, 0, 0, (some (Jvm.ClassFile.FieldType.boolean))) := rfl
set_option maxRecDepth 20000 in
theorem i_301_752 : iRow 301 752 = some (.iconst 2, 0, 0, 0, (some (Jvm.ClassFile.FieldType.boolean))) := rfl
set_option maxRecDepth 20000 in
theorem i_301_753 : iRow 301 753 = some (.iadd, 0, 0, 0, (some (Jvm.ClassFile.FieldType.boolean))) := rfl
set_option maxRecDepth 20000 in
theorem i_301_754 : iRow 301 754 = some (.iaload, 0, 0, 0, (some (Jvm.ClassFile.FieldType.boolean))) := rfl
set_option maxRecDepth 20000 in
theorem i_301_755 : iRow 301 755 = some (.aload_n 3, 0, 0, 0, (some (Jvm.ClassFile.FieldType.boolean))) := rfl
set_option maxRecDepth 20000 in
theorem i_301_756 : iRow 301 756 = some (.invokestatic 154, 184, 286, 0, (some (Jvm.ClassFile.FieldType.boolean))) := rfl
set_option maxRecDepth 20000 in
theorem i_301_759 : iRow 301 759 = some (.istore 5, 0, 0, 0, (some (Jvm.ClassFile.FieldType.boolean))) := rfl
set_option maxRecDepth 20000 in
theorem i_301_761 : iRow 301 761 = some (.aload_n 2, 0, 0, 0, (some (Jvm.ClassFile.FieldType.boolean))) := rfl
set_option maxRecDepth 20000 in
theorem i_301_762 : iRow 301 762 = some (.aload_n 0, 0, 0, 0, (some (Jvm.ClassFile.FieldType.boolean))) := rfl
set_option maxRecDepth 20000 in
theorem i_301_763 : iRow 301 763 = some (.iload 4, 0, 0, 0, (some (Jvm.ClassFile.FieldType.boolean))) := rfl
set_option maxRecDepth 20000 in
theorem i_301_765 : iRow 301 765 = some (.iconst 1, 0, 0, 0, (some (Jvm.ClassFile.FieldType.boolean))) := rfl
set_option maxRecDepth 20000 in
theorem i_301_766 : iRow 301 766 = some (.iadd, 0, 0, 0, (some (Jvm.ClassFile.FieldType.boolean))) := rfl
set_option maxRecDepth 20000 in
theorem i_301_767 : iRow 301 767 = some (.iaload, 0, 0, 0, (some (Jvm.ClassFile.FieldType.boolean))) := rfl
set_option maxRecDepth 20000 in
theorem i_301_768 : iRow 301 768 = some (.aload_n 0, 0, 0, 0, (some (Jvm.ClassFile.FieldType.boolean))) := rfl
set_option maxRecDepth 20000 in
theorem i_301_769 : iRow 301 769 = some (.iload 4, 0, 0, 0, (some (Jvm.ClassFile.FieldType.boolean))) := rfl
set_option maxRecDepth 20000 in
theorem i_301_771 : iRow 301 771 = some (.iconst 2, 0, 0, 0, (some (Jvm.ClassFile.FieldType.boolean))) := rfl
set_option maxRecDepth 20000 in
theorem i_301_772 : iRow 301 772 = some (.iadd, 0, 0, 0, (some (Jvm.ClassFile.FieldType.boolean))) := rfl
set_option maxRecDepth 20000 in
theorem i_301_773 : iRow 301 773 = some (.iaload, 0, 0, 0, (some (Jvm.ClassFile.FieldType.boolean))) := rfl
set_option maxRecDepth 20000 in
theorem i_301_774 : iRow 301 774 = some (.invokevirtual 156, 302, 213, 1, (some (Jvm.ClassFile.FieldType.boolean))) := rfl
set_option maxRecDepth 20000 in
theorem i_301_777 : iRow 301 777 = some (.istore 6, 0, 0, 0, (some (Jvm.ClassFile.FieldType.boolean))) := rfl
set_option maxRecDepth 20000 in
theorem i_301_779 : iRow 301 779 = some (.aload_n 2, 0, 0, 0, (some (Jvm.ClassFile.FieldType.boolean))) := rfl
set_option maxRecDepth 20000 in
theorem i_301_780 : iRow 301 780 = some (.invokevirtual 157, 253, 167, 1, (some (Jvm.ClassFile.FieldType.boolean))) := rfl
set_option maxRecDepth 20000 in
theorem i_301_783 : iRow 301 783 = some (.iload 5, 0, 0, 0, (some (Jvm.ClassFile.FieldType.boolean))) := rfl
set_option maxRecDepth 20000 in
theorem i_301_785 : iRow 301 785 = some (.if_icmp .eq 5, 0, 0, 0, (some (Jvm.ClassFile.FieldType.boolean))) := rfl
set_option maxRecDepth 20000 in
theorem i_301_788 : iRow 301 788 = some (.iconst 0, 0, 0, 0, (some (Jvm.ClassFile.FieldType.boolean))) := rfl
set_option maxRecDepth 20000 in
theorem i_301_789 : iRow 301 789 = some (.ireturn, 0, 0, 0, (some (Jvm.ClassFile.FieldType.boolean))) := rfl
set_option maxRecDepth 20000 in
theorem i_301_790 : iRow 301 790 = some (.iload 5, 0, 0, 0, (some (Jvm.ClassFile.FieldType.boolean))) := rfl
set_option maxRecDepth 20000 in
theorem i_301_792 : iRow 301 792 = some (.ifCond .ne 15, 0, 0, 0, (some (Jvm.ClassFile.FieldType.boolean))) := rfl
set_option maxRecDepth 20000 in
theorem i_301_795 : iRow 301 795 = some (.aload_n 3, 0, 0, 0, (some (Jvm.ClassFile.FieldType.boolean))) := rfl
set_option maxRecDepth 20000 in
theorem i_301_796 : iRow 301 796 = some (.iconst 0, 0, 0, 0, (some (Jvm.ClassFile.FieldType.boolean))) := rfl
set_option maxRecDepth 20000 in
theorem i_301_797 : iRow 301 797 = some (.laload, 0, 0, 0, (some (Jvm.ClassFile.FieldType.boolean))) := rfl
set_option maxRecDepth 20000 in
theorem i_301_798 : iRow 301 798 = some (.iload 6, 0, 0, 0, (some (Jvm.ClassFile.FieldType.boolean))) := rfl
set_option maxRecDepth 20000 in
theorem i_301_800 : iRow 301 800 = some (.i2l, 0, 0, 0, (some (Jvm.ClassFile.FieldType.boolean))) := rfl
set_option maxRecDepth 20000 in
theorem i_301_801 : iRow 301 801 = some (.lcmp, 0, 0, 0, (some (Jvm.ClassFile.FieldType.boolean))) := rfl
set_option maxRecDepth 20000 in
theorem i_301_802 : iRow 301 802 = some (.ifCond .eq 5, 0, 0, 0, (some (Jvm.ClassFile.FieldType.boolean))) := rfl
set_option maxRecDepth 20000 in
theorem i_301_805 : iRow 301 805 = some (.iconst 0, 0, 0, 0, (some (Jvm.ClassFile.FieldType.boolean))) := rfl
set_option maxRecDepth 20000 in
theorem i_301_806 : iRow 301 806 = some (.ireturn, 0, 0, 0, (some (Jvm.ClassFile.FieldType.boolean))) := rfl
set_option maxRecDepth 20000 in
theorem i_301_807 : iRow 301 807 = some (.goto 632, 0, 0, 0, (some (Jvm.ClassFile.FieldType.boolean))) := rfl
set_option maxRecDepth 20000 in
theorem i_301_1390 : iRow 301 1390 = some (.aload_n 1, 0, 0, 0, (some (Jvm.ClassFile.FieldType.boolean))) := rfl
set_option maxRecDepth 20000 in
theorem i_301_1391 : iRow 301 1391 = some (.invokevirtual 216, 75, 70, 1, (some (Jvm.ClassFile.FieldType.boolean))) := rfl
set_option maxRecDepth 20000 in
theorem i_301_1394 : iRow 301 1394 = some (.aload_n 2, 0, 0, 0, (some (Jvm.ClassFile.FieldType.boolean))) := rfl
set_option maxRecDepth 20000 in
theorem i_301_1395 : iRow 301 1395 = some (.invokevirtual 219, 256, 169, 1, (some (Jvm.ClassFile.FieldType.boolean))) := rfl
set_option maxRecDepth 20000 in
theorem i_301_1398 : iRow 301 1398 = some (.goto 41, 0, 0, 0, (some (Jvm.ClassFile.FieldType.boolean))) := rfl
set_option maxRecDepth 20000 in
theorem i_301_1401 : iRow 301 1401 = some (.aload_n 1, 0, 0, 0, (some (Jvm.ClassFile.FieldType.boolean))) := rfl
set_option maxRecDepth 20000 in
theorem i_301_1402 : iRow 301 1402 = some (.invokevirtual 220, 77, 72, 1, (some (Jvm.ClassFile.FieldType.boolean))) := rfl
set_option maxRecDepth 20000 in
theorem i_301_1405 : iRow 301 1405 = some (.pop, 0, 0, 0, (some (Jvm.ClassFile.FieldType.boolean))) := rfl
set_option maxRecDepth 20000 in
theorem i_301_1406 : iRow 301 1406 = some (.aload_n 2, 0, 0, 0, (some (Jvm.ClassFile.FieldType.boolean))) := rfl
set_option maxRecDepth 20000 in
theorem i_301_1407 : iRow 301 1407 = some (.invokevirtual 224, 257, 170, 1, (some (Jvm.ClassFile.FieldType.boolean))) := rfl
set_option maxRecDepth 20000 in
theorem i_301_1410 : iRow 301 1410 = some (.pop, 0, 0, 0, (some (Jvm.ClassFile.FieldType.boolean))) := rfl
set_option maxRecDepth 20000 in
theorem i_301_1411 : iRow 301 1411 = some (.goto 28, 0, 0, 0, (some (Jvm.ClassFile.FieldType.boolean))) := rfl
set_option maxRecDepth 20000 in
theorem i_301_1439 : iRow 301 1439 = some (.iinc 4 7, 0, 0, 0, (some (Jvm.ClassFile.FieldType.boolean))) := rfl
set_option maxRecDepth 20000 in
theorem i_301_1442 : iRow 301 1442 = some (.goto (-1419), 0, 0, 0, (some (Jvm.ClassFile.FieldType.boolean))) := rfl
def j_flag (es : PH) : Prop := gI es 0 9 = gI es 79 3
def c_flag : List aMod := [(0, 11, 0, 1), (79, 5, 0, 1)]
theorem kp_flag {Mo : List aMod} {es es' : PH} (h : fr Mo es es') (hs : sh es) (hM : Mo.all (mFree c_flag) = true) (hj : j_flag es) : j_flag es' := by
  have q0 := (fr_gI h hs (p := 0) (b := 9) rfl (mIn_free hM (lo := 0) (hi := 1) (by decide) (Nat.le_refl 0) (by omega)) : gI es' 0 9 = gI es 0 9)
  have q1 := (fr_gI h hs (p := 79) (b := 3) rfl (mIn_free hM (lo := 0) (hi := 1) (by decide) (Nat.le_refl 0) (by omega)) : gI es' 79 3 = gI es 79 3)
  show gI es' 0 9 = gI es' 79 3
  rw [q0, q1]
  exact hj
def j_prices (es : PH) : Prop := ∀ k, k < 8 → gA es 15 k = gA es 80 (5 + k)
def c_prices : List aMod := [(15, 0, 0, 8), (80, 0, 5, 13)]
theorem kp_prices {Mo : List aMod} {es es' : PH} (h : fr Mo es es') (hs : sh es) (hM : Mo.all (mFree c_prices) = true) (hj : j_prices es) : j_prices es' := by
  have q0 := (fun k h1 h2 => fr_gA h hs (p := 15) (t := 0) (n := 8) rfl (by decide) (mIn_free hM (lo := 0) (hi := 8) (by decide) h1 h2) : ∀ k, 0 ≤ k → k < 8 → gA es' 15 k = gA es 15 k)
  have q1 := (fun k h1 h2 => fr_gA h hs (p := 80) (t := 0) (n := 2125) (sp := tS80) rfl (by decide) (mIn_free hM (lo := 5) (hi := 13) (by decide) h1 h2) : ∀ k, 5 ≤ k → k < 13 → gA es' 80 k = gA es 80 k)
  intro k hk
  rw [q0 k (Nat.zero_le k) hk, q1 (5 + k) (by omega) (by omega)]
  exact hj k hk
def j_pricesI (es : PH) : Prop := (gI es 79 3).toInt ≠ 0 → ∀ k, k < 8 → gA es 26 k = gA es 81 (5 + k)
def c_pricesI : List aMod := [(26, 0, 0, 8), (81, 0, 5, 13), (79, 5, 0, 1)]
theorem kp_pricesI {Mo : List aMod} {es es' : PH} (h : fr Mo es es') (hs : sh es) (hM : Mo.all (mFree c_pricesI) = true) (hj : j_pricesI es) : j_pricesI es' := by
  have q0 := (fun k h1 h2 => fr_gA h hs (p := 26) (t := 0) (n := 8) rfl (by decide) (mIn_free hM (lo := 0) (hi := 8) (by decide) h1 h2) : ∀ k, 0 ≤ k → k < 8 → gA es' 26 k = gA es 26 k)
  have q1 := (fun k h1 h2 => fr_gA h hs (p := 81) (t := 0) (n := 1284) (sp := tS81) rfl (by decide) (mIn_free hM (lo := 5) (hi := 13) (by decide) h1 h2) : ∀ k, 5 ≤ k → k < 13 → gA es' 81 k = gA es 81 k)
  have q2 := (fr_gI h hs (p := 79) (b := 3) rfl (mIn_free hM (lo := 0) (hi := 1) (by decide) (Nat.le_refl 0) (by omega)) : gI es' 79 3 = gI es 79 3)
  intro hf k hk
  rw [q2] at hf
  rw [q0 k (Nat.zero_le k) hk, q1 (5 + k) (by omega) (by omega)]
  exact hj hf k hk
/-- what holds between both sides, ahead of every call -/
def J (es : PH) : Prop := j_flag es ∧ j_prices es ∧ j_pricesI es
theorem jMo_free : lawMoJ.all (mFree jProt) = true := by decide +kernel
theorem J_fr {es es' : PH} (hT : hOK tT es) (hf : fr lawMoJ es es') (hJ : J es) : J es' := by
  have hs := sh_of hT
  obtain ⟨j0, j1, j2⟩ := hJ
  exact ⟨kp_flag hf hs (free_sub jMo_free (by decide)) j0, kp_prices hf hs (free_sub jMo_free (by decide)) j1, kp_pricesI hf hs (free_sub jMo_free (by decide)) j2⟩
theorem J_start {es : PH} (h : startF es) : J es := by
  obtain ⟨f0, f1, f2, f3⟩ := h
  exact ⟨(by show gI es 0 9 = gI es 79 3; rw [f0, f1] : j_flag es), (fun k hk => by rw [f2 k hk, f3 k hk] : j_prices es), (fun hf => by rw [f1] at hf; exact absurd rfl hf : j_pricesI es)⟩
theorem s_l12a {O : pOut} {d kc ks : Nat} {Q : pRes → Prop} {es : PH} {xs : Nat → Int32} {n0 : Nat} {i : Int} {x5 x6 x7 : Option Value} (hs_es : sh es) (h_i : 0 ≤ i ∧ i + 7 ≤ (n0 : Int)) (hn0 : n0 ≤ 3584) (hO : O 7 = some (n0, xs))
    (K1 : ∀ v1 : Int, v1 = (xs (i + 1).toNat).toInt → ∀ v2 : Int, v2 = (xs (i + 2).toNat).toInt → aW O d 301 kc ks Q (756, [some (.ref 7), some (.ref 64), some (.ref 143), some (.ref 171), some (.int (zI i)), x5, x6, x7], [.ref 171, .int (zI v2), .int (zI v1), .ref 64], es)) :
    aW O d 301 kc ks Q (742, [some (.ref 7), some (.ref 64), some (.ref 143), some (.ref 171), some (.int (zI i)), x5, x6, x7], [], es) := by
  refine x0 (r := (743, [some (.ref 7), some (.ref 64), some (.ref 143), some (.ref 171), some (.int (zI i)), x5, x6, x7], [.ref 64], es)) i_301_742 rfl ?_
  refine x0 (r := (744, [some (.ref 7), some (.ref 64), some (.ref 143), some (.ref 171), some (.int (zI i)), x5, x6, x7], [.ref 7, .ref 64], es)) i_301_743 rfl ?_
  refine x0 (r := (746, [some (.ref 7), some (.ref 64), some (.ref 143), some (.ref 171), some (.int (zI i)), x5, x6, x7], [.int (zI i), .ref 7, .ref 64], es)) i_301_744 rfl ?_
  refine x0 (r := (747, [some (.ref 7), some (.ref 64), some (.ref 143), some (.ref 171), some (.int (zI i)), x5, x6, x7], [.int (zI 1), .int (zI i), .ref 7, .ref 64], es)) i_301_746 (by rfl) ?_
  refine x_iadd i_301_747 ?_
  refine x_oald (n := n0) (g := xs) i_301_748 hO (by unfold i32 iLO iHI; omega) (by omega) (by omega) ?_
  obtain ⟨v1, e_v1⟩ : ∃ z : Int, z = (xs (i + 1).toNat).toInt := ⟨_, rfl⟩
  rw [← e_v1]
  have r_v1 : iLO ≤ v1 ∧ v1 ≤ iHI := by rw [e_v1]; exact i32_rng _
  unfold iLO iHI at r_v1
  refine x0 (r := (750, [some (.ref 7), some (.ref 64), some (.ref 143), some (.ref 171), some (.int (zI i)), x5, x6, x7], [.ref 7, .int (zI v1), .ref 64], es)) i_301_749 rfl ?_
  refine x0 (r := (752, [some (.ref 7), some (.ref 64), some (.ref 143), some (.ref 171), some (.int (zI i)), x5, x6, x7], [.int (zI i), .ref 7, .int (zI v1), .ref 64], es)) i_301_750 rfl ?_
  refine x0 (r := (753, [some (.ref 7), some (.ref 64), some (.ref 143), some (.ref 171), some (.int (zI i)), x5, x6, x7], [.int (zI 2), .int (zI i), .ref 7, .int (zI v1), .ref 64], es)) i_301_752 (by rfl) ?_
  refine x_iadd i_301_753 ?_
  refine x_oald (n := n0) (g := xs) i_301_754 hO (by unfold i32 iLO iHI; omega) (by omega) (by omega) ?_
  obtain ⟨v2, e_v2⟩ : ∃ z : Int, z = (xs (i + 2).toNat).toInt := ⟨_, rfl⟩
  rw [← e_v2]
  have r_v2 : iLO ≤ v2 ∧ v2 ≤ iHI := by rw [e_v2]; exact i32_rng _
  unfold iLO iHI at r_v2
  refine x0 (r := (756, [some (.ref 7), some (.ref 64), some (.ref 143), some (.ref 171), some (.int (zI i)), x5, x6, x7], [.ref 171, .int (zI v2), .int (zI v1), .ref 64], es)) i_301_755 rfl ?_
  exact K1 v1 e_v1 v2 e_v2
theorem s_l12b {O : pOut} {d kc ks : Nat} {Q : pRes → Prop} {es : PH} {xs : Nat → Int32} {n0 : Nat} {i k : Int} {x5 x6 x7 : Option Value} (hs_es : sh es) (h_i : 0 ≤ i ∧ i + 7 ≤ (n0 : Int)) (hn0 : n0 ≤ 3584) (hO : O 7 = some (n0, xs))
    (K1 : ∀ v1 : Int, v1 = (xs (i + 1).toNat).toInt → ∀ v2 : Int, v2 = (xs (i + 2).toNat).toInt → aW O d 301 kc ks Q (774, [some (.ref 7), some (.ref 64), some (.ref 143), some (.ref 171), some (.int (zI i)), some (.int (zI k)), x6, x7], [.int (zI v2), .int (zI v1), .ref 143], es)) :
    aW O d 301 kc ks Q (759, [some (.ref 7), some (.ref 64), some (.ref 143), some (.ref 171), some (.int (zI i)), x5, x6, x7], [.int (zI k)], es) := by
  refine x0 (r := (761, [some (.ref 7), some (.ref 64), some (.ref 143), some (.ref 171), some (.int (zI i)), some (.int (zI k)), x6, x7], [], es)) i_301_759 rfl ?_
  refine x0 (r := (762, [some (.ref 7), some (.ref 64), some (.ref 143), some (.ref 171), some (.int (zI i)), some (.int (zI k)), x6, x7], [.ref 143], es)) i_301_761 rfl ?_
  refine x0 (r := (763, [some (.ref 7), some (.ref 64), some (.ref 143), some (.ref 171), some (.int (zI i)), some (.int (zI k)), x6, x7], [.ref 7, .ref 143], es)) i_301_762 rfl ?_
  refine x0 (r := (765, [some (.ref 7), some (.ref 64), some (.ref 143), some (.ref 171), some (.int (zI i)), some (.int (zI k)), x6, x7], [.int (zI i), .ref 7, .ref 143], es)) i_301_763 rfl ?_
  refine x0 (r := (766, [some (.ref 7), some (.ref 64), some (.ref 143), some (.ref 171), some (.int (zI i)), some (.int (zI k)), x6, x7], [.int (zI 1), .int (zI i), .ref 7, .ref 143], es)) i_301_765 (by rfl) ?_
  refine x_iadd i_301_766 ?_
  refine x_oald (n := n0) (g := xs) i_301_767 hO (by unfold i32 iLO iHI; omega) (by omega) (by omega) ?_
  obtain ⟨v1, e_v1⟩ : ∃ z : Int, z = (xs (i + 1).toNat).toInt := ⟨_, rfl⟩
  rw [← e_v1]
  have r_v1 : iLO ≤ v1 ∧ v1 ≤ iHI := by rw [e_v1]; exact i32_rng _
  unfold iLO iHI at r_v1
  refine x0 (r := (769, [some (.ref 7), some (.ref 64), some (.ref 143), some (.ref 171), some (.int (zI i)), some (.int (zI k)), x6, x7], [.ref 7, .int (zI v1), .ref 143], es)) i_301_768 rfl ?_
  refine x0 (r := (771, [some (.ref 7), some (.ref 64), some (.ref 143), some (.ref 171), some (.int (zI i)), some (.int (zI k)), x6, x7], [.int (zI i), .ref 7, .int (zI v1), .ref 143], es)) i_301_769 rfl ?_
  refine x0 (r := (772, [some (.ref 7), some (.ref 64), some (.ref 143), some (.ref 171), some (.int (zI i)), some (.int (zI k)), x6, x7], [.int (zI 2), .int (zI i), .ref 7, .int (zI v1), .ref 143], es)) i_301_771 (by rfl) ?_
  refine x_iadd i_301_772 ?_
  refine x_oald (n := n0) (g := xs) i_301_773 hO (by unfold i32 iLO iHI; omega) (by omega) (by omega) ?_
  obtain ⟨v2, e_v2⟩ : ∃ z : Int, z = (xs (i + 2).toNat).toInt := ⟨_, rfl⟩
  rw [← e_v2]
  have r_v2 : iLO ≤ v2 ∧ v2 ≤ iHI := by rw [e_v2]; exact i32_rng _
  unfold iLO iHI at r_v2
  exact K1 v1 e_v1 v2 e_v2
theorem s_l12c {O : pOut} {d kc ks : Nat} {Q : pRes → Prop} {es : PH} {xs : Nat → Int32} {n0 : Nat} {i k b : Int} {x6 x7 : Option Value} (hs_es : sh es) (h_i : 0 ≤ i ∧ i + 7 ≤ (n0 : Int)) (hn0 : n0 ≤ 3584) (hO : O 7 = some (n0, xs)) (h_k : -2147483648 ≤ k ∧ k ≤ 2147483647) (h_b : -2147483648 ≤ b ∧ b ≤ 2147483647)
    (K1 : ∀ v1 : Int, v1 = (gI es 79 0).toInt → v1 = k → k ≠ 0 → aW O (d + 1) 301 kc ks Q (23, [some (.ref 7), some (.ref 64), some (.ref 143), some (.ref 171), some (.int (zI (i + 7))), some (.int (zI k)), some (.int (zI b)), x7], [], es))
    (K2 : ∀ v1 : Int, v1 = (gI es 79 0).toInt → v1 = k → ¬ (k ≠ 0) → ∀ w4 : Int64, w4 = gJ es 107 (Int.toNat 0) → ∀ v5 : Int, v5 = sgn (w4.toInt - ((zI b).toInt64).toInt) → v5 = 0 → aW O (d + 1) 301 kc ks Q (23, [some (.ref 7), some (.ref 64), some (.ref 143), some (.ref 171), some (.int (zI (i + 7))), some (.int (zI k)), some (.int (zI b)), x7], [], es))
    (K3 : ∀ v1 : Int, v1 = (gI es 79 0).toInt → v1 = k → ¬ (k ≠ 0) → ∀ w4 : Int64, w4 = gJ es 107 (Int.toNat 0) → ∀ v5 : Int, v5 = sgn (w4.toInt - ((zI b).toInt64).toInt) → ¬ (v5 = 0) → Q (.inl (some (.int (zI 0))), es, kc, ks))
    (K4 : ∀ v1 : Int, v1 = (gI es 79 0).toInt → ¬ (v1 = k) → Q (.inl (some (.int (zI 0))), es, kc, ks)) :
    aW O (d + 1) 301 kc ks Q (777, [some (.ref 7), some (.ref 64), some (.ref 143), some (.ref 171), some (.int (zI i)), some (.int (zI k)), x6, x7], [.int (zI b)], es) := by
  refine x0 (r := (779, [some (.ref 7), some (.ref 64), some (.ref 143), some (.ref 171), some (.int (zI i)), some (.int (zI k)), some (.int (zI b)), x7], [], es)) i_301_777 rfl ?_
  refine x0 (r := (780, [some (.ref 7), some (.ref 64), some (.ref 143), some (.ref 171), some (.int (zI i)), some (.int (zI k)), some (.int (zI b)), x7], [.ref 143], es)) i_301_779 rfl ?_
  refine x_call (vs := [.ref 143]) (rs := []) i_301_780 rfl (fun _ => rfl) rfl rfl rfl rfl rfl (pCall_v (p := 79) hs_es rfl rfl rfl rfl rfl (by decide) rfl rfl rfl rfl rfl) ?_
  show aW _ _ _ _ _ _ (0, [some (.ref 143)], [], es)
  refine x0 (r := (1, [some (.ref 143)], [.ref 143], es)) i_167_0 rfl ?_
  refine x_geti (p := 79) i_167_1 hs_es rfl rfl ?_
  obtain ⟨v1, e_v1⟩ : ∃ z : Int, z = (gI es 79 0).toInt := ⟨_, rfl⟩
  rw [← e_v1]
  have r_v1 : iLO ≤ v1 ∧ v1 ≤ iHI := by rw [e_v1]; exact i32_rng _
  unfold iLO iHI at r_v1
  refine x_ret (v := some (.int (zI v1))) i_167_4 rfl (fun _ => rfl) rfl rfl rfl ?_
  show aW _ _ _ _ _ _ (783, [some (.ref 7), some (.ref 64), some (.ref 143), some (.ref 171), some (.int (zI i)), some (.int (zI k)), some (.int (zI b)), x7], [.int (zI v1)], es)
  refine x0 (r := (785, [some (.ref 7), some (.ref 64), some (.ref 143), some (.ref 171), some (.int (zI i)), some (.int (zI k)), some (.int (zI b)), x7], [.int (zI k), .int (zI v1)], es)) i_301_783 rfl ?_
  by_cases c2 : v1 = k
  · refine x_cmpT i_301_785 (by unfold i32 iLO iHI; omega) (by unfold i32 iLO iHI; omega) rfl (by simp only [zC, cR]; omega) ?_
    refine x0 (r := (792, [some (.ref 7), some (.ref 64), some (.ref 143), some (.ref 171), some (.int (zI i)), some (.int (zI k)), some (.int (zI b)), x7], [.int (zI k)], es)) i_301_790 rfl ?_
    by_cases c3 : k ≠ 0
    · refine x_ifT i_301_792 (by unfold i32 iLO iHI; omega) rfl (by simp only [zC, cR]; omega) ?_
      refine x0 (r := (1439, [some (.ref 7), some (.ref 64), some (.ref 143), some (.ref 171), some (.int (zI i)), some (.int (zI k)), some (.int (zI b)), x7], [], es)) i_301_807 rfl ?_
      refine x_iinc (x := i) i_301_1439 rfl (by show 4 < 8; decide) ?_
      show aW _ _ _ _ _ _ (1442, [some (.ref 7), some (.ref 64), some (.ref 143), some (.ref 171), some (.int (zI (i + 7))), some (.int (zI k)), some (.int (zI b)), x7], [], es)
      refine x0 (r := (23, [some (.ref 7), some (.ref 64), some (.ref 143), some (.ref 171), some (.int (zI (i + 7))), some (.int (zI k)), some (.int (zI b)), x7], [], es)) i_301_1442 rfl ?_
      exact K1 v1 e_v1 c2 c3
    · refine x_ifF i_301_792 (by unfold i32 iLO iHI; omega) rfl (by simp only [zC, cR]; omega) ?_
      refine x0 (r := (796, [some (.ref 7), some (.ref 64), some (.ref 143), some (.ref 171), some (.int (zI i)), some (.int (zI k)), some (.int (zI b)), x7], [.ref 171], es)) i_301_795 rfl ?_
      refine x0 (r := (797, [some (.ref 7), some (.ref 64), some (.ref 143), some (.ref 171), some (.int (zI i)), some (.int (zI k)), some (.int (zI b)), x7], [.int (zI 0), .ref 171], es)) i_301_796 (by rfl) ?_
      refine x_lald (p := 107) i_301_797 hs_es rfl (by unfold i32 iLO iHI; omega) (by omega) (by omega) ?_
      obtain ⟨w4, e_w4⟩ : ∃ z : Int64, z = gJ es 107 (Int.toNat 0) := ⟨_, rfl⟩
      rw [← e_w4]
      refine x0 (r := (800, [some (.ref 7), some (.ref 64), some (.ref 143), some (.ref 171), some (.int (zI i)), some (.int (zI k)), some (.int (zI b)), x7], [.int (zI b), .long w4], es)) i_301_798 rfl ?_
      refine x0 (r := (801, [some (.ref 7), some (.ref 64), some (.ref 143), some (.ref 171), some (.int (zI i)), some (.int (zI k)), some (.int (zI b)), x7], [.long ((zI b).toInt64), .long w4], es)) i_301_800 rfl ?_
      refine x_lcmp i_301_801 ?_
      obtain ⟨v5, e_v5⟩ : ∃ z : Int, z = sgn (w4.toInt - ((zI b).toInt64).toInt) := ⟨_, rfl⟩
      rw [← e_v5]
      have r_v5 : iLO ≤ v5 ∧ v5 ≤ iHI := by rw [e_v5]; exact sgn_i32
      unfold iLO iHI at r_v5
      by_cases c6 : v5 = 0
      · refine x_ifT i_301_802 (by unfold i32 iLO iHI; omega) rfl (by simp only [zC, cR]; omega) ?_
        refine x0 (r := (1439, [some (.ref 7), some (.ref 64), some (.ref 143), some (.ref 171), some (.int (zI i)), some (.int (zI k)), some (.int (zI b)), x7], [], es)) i_301_807 rfl ?_
        refine x_iinc (x := i) i_301_1439 rfl (by show 4 < 8; decide) ?_
        show aW _ _ _ _ _ _ (1442, [some (.ref 7), some (.ref 64), some (.ref 143), some (.ref 171), some (.int (zI (i + 7))), some (.int (zI k)), some (.int (zI b)), x7], [], es)
        refine x0 (r := (23, [some (.ref 7), some (.ref 64), some (.ref 143), some (.ref 171), some (.int (zI (i + 7))), some (.int (zI k)), some (.int (zI b)), x7], [], es)) i_301_1442 rfl ?_
        exact K2 v1 e_v1 c2 c3 w4 e_w4 v5 e_v5 c6
      · refine x_ifF i_301_802 (by unfold i32 iLO iHI; omega) rfl (by simp only [zC, cR]; omega) ?_
        refine x0 (r := (806, [some (.ref 7), some (.ref 64), some (.ref 143), some (.ref 171), some (.int (zI i)), some (.int (zI k)), some (.int (zI b)), x7], [.int (zI 0)], es)) i_301_805 (by rfl) ?_
        refine x_ret (v := some (.int (zI 0))) i_301_806 rfl (fun _ => rfl) rfl rfl (pFin_b (by omega)) ?_
        exact K3 v1 e_v1 c2 c3 w4 e_w4 v5 e_v5 c6
  · refine x_cmpF i_301_785 (by unfold i32 iLO iHI; omega) (by unfold i32 iLO iHI; omega) rfl (by simp only [zC, cR]; omega) ?_
    refine x0 (r := (789, [some (.ref 7), some (.ref 64), some (.ref 143), some (.ref 171), some (.int (zI i)), some (.int (zI k)), some (.int (zI b)), x7], [.int (zI 0)], es)) i_301_788 (by rfl) ?_
    refine x_ret (v := some (.int (zI 0))) i_301_789 rfl (fun _ => rfl) rfl rfl (pFin_b (by omega)) ?_
    exact K4 v1 e_v1 c2
theorem lh_12 {xs : Nat → Int32} {n : Nat} (hn : n ≤ 3584) {i : Int} {es : PH} {kc ks : Nat} {x5 x6 x7 : Option Value} (h0 : 0 ≤ i) (h7 : i + 7 ≤ (n : Int)) (hT : hOK tT es) (hI : gInv es) (hJ : J es) (K : lawK J xs n i kc ks) : aW (pO0 xs n) 41 301 kc ks lawQ (742, lawL i x5 x6 x7, [], es) := by
  refine s_l12a (d := 41) (n0 := n) (xs := xs) (sh_of hT) ⟨h0, h7⟩ hn rfl (fun v1 e_v1 v2 e_v2 => ?_)
  have b_v1 : i32 v1 := by rw [e_v1]; exact i32_rng _
  have b_v2 : i32 v2 := by rw [e_v2]; exact i32_rng _
  have hJ0 := hJ
  obtain ⟨j_flag_, j_prices_, j_pricesI_⟩ := hJ0
  refine x_call (vs := [.ref 64, .int (zI v1), .int (zI v2), .ref 171]) (rs := []) i_301_756 rfl (fun _ => rfl) rfl rfl rfl rfl rfl rfl ?_
  show aW _ _ _ _ _ _ (0, [some (.ref 64), some (.int (zI v1)), some (.int (zI v2)), some (.ref 171), none], [], es)
  refine aW_sh (aW_and (bs_286 hn (by decide) b_v1 b_v2 hT hI) (fn_yprice (O := pO0 xs n) (d := 38) b_v1 b_v2 hT)) (fun r es1 c1 k1 hp => ?_)
  obtain ⟨⟨hT1, hI1, hf1, hc1, hk1⟩, hp1⟩ : (hOK tT es1 ∧ gInv es1 ∧ fr kc_387.2.2.2.2.2.1 es es1 ∧ c1 ≤ 1 ∧ k1 ≤ 6) ∧ yprP v1 v2 es r es1 := hp
  obtain ⟨hs1, k, rfl, hk⟩ := hp1
  have hkr : -2147483648 ≤ k ∧ k ≤ 2147483647 := by rcases hk with ⟨h, -⟩ | ⟨h, -⟩ | ⟨h, -⟩ <;> omega
  show aW _ _ _ _ _ _ (759, [some (.ref 7), some (.ref 64), some (.ref 143), some (.ref 171), some (.int (zI i)), x5, x6, x7], [.int (zI k)], es1)
  refine s_l12b (d := 41) (n0 := n) (xs := xs) (sh_of hT1) ⟨h0, h7⟩ hn rfl (fun wv1 e_wv1 wv2 e_wv2 => ?_)
  rw [show wv1 = v1 from by rw [e_wv1, e_v1]]
  rw [show wv2 = v2 from by rw [e_wv2, e_v2]]
  refine x_call (vs := [.ref 143, .int (zI v1), .int (zI v2)]) (rs := []) i_301_774 rfl (fun _ => rfl) rfl rfl rfl rfl rfl (pCall_v (p := 79) (sh_of hT1) rfl rfl rfl rfl rfl (by decide) rfl rfl rfl rfl rfl) ?_
  show aW _ _ _ _ _ _ (0, [some (.ref 143), some (.int (zI v1)), some (.int (zI v2)), none], [], es1)
  refine aW_sh (aW_and (bs_213 hn (by decide) b_v1 b_v2 hT1 hI1) (fn_mprice (O := pO0 xs n) (d := 39) b_v1 b_v2 hT1)) (fun r2 es2 c2 k2 hq => ?_)
  obtain ⟨⟨hT2, hI2, hf2, hc2, hk2⟩, hp2⟩ : (hOK tT es2 ∧ gInv es2 ∧ fr kc_336.2.2.2.2.2.1 es1 es2 ∧ c2 ≤ 0 ∧ k2 ≤ 0) ∧ mprP v1 v2 es1 r2 es2 := hq
  obtain ⟨hs2, hj2, b, rfl, hbr, hb⟩ := hp2
  have hJ2 : J es2 := by
    have n_prices : j_prices es2 := by
      intro j hj9
      have f15 : gA es2 15 j = gA es1 15 j := keepA hf2 (sh_of hT1) (p := 15) (t := 0) (n := 8) rfl (by decide) (by decide) j hj9
      have f80 : gA es1 80 (5 + j) = gA es 80 (5 + j) := keepA hf1 (sh_of hT) (p := 80) (t := 0) (n := 2125) (sp := tS80) rfl (by decide) (by decide) (5 + j) (by omega)
      rw [f15]
      rcases hk with ⟨-, h, g1⟩ | ⟨-, h, g1⟩ | ⟨-, h, g1, -⟩
      · rcases hb with ⟨-, -, g2⟩ | ⟨-, -, g2⟩ | ⟨-, h', -⟩
        · rw [g1, g2, f80]; exact j_prices_ j hj9
        · rw [g1, g2, f80]; exact j_prices_ j hj9
        · exfalso; omega
      · rcases hb with ⟨-, -, g2⟩ | ⟨-, -, g2⟩ | ⟨-, h', -⟩
        · rw [g1, g2, f80]; exact j_prices_ j hj9
        · rw [g1, g2, f80]; exact j_prices_ j hj9
        · exfalso; omega
      · rcases hb with ⟨-, h', -⟩ | ⟨-, h', -⟩ | ⟨-, -, -, g2⟩
        · exfalso; omega
        · exfalso; omega
        · rw [g1, g2]
          unfold upd
          by_cases hks : j = v1.toNat
          · rw [if_pos hks, if_pos (by omega)]
          · rw [if_neg hks, if_neg (by omega), f80]
            exact j_prices_ j hj9
    exact ⟨kp_flag hf2 (sh_of hT1) (by decide) (kp_flag hf1 (sh_of hT) (by decide) j_flag_), n_prices, kp_pricesI hf2 (sh_of hT1) (by decide) (kp_pricesI hf1 (sh_of hT) (by decide) j_pricesI_)⟩
  have fin : ∀ y5 y6 y7, aW (pO0 xs n) 41 301 (kc + c1 + c2) (ks + k1 + k2) lawQ (23, lawL (i + 7) y5 y6 y7, [], es2) := fun y5 y6 y7 => K es2 _ _ y5 y6 y7 hT2 hI2 hJ2 (by omega) (by omega)
  show aW _ _ _ _ _ _ (777, [some (.ref 7), some (.ref 64), some (.ref 143), some (.ref 171), some (.int (zI i)), some (.int (zI k)), x6, x7], [.int (zI b)], es2)
  have t0 : (gI es2 79 0).toInt = k := by rcases hk with ⟨h, h', -⟩ | ⟨h, h', -⟩ | ⟨h, h', -⟩ <;> rcases hb with ⟨q, q', -⟩ | ⟨q, q', -⟩ | ⟨q, q', -⟩ <;> omega
  have t1 : k = 0 → (gJ es2 107 (Int.toNat 0)).toInt = b := by
    intro hk0
    rw [hj2]
    rcases hk with ⟨h, -⟩ | ⟨h, -⟩ | ⟨h, h', -, g1⟩
    · exfalso; omega
    · exfalso; omega
    · rcases hb with ⟨q, q', -⟩ | ⟨q, q', -⟩ | ⟨q, q', g2, -⟩
      · exfalso; omega
      · exfalso; omega
      · rw [g1, g2, show (5 + v1).toNat = 5 + v1.toNat by omega, keepA hf1 (sh_of hT) (p := 80) (t := 0) (n := 2125) (sp := tS80) rfl (by decide) (by decide) (5 + v1.toNat) (by omega), j_prices_ _ (by omega)]
  exact s_l12c (O := pO0 xs n) (d := 40) (n0 := n) (xs := xs) (sh_of hT2) ⟨h0, h7⟩ hn rfl hkr hbr (fun v1 e_v1 c2 c3 => (fin _ _ _)) (fun v1 e_v1 c2 c3 w4 e_w4 v5 e_v5 c6 => (fin _ _ _)) (fun v1 e_v1 c2 c3 w4 e_w4 v5 e_v5 c6 => (absurd (show v5 = 0 by rw [e_v5, sgn_z, i2l_int hbr, e_w4]; have := t1 (by omega); omega) c6)) (fun v1 e_v1 c2 => (by exfalso; omega))
theorem s_l30a {O : pOut} {d kc ks : Nat} {Q : pRes → Prop} {es : PH} {xs : Nat → Int32} {n0 : Nat} {i : Int} {x5 x6 x7 : Option Value} (hs_es : sh es) (h_i : 0 ≤ i ∧ i + 7 ≤ (n0 : Int)) (hn0 : n0 ≤ 3584) (hO : O 7 = some (n0, xs))
    (K1 : aW O d 301 kc ks Q (1391, [some (.ref 7), some (.ref 64), some (.ref 143), some (.ref 171), some (.int (zI i)), x5, x6, x7], [.ref 64], es)) :
    aW O d 301 kc ks Q (1390, [some (.ref 7), some (.ref 64), some (.ref 143), some (.ref 171), some (.int (zI i)), x5, x6, x7], [], es) := by
  refine x0 (r := (1391, [some (.ref 7), some (.ref 64), some (.ref 143), some (.ref 171), some (.int (zI i)), x5, x6, x7], [.ref 64], es)) i_301_1390 rfl ?_
  exact K1
theorem s_l30b {O : pOut} {d kc ks : Nat} {Q : pRes → Prop} {es : PH} {xs : Nat → Int32} {n0 : Nat} {i : Int} {x5 x6 x7 : Option Value} (hs_es : sh es) (h_i : 0 ≤ i ∧ i + 7 ≤ (n0 : Int)) (hn0 : n0 ≤ 3584) (hO : O 7 = some (n0, xs))
    (K1 : aW O d 301 kc ks Q (1395, [some (.ref 7), some (.ref 64), some (.ref 143), some (.ref 171), some (.int (zI i)), x5, x6, x7], [.ref 143], es)) :
    aW O d 301 kc ks Q (1394, [some (.ref 7), some (.ref 64), some (.ref 143), some (.ref 171), some (.int (zI i)), x5, x6, x7], [], es) := by
  refine x0 (r := (1395, [some (.ref 7), some (.ref 64), some (.ref 143), some (.ref 171), some (.int (zI i)), x5, x6, x7], [.ref 143], es)) i_301_1394 rfl ?_
  exact K1
theorem s_l30c {O : pOut} {d kc ks : Nat} {Q : pRes → Prop} {es : PH} {xs : Nat → Int32} {n0 : Nat} {i : Int} {x5 x6 x7 : Option Value} (hs_es : sh es) (h_i : 0 ≤ i ∧ i + 7 ≤ (n0 : Int)) (hn0 : n0 ≤ 3584) (hO : O 7 = some (n0, xs))
    (K1 : aW O d 301 kc ks Q (23, [some (.ref 7), some (.ref 64), some (.ref 143), some (.ref 171), some (.int (zI (i + 7))), x5, x6, x7], [], es)) :
    aW O d 301 kc ks Q (1398, [some (.ref 7), some (.ref 64), some (.ref 143), some (.ref 171), some (.int (zI i)), x5, x6, x7], [], es) := by
  refine x0 (r := (1439, [some (.ref 7), some (.ref 64), some (.ref 143), some (.ref 171), some (.int (zI i)), x5, x6, x7], [], es)) i_301_1398 rfl ?_
  refine x_iinc (x := i) i_301_1439 rfl (by show 4 < 8; decide) ?_
  show aW _ _ _ _ _ _ (1442, [some (.ref 7), some (.ref 64), some (.ref 143), some (.ref 171), some (.int (zI (i + 7))), x5, x6, x7], [], es)
  refine x0 (r := (23, [some (.ref 7), some (.ref 64), some (.ref 143), some (.ref 171), some (.int (zI (i + 7))), x5, x6, x7], [], es)) i_301_1442 rfl ?_
  exact K1
theorem lh_30 {xs : Nat → Int32} {n : Nat} (hn : n ≤ 3584) {i : Int} {es : PH} {kc ks : Nat} {x5 x6 x7 : Option Value} (h0 : 0 ≤ i) (h7 : i + 7 ≤ (n : Int)) (hT : hOK tT es) (hI : gInv es) (hJ : J es) (K : lawK J xs n i kc ks) : aW (pO0 xs n) 41 301 kc ks lawQ (1390, lawL i x5 x6 x7, [], es) := by
  refine s_l30a (d := 41) (n0 := n) (xs := xs) (sh_of hT) ⟨h0, h7⟩ hn rfl ?_
  have hJ0 := hJ
  obtain ⟨j_flag_, j_prices_, j_pricesI_⟩ := hJ0
  refine x_call (vs := [.ref 64]) (rs := []) i_301_1391 rfl (fun _ => rfl) rfl rfl rfl rfl rfl (pCall_v (p := 0) (sh_of hT) rfl rfl rfl rfl rfl (by decide) rfl rfl rfl rfl rfl) ?_
  show aW _ _ _ _ _ _ (0, [some (.ref 64)], [], es)
  refine aW_sh (aW_and (bs_70 hn (by decide) hT hI) (fn_ximage (O := pO0 xs n) (d := 37) (sh_of hT))) (fun r es1 c1 k1 hp => ?_)
  obtain ⟨⟨hT1, hI1, hf1, hc1, hk1⟩, hp1⟩ : (hOK tT es1 ∧ gInv es1 ∧ fr kc_299.2.2.2.2.2.1 es es1 ∧ c1 ≤ 0 ∧ k1 ≤ 0) ∧ r = .inl none ∧ ximP es es1 := hp
  obtain ⟨rfl, hs1, x_f0, x_f5, x8, x9, x10, x11, x12, x13, x14, x15, x_fl⟩ := hp1
  show aW _ _ _ _ _ _ (1394, [some (.ref 7), some (.ref 64), some (.ref 143), some (.ref 171), some (.int (zI i)), x5, x6, x7], [], es1)
  refine s_l30b (d := 41) (n0 := n) (xs := xs) (sh_of hT1) ⟨h0, h7⟩ hn rfl ?_
  refine x_call (vs := [.ref 143]) (rs := []) i_301_1395 rfl (fun _ => rfl) rfl rfl rfl rfl rfl (pCall_v (p := 79) (sh_of hT1) rfl rfl rfl rfl rfl (by decide) rfl rfl rfl rfl rfl) ?_
  show aW _ _ _ _ _ _ (0, [some (.ref 143), none], [], es1)
  refine aW_sh (aW_and (bs_169 hn (by decide) hT1 hI1) (fn_mimage (O := pO0 xs n) (d := 40) hT1)) (fun r2 es2 c2 k2 hq => ?_)
  obtain ⟨⟨hT2, hI2, hf2, hc2, hk2⟩, hp2⟩ : (hOK tT es2 ∧ gInv es2 ∧ fr kc_406.2.2.2.2.2.1 es1 es2 ∧ c2 ≤ 0 ∧ k2 ≤ 0) ∧ r2 = .inl none ∧ hOK tT es2 ∧ fr frIm es1 es2 ∧ (∀ k, k < 1284 → gA es2 81 k = gA es1 80 k) ∧ gA es2 80 = gA es1 80 ∧ gI es2 79 3 = zI 1 := hq
  obtain ⟨rfl, -, g1, g2, g3, g4⟩ := hp2
  have hJ2 : J es2 := by
    have n_flag : j_flag es2 := by
      show gI es2 0 9 = gI es2 79 3
      rw [keepI g1 (sh_of hT1) (p := 0) (b := 9) rfl (by decide), x_fl, g4]
    have n_pricesI : j_pricesI es2 := by
      intro _ i hi
      rw [keepA hf2 (sh_of hT1) (p := 26) (t := 0) (n := 8) rfl (by decide) (by decide) i hi, x15 i hi, g2 (5 + i) (by omega), keepA hf1 (sh_of hT) (p := 80) (t := 0) (n := 2125) (sp := tS80) rfl (by decide) (by decide) (5 + i) (by omega)]
      exact j_prices_ i hi
    exact ⟨n_flag, kp_prices hf2 (sh_of hT1) (by decide) (kp_prices hf1 (sh_of hT) (by decide) j_prices_), n_pricesI⟩
  have fin : ∀ y5 y6 y7, aW (pO0 xs n) 41 301 (kc + c1 + c2) (ks + k1 + k2) lawQ (23, lawL (i + 7) y5 y6 y7, [], es2) := fun y5 y6 y7 => K es2 _ _ y5 y6 y7 hT2 hI2 hJ2 (by omega) (by omega)
  show aW _ _ _ _ _ _ (1398, [some (.ref 7), some (.ref 64), some (.ref 143), some (.ref 171), some (.int (zI i)), x5, x6, x7], [], es2)
  exact s_l30c (O := pO0 xs n) (d := 41) (n0 := n) (xs := xs) (sh_of hT2) ⟨h0, h7⟩ hn rfl (fin _ _ _)
theorem s_l31a {O : pOut} {d kc ks : Nat} {Q : pRes → Prop} {es : PH} {xs : Nat → Int32} {n0 : Nat} {i : Int} {x5 x6 x7 : Option Value} (hs_es : sh es) (h_i : 0 ≤ i ∧ i + 7 ≤ (n0 : Int)) (hn0 : n0 ≤ 3584) (hO : O 7 = some (n0, xs))
    (K1 : aW O d 301 kc ks Q (1402, [some (.ref 7), some (.ref 64), some (.ref 143), some (.ref 171), some (.int (zI i)), x5, x6, x7], [.ref 64], es)) :
    aW O d 301 kc ks Q (1401, [some (.ref 7), some (.ref 64), some (.ref 143), some (.ref 171), some (.int (zI i)), x5, x6, x7], [], es) := by
  refine x0 (r := (1402, [some (.ref 7), some (.ref 64), some (.ref 143), some (.ref 171), some (.int (zI i)), x5, x6, x7], [.ref 64], es)) i_301_1401 rfl ?_
  exact K1
theorem s_l31b {O : pOut} {d kc ks : Nat} {Q : pRes → Prop} {es : PH} {xs : Nat → Int32} {n0 : Nat} {i k : Int} {x5 x6 x7 : Option Value} (hs_es : sh es) (h_i : 0 ≤ i ∧ i + 7 ≤ (n0 : Int)) (hn0 : n0 ≤ 3584) (hO : O 7 = some (n0, xs))
    (K1 : aW O d 301 kc ks Q (1407, [some (.ref 7), some (.ref 64), some (.ref 143), some (.ref 171), some (.int (zI i)), x5, x6, x7], [.ref 143], es)) :
    aW O d 301 kc ks Q (1405, [some (.ref 7), some (.ref 64), some (.ref 143), some (.ref 171), some (.int (zI i)), x5, x6, x7], [.int (zI k)], es) := by
  refine x0 (r := (1406, [some (.ref 7), some (.ref 64), some (.ref 143), some (.ref 171), some (.int (zI i)), x5, x6, x7], [], es)) i_301_1405 rfl ?_
  refine x0 (r := (1407, [some (.ref 7), some (.ref 64), some (.ref 143), some (.ref 171), some (.int (zI i)), x5, x6, x7], [.ref 143], es)) i_301_1406 rfl ?_
  exact K1
theorem s_l31c {O : pOut} {d kc ks : Nat} {Q : pRes → Prop} {es : PH} {xs : Nat → Int32} {n0 : Nat} {i b : Int} {x5 x6 x7 : Option Value} (hs_es : sh es) (h_i : 0 ≤ i ∧ i + 7 ≤ (n0 : Int)) (hn0 : n0 ≤ 3584) (hO : O 7 = some (n0, xs)) (h_b : -2147483648 ≤ b ∧ b ≤ 2147483647)
    (K1 : aW O d 301 kc ks Q (23, [some (.ref 7), some (.ref 64), some (.ref 143), some (.ref 171), some (.int (zI (i + 7))), x5, x6, x7], [], es)) :
    aW O d 301 kc ks Q (1410, [some (.ref 7), some (.ref 64), some (.ref 143), some (.ref 171), some (.int (zI i)), x5, x6, x7], [.int (zI b)], es) := by
  refine x0 (r := (1411, [some (.ref 7), some (.ref 64), some (.ref 143), some (.ref 171), some (.int (zI i)), x5, x6, x7], [], es)) i_301_1410 rfl ?_
  refine x0 (r := (1439, [some (.ref 7), some (.ref 64), some (.ref 143), some (.ref 171), some (.int (zI i)), x5, x6, x7], [], es)) i_301_1411 rfl ?_
  refine x_iinc (x := i) i_301_1439 rfl (by show 4 < 8; decide) ?_
  show aW _ _ _ _ _ _ (1442, [some (.ref 7), some (.ref 64), some (.ref 143), some (.ref 171), some (.int (zI (i + 7))), x5, x6, x7], [], es)
  refine x0 (r := (23, [some (.ref 7), some (.ref 64), some (.ref 143), some (.ref 171), some (.int (zI (i + 7))), x5, x6, x7], [], es)) i_301_1442 rfl ?_
  exact K1
theorem lh_31 {xs : Nat → Int32} {n : Nat} (hn : n ≤ 3584) {i : Int} {es : PH} {kc ks : Nat} {x5 x6 x7 : Option Value} (h0 : 0 ≤ i) (h7 : i + 7 ≤ (n : Int)) (hT : hOK tT es) (hI : gInv es) (hJ : J es) (K : lawK J xs n i kc ks) : aW (pO0 xs n) 41 301 kc ks lawQ (1401, lawL i x5 x6 x7, [], es) := by
  refine s_l31a (d := 41) (n0 := n) (xs := xs) (sh_of hT) ⟨h0, h7⟩ hn rfl ?_
  have hJ0 := hJ
  obtain ⟨j_flag_, j_prices_, j_pricesI_⟩ := hJ0
  refine x_call (vs := [.ref 64]) (rs := []) i_301_1402 rfl (fun _ => rfl) rfl rfl rfl rfl rfl (pCall_v (p := 0) (sh_of hT) rfl rfl rfl rfl rfl (by decide) rfl rfl rfl rfl rfl) ?_
  show aW _ _ _ _ _ _ (0, [some (.ref 64)], [], es)
  refine aW_sh (aW_and (bs_72 hn (by decide) hT hI) (fn_xback (O := pO0 xs n) (d := 37) hT)) (fun r es1 c1 k1 hp => ?_)
  obtain ⟨⟨hT1, hI1, hf1, hc1, hk1⟩, hp1⟩ : (hOK tT es1 ∧ gInv es1 ∧ fr kc_301.2.2.2.2.2.1 es es1 ∧ c1 ≤ 0 ∧ k1 ≤ 0) ∧ ((r = .inl (some (.int (zI 0))) ∧ (gI es 0 9).toInt = 0 ∧ es1 = es) ∨ (r = .inl (some (.int (zI 1))) ∧ ¬ (gI es 0 9).toInt = 0 ∧ xbaP es es1)) := hp
  have hk' : ∃ k : Int, r = .inl (some (.int (zI k))) ∧ ((k = 0 ∧ (gI es 0 9).toInt = 0 ∧ es1 = es) ∨ (k = 1 ∧ ¬ (gI es 0 9).toInt = 0 ∧ xbaP es es1)) := by
    rcases hp1 with ⟨q, q'⟩ | ⟨q, q'⟩
    · exact ⟨0, q, Or.inl ⟨rfl, q'⟩⟩
    · exact ⟨1, q, Or.inr (⟨rfl, q'⟩)⟩
  obtain ⟨k, rfl, hk⟩ := hk'
  have hkr : -2147483648 ≤ k ∧ k ≤ 2147483647 := by rcases hk with ⟨h, -⟩ | ⟨h, -⟩ <;> omega
  have e3 : gI es1 79 3 = gI es 79 3 := keepI hf1 (sh_of hT) (p := 79) (b := 3) rfl (by decide)
  have hfl : gI es 0 9 = gI es 79 3 := j_flag_
  show aW _ _ _ _ _ _ (1405, [some (.ref 7), some (.ref 64), some (.ref 143), some (.ref 171), some (.int (zI i)), x5, x6, x7], [.int (zI k)], es1)
  refine s_l31b (d := 41) (n0 := n) (xs := xs) (sh_of hT1) ⟨h0, h7⟩ hn rfl ?_
  refine x_call (vs := [.ref 143]) (rs := []) i_301_1407 rfl (fun _ => rfl) rfl rfl rfl rfl rfl (pCall_v (p := 79) (sh_of hT1) rfl rfl rfl rfl rfl (by decide) rfl rfl rfl rfl rfl) ?_
  show aW _ _ _ _ _ _ (0, [some (.ref 143), none], [], es1)
  refine aW_sh (aW_and (bs_170 hn (by decide) hT1 hI1) (fn_mback (O := pO0 xs n) (d := 40) hT1)) (fun r2 es2 c2 k2 hq => ?_)
  obtain ⟨⟨hT2, hI2, hf2, hc2, hk2⟩, hp2⟩ : (hOK tT es2 ∧ gInv es2 ∧ fr kc_407.2.2.2.2.2.1 es1 es2 ∧ c2 ≤ 0 ∧ k2 ≤ 0) ∧ hOK tT es2 ∧ fr frBa es1 es2 ∧ gA es2 81 = gA es1 81 ∧ ((r2 = .inl (some (.int (zI 0))) ∧ (gI es1 79 3).toInt = 0 ∧ gA es2 80 = gA es1 80) ∨ (r2 = .inl (some (.int (zI 1))) ∧ ¬ (gI es1 79 3).toInt = 0 ∧ ∀ k, k < 1284 → gA es2 80 k = gA es1 81 k)) := hq
  obtain ⟨-, g1, g2, hp3⟩ := hp2
  have hb' : ∃ b : Int, r2 = .inl (some (.int (zI b))) ∧ ((b = 0 ∧ (gI es1 79 3).toInt = 0 ∧ gA es2 80 = gA es1 80) ∨ (b = 1 ∧ ¬ (gI es1 79 3).toInt = 0 ∧ ∀ k, k < 1284 → gA es2 80 k = gA es1 81 k)) := by
    rcases hp3 with ⟨q, q'⟩ | ⟨q, q'⟩
    · exact ⟨0, q, Or.inl ⟨rfl, q'⟩⟩
    · exact ⟨1, q, Or.inr (⟨rfl, q'⟩)⟩
  obtain ⟨b, rfl, hb⟩ := hb'
  have hbr : -2147483648 ≤ b ∧ b ≤ 2147483647 := by rcases hb with ⟨h, -⟩ | ⟨h, -⟩ <;> omega
  rw [e3, ← hfl] at hb
  have hJ2 : J es2 := by
    have n_prices : j_prices es2 := by
      intro i hi
      have a : gA es2 15 i = gA es1 15 i := keepA g1 (sh_of hT1) (p := 15) (t := 0) (n := 8) rfl (by decide) (by decide) i hi
      rw [a]
      rcases hk with ⟨-, h, he⟩ | ⟨-, h, hx⟩
      · rcases hb with ⟨-, -, g3⟩ | ⟨-, h', -⟩
        · rw [g3, he]; exact j_prices_ i hi
        · exact absurd h h'
      · rcases hb with ⟨-, h', -⟩ | ⟨-, -, g3⟩
        · exact absurd h' h
        · obtain ⟨-, x_f0, x_f5, x8, x9, x10, x11, x12, x13, x14, x15⟩ := hx
          have h3 : (gI es 79 3).toInt ≠ 0 := by rw [← hfl]; exact h
          rw [x15 i hi, g3 (5 + i) (by omega), keepA hf1 (sh_of hT) (p := 81) (t := 0) (n := 1284) (sp := tS81) rfl (by decide) (by decide) (5 + i) (by omega)]; exact j_pricesI_ h3 i hi
    exact ⟨kp_flag hf2 (sh_of hT1) (by decide) (kp_flag hf1 (sh_of hT) (by decide) j_flag_), n_prices, kp_pricesI hf2 (sh_of hT1) (by decide) (kp_pricesI hf1 (sh_of hT) (by decide) j_pricesI_)⟩
  have fin : ∀ y5 y6 y7, aW (pO0 xs n) 41 301 (kc + c1 + c2) (ks + k1 + k2) lawQ (23, lawL (i + 7) y5 y6 y7, [], es2) := fun y5 y6 y7 => K es2 _ _ y5 y6 y7 hT2 hI2 hJ2 (by omega) (by omega)
  show aW _ _ _ _ _ _ (1410, [some (.ref 7), some (.ref 64), some (.ref 143), some (.ref 171), some (.int (zI i)), x5, x6, x7], [.int (zI b)], es2)
  have t9 : k = b := by rcases hk with ⟨h, h', -⟩ | ⟨h, h', -⟩ <;> rcases hb with ⟨q, q', -⟩ | ⟨q, q', -⟩ <;> omega
  exact s_l31c (O := pO0 xs n) (d := 41) (n0 := n) (xs := xs) (sh_of hT2) ⟨h0, h7⟩ hn rfl hbr (fin _ _ _)
theorem lawHand_ok {xs : Nat → Int32} {n : Nat} (hn : n ≤ 3584) {c : Nat} {i : Int} {es : PH} {kc ks : Nat} {x5 x6 x7 : Option Value} (hc : c ∈ lawHand) (h0 : 0 ≤ i) (h7 : i + 7 ≤ (n : Int)) (hT : hOK tT es) (hI : gInv es) (hJ : J es) (K : lawK J xs n i kc ks) : aW (pO0 xs n) 41 301 kc ks lawQ (c, lawL i x5 x6 x7, [], es) := by
  rcases List.mem_cons.mp hc with rfl | hc
  · exact lh_12 hn h0 h7 hT hI hJ K
  rcases List.mem_cons.mp hc with rfl | hc
  · exact lh_30 hn h0 h7 hT hI hJ K
  rcases List.mem_cons.mp hc with rfl | hc
  · exact lh_31 hn h0 h7 hT hI hJ K
  cases hc
