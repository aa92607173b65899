/-! printed by wip/rel/notes.py -/
theorem i_285_0 : iRow 285 0 = some (.aload 5, 0, 0, 0, (some (Jvm.ClassFile.FieldType.int))) := rfl
theorem i_285_2 : iRow 285 2 = some (.iconst 0, 0, 0, 0, (some (Jvm.ClassFile.FieldType.int))) := rfl
theorem i_285_3 : iRow 285 3 = some (.aload_n 0, 0, 0, 0, (some (Jvm.ClassFile.FieldType.int))) := rfl
theorem i_285_4 : iRow 285 4 = some (.iload_n 1, 0, 0, 0, (some (Jvm.ClassFile.FieldType.int))) := rfl
theorem i_285_5 : iRow 285 5 = some (.iload_n 2, 0, 0, 0, (some (Jvm.ClassFile.FieldType.int))) := rfl
theorem i_285_6 : iRow 285 6 = some (.iload_n 3, 0, 0, 0, (some (Jvm.ClassFile.FieldType.int))) := rfl
theorem i_285_7 : iRow 285 7 = some (.iload 4, 0, 0, 0, (some (Jvm.ClassFile.FieldType.int))) := rfl
theorem i_285_9 : iRow 285 9 = some (.invokevirtual 48, 169, 123, 1, (some (Jvm.ClassFile.FieldType.int))) := rfl
theorem i_285_12 : iRow 285 12 = some (.i2l, 0, 0, 0, (some (Jvm.ClassFile.FieldType.int))) := rfl
theorem i_285_13 : iRow 285 13 = some (.lastore, 0, 0, 0, (some (Jvm.ClassFile.FieldType.int))) := rfl
theorem i_285_14 : iRow 285 14 = some (.goto 11, 0, 0, 0, (some (Jvm.ClassFile.FieldType.int))) := rfl
theorem i_285_19 : iRow 285 19 = some (.iconst 1, 0, 0, 0, (some (Jvm.ClassFile.FieldType.int))) := rfl
theorem i_285_20 : iRow 285 20 = some (.ireturn, 0, 0, 0, (some (Jvm.ClassFile.FieldType.int))) := rfl
theorem i_285_23 : iRow 285 23 = some (.iconst 2, 0, 0, 0, (some (Jvm.ClassFile.FieldType.int))) := rfl
theorem i_285_24 : iRow 285 24 = some (.ireturn, 0, 0, 0, (some (Jvm.ClassFile.FieldType.int))) := rfl
theorem i_285_25 : iRow 285 25 = some (.iconst 0, 0, 0, 0, (some (Jvm.ClassFile.FieldType.int))) := rfl
theorem i_285_26 : iRow 285 26 = some (.ireturn, 0, 0, 0, (some (Jvm.ClassFile.FieldType.int))) := rfl
theorem s_mw130 {O : pOut} {d kc ks : Nat} {Q : pRes → Prop} {es : PH} {wy mv sl se b : Int} (hs_es : sh es)
    (K1 : aW O d 274 kc ks Q (133, [some (.ref 143), some (.int (zI wy)), some (.int (zI mv)), some (.int (zI sl)), some (.int (zI se)), some (.int (zI b)), some (.int (zI 0)), none, none, none, none, none, none, none], [], es)) :
    aW O d 274 kc ks Q (130, [some (.ref 143), some (.int (zI wy)), some (.int (zI mv)), some (.int (zI sl)), some (.int (zI se)), some (.int (zI b)), none, none, none, none, none, none, none, none], [], es) := by
  refine x0 (r := (131, [some (.ref 143), some (.int (zI wy)), some (.int (zI mv)), some (.int (zI sl)), some (.int (zI se)), some (.int (zI b)), none, none, none, none, none, none, none, none], [.int (zI 0)], es)) i_274_130 (by rfl) ?_
  refine x0 (r := (133, [some (.ref 143), some (.int (zI wy)), some (.int (zI mv)), some (.int (zI sl)), some (.int (zI se)), some (.int (zI b)), some (.int (zI 0)), none, none, none, none, none, none, none], [], es)) i_274_131 rfl ?_
  exact K1
/-! WRITE of the class: what stands in the BOOK behind it -/
def xwP (K : Nat → Nat × (Nat → Int × Nat)) (B : Nat → Int) (wy mv sl se : Int) (es es1 : PH) : Prop := (gI es1 7 5).toInt = (gI es 7 5).toInt + 1 ∧ (∀ i, gA es1 12 i = if i = (gI es 7 5).toInt.toNat then zI wy else gA es 12 i) ∧ (gA es1 13 (gI es 7 5).toInt.toNat).toInt = ((zWr K (gI es 7 0).toInt wy sl mv.toNat 0 B (zI se)).length : Int) ∧ (∀ i, i ≠ (gI es 7 5).toInt.toNat → gA es1 13 i = gA es 13 i) ∧ (∀ (j : Nat) (x : Int × Int × Int), (zWr K (gI es 7 0).toInt wy sl mv.toNat 0 B (zI se))[j]? = some x → ntC (gA es1 14) (gI es 7 5).toInt.toNat j x) ∧ ∀ i, ¬ (96 * (gI es 7 5).toInt.toNat ≤ i ∧ i < 96 * (gI es 7 5).toInt.toNat + 96) → gA es1 14 i = gA es 14 i
def writeNxP (K : Nat → Nat × (Nat → Int × Nat)) (B : Nat → Int) (wy mv sl se : Int) (es : PH) (r : Option Value ⊕ Nat) (es1 : PH) : Prop := sh es1 ∧ True ∧ ((r = .inr 0 ∧ (wy < 0 ∨ 1 < wy ∨ mv < 1 ∨ 24 < mv ∨ sl < 0 ∨ 9 < sl) ∧ es1 = es) ∨ (r = .inr 1 ∧ ((0 ≤ wy ∧ wy ≤ 1 ∧ 1 ≤ mv ∧ mv ≤ 24 ∧ 0 ≤ sl ∧ sl ≤ 9) ∧ 3 ≤ (gI es 7 5).toInt) ∧ es1 = es) ∨ (r = .inl (some (.int (zI (gI es 7 5).toInt))) ∧ ((0 ≤ wy ∧ wy ≤ 1 ∧ 1 ≤ mv ∧ mv ≤ 24 ∧ 0 ≤ sl ∧ sl ≤ 9) ∧ (gI es 7 5).toInt < 3) ∧ xwP K B wy mv sl se es es1))
theorem fn_wxK {xs : Nat → Int32} {n d' : Nat} {es : PH} {wy mv sl se : Int} {Q : pRes → Prop} {K : Nat → Nat × (Nat → Int × Nat)} {B : Nat → Int} (i1 : i32 wy) (i2 : i32 mv) (i3 : i32 sl) (i4 : i32 se) (hT : hOK tT es) (hB : bdC B 11 es) (hBr : rwB B) (hBk : ∀ t, t < 36 → B t < 2 * (gI es 7 0).toInt) (hkX : 0 ≤ (gI es 7 0).toInt ∧ (gI es 7 0).toInt ≤ 5) (hK : kdC K 9 10 es) (KQ : ∀ r es1 kc ks, writeNxP K B wy mv sl se es r es1 → Q (r, es1, kc, ks)) : aW (pO0 xs n) (d' + 9) 123 0 0 Q (0, [some (.ref 64), some (.int (zI wy)), some (.int (zI mv)), some (.int (zI sl)), some (.int (zI se)), none], [], es) := by
  have hlen := hOK_len hT
  have thr0 : (wy < 0 ∨ 1 < wy ∨ mv < 1 ∨ 24 < mv ∨ sl < 0 ∨ 9 < sl) → Q (.inr 0, es, 1, 6) := fun h => KQ _ _ _ _ ⟨sh_of hT, trivial, Or.inl ⟨rfl, h, rfl⟩⟩
  have thr1 : (0 ≤ wy ∧ wy ≤ 1 ∧ 1 ≤ mv ∧ mv ≤ 24 ∧ 0 ≤ sl ∧ sl ≤ 9) → 3 ≤ (gI es 7 5).toInt → Q (.inr 1, es, 1, 6) := fun h h2 => KQ _ _ _ _ ⟨sh_of hT, trivial, Or.inr (Or.inl ⟨rfl, ⟨h, h2⟩, rfl⟩)⟩
  have hbX : 0 ≤ (gI es 7 5).toInt ∧ (gI es 7 5).toInt ≤ 3 := gI_bd hT (p := 7) (b := 5) rfl rfl
  have go : (0 ≤ wy ∧ wy ≤ 1) → (1 ≤ mv ∧ mv ≤ 24) → (0 ≤ sl ∧ sl ≤ 9) → (gI es 7 5).toInt < 3 → aW (pO0 xs n) (d' + 9) 123 0 0 Q (60, [some (.ref 64), some (.int (zI wy)), some (.int (zI mv)), some (.int (zI sl)), some (.int (zI se)), none], [.ref 64], es) := fun hwy hmv hsl hB3 => by
    refine x_call (vs := [.ref 64]) (rs := []) i_123_60 rfl (fun _ => rfl) rfl rfl rfl rfl rfl (pCall_v (p := 0) (sh_of hT) rfl rfl rfl rfl rfl (by decide) rfl rfl rfl rfl rfl) ?_
    show aW _ _ _ _ _ _ (0, [some (.ref 64)], [], es)
    refine s_forget (sh_of hT) hT (fun es1 he1 es2 he2 => ?_)
    have hT1 : hOK tT es1 := by rw [he1]; exact hOK_sI hT (p := 0) (b := 10) rfl rfl (by decide)
    have hT2 : hOK tT es2 := by rw [he2]; exact hOK_sI hT1 (p := 73) (b := 3) rfl rfl (by decide)
    have hB2 : gI es2 7 5 = gI es 7 5 := by rw [he2, he1, gI_sI_ne (Or.inl (by decide)), gI_sI_ne (Or.inl (by decide))]
    have hk2 : gI es2 7 0 = gI es 7 0 := by rw [he2, he1, gI_sI_ne (Or.inl (by decide)), gI_sI_ne (Or.inl (by decide))]
    have hA2 : ∀ p, gA es2 p = gA es p := fun p => by rw [he2, gA_sI, he1, gA_sI]
    show aW _ _ _ _ _ _ (63, [some (.ref 64), some (.int (zI wy)), some (.int (zI mv)), some (.int (zI sl)), some (.int (zI se)), none], [], es2)
    refine s_cw63 (sh_of hT2) ?_
    refine x_call (vs := [.ref 71, .int (zI wy)]) (rs := []) i_123_68 rfl (fun _ => rfl) rfl rfl rfl rfl rfl (pCall_v (p := 7) (sh_of hT2) rfl rfl rfl rfl rfl (by decide) rfl rfl rfl rfl rfl) ?_
    show aW _ _ _ _ _ _ (0, [some (.ref 71), some (.int (zI wy))], [], es2)
    refine s_addBook (d := d' + 7) (sh_of hT2) hwy hT2 (fun v1 hv1 c1 => absurd c1 (by rw [hv1, hB2]; omega)) (fun v1 hv1 c1 => absurd c1 (by rw [hv1, hB2]; omega)) (fun v1 hv1 c1 es12 he12 v13 hv13 c2 => ?_) (fun v1 hv1 c1 es12 he12 v13 hv13 c2 es18 he18 v19 hv19 es20 he20 v21 hv21 => ?_)
    · exfalso
      rw [he12, gI_sA, hB2] at hv13
      omega
    rw [hB2] at hv1
    have e13 : v13 = v1 := by rw [hv13, he12, gI_sA, hB2, hv1]
    have e19 : v19 = v1 := by rw [hv19, he18, gI_sA, he12, gI_sA, hB2, hv1]
    have hT12 : hOK tT es12 := by rw [he12]; exact hOK_sA hT2 (p := 12) (n := 3) rfl (fun _ => i32_rng _)
    have hT18 : hOK tT es18 := by rw [he18]; exact hOK_sA hT12 (p := 13) (n := 3) rfl (fun _ => by decide)
    have hT20 : hOK tT es20 := by rw [he20]; exact hOK_sI hT18 (p := 7) (b := 5) rfl rfl (by rw [zI_toInt (by unfold i32 iLO iHI; omega)]; exact ⟨by show (0 : Int) ≤ v19 + 1; omega, by show v19 + 1 ≤ (3 : Int); omega⟩)
    have e21 : v21 - 1 = v1 := by
      rw [hv21, he20, gI_sI (sh_of hT18) (p := 7) (b := 5) rfl (by decide), zI_toInt (by unfold i32 iLO iHI; omega)]
      omega
    obtain ⟨b, hb⟩ : ∃ b : Nat, v1 = (b : Int) := ⟨v1.toNat, by omega⟩
    have hbn : (gI es 7 5).toInt.toNat = b := by omega
    have hb2 : b ≤ 2 := by omega
    have k5 : (gI es20 7 5).toInt = (gI es 7 5).toInt + 1 := by rw [he20, gI_sI (sh_of hT18) (p := 7) (b := 5) rfl (by decide), zI_toInt (by unfold i32 iLO iHI; omega)]; omega
    have k0 : gI es20 7 0 = gI es 7 0 := by rw [he20, gI_sI_ne (Or.inr (by decide)), he18, gI_sA, he12, gI_sA, hk2]
    have c12 : ∀ i, gA es20 12 i = if i = b then zI wy else gA es 12 i := fun i => by
      rw [he20, gA_sI, he18, gA_sA_ne (by decide), he12, gA_sA (sh_of hT2) (p := 12) (t := 0) (n := 3) rfl (by decide), hA2, hb, Int.toNat_natCast]
      rfl
    have c13 : ∀ i, gA es20 13 i = if i = b then zI 0 else gA es 13 i := fun i => by
      rw [he20, gA_sI, he18, gA_sA (sh_of hT12) (p := 13) (t := 0) (n := 3) rfl (by decide), he12, gA_sA_ne (by decide), hA2, e13, hb, Int.toNat_natCast]
      rfl
    have cA : ∀ p, p ≠ 12 → p ≠ 13 → gA es20 p = gA es p := fun p q1 q2 => by rw [he20, gA_sI, he18, gA_sA_ne q2, he12, gA_sA_ne q1, hA2]
    rw [e21, hb]
    show aW _ _ _ _ _ _ (71, [some (.ref 64), some (.int (zI wy)), some (.int (zI mv)), some (.int (zI sl)), some (.int (zI se)), none], [.int (zI (b : Int))], es20)
    refine s_cw71 (sh_of hT20) ?_
    refine x_call (vs := [.ref 93]) (rs := []) i_123_77 rfl (fun _ => rfl) rfl rfl rfl rfl rfl (pCall_v (p := 29) (sh_of hT20) rfl rfl rfl rfl rfl (by decide) rfl rfl rfl rfl rfl) ?_
    show aW _ _ _ _ _ _ (0, [some (.ref 93)], [], es20)
    refine s_wsu (d := d' + 6) (sh_of hT20) hT20 (fun es5 he5 => ?_)
    have hT5 : hOK tT es5 := by rw [he5]; exact hOK_sR hT20 (p := 30) (t := 0) (n := 36) rfl (fun j _ => i32_rng _)
    have hne5 : ∀ p, p ≠ 30 → es5[p]? = es20[p]? := fun p hp => by rw [he5, sR_at, if_neg hp]
    have hB5 : bdC B 30 es5 := fun s hs => by
      rw [he5, gA_sR (sh_of hT20) (p := 30) (t := 0) (n := 36) rfl (by decide), cpy_at hs, cA 11 (by decide) (by decide)]
      exact hB s hs
    show aW _ _ _ _ _ _ (80, [some (.ref 64), some (.int (zI wy)), some (.int (zI mv)), some (.int (zI sl)), some (.int (zI se)), some (.int (zI (b : Int)))], [], es5)
    have hlen5 := hOK_len hT5
    have hT6 : hOK tT (es5 ++ [.inr (10, pBlank 10)]) := hOK_push hT5 _
    have ho6 : (es5 ++ [.inr (10, pBlank 10)])[es5.length]? = some (.inr (10, pBlank 10)) := by rw [List.getElem?_append_right (Nat.le_refl _), Nat.sub_self]; rfl
    have hn6 : ∀ p, p < 108 → (es5 ++ [.inr (10, pBlank 10)])[p]? = es5[p]? := fun p hp => List.getElem?_append_left (by omega)
    refine x_new (r := (83, [some (.ref 64), some (.int (zI wy)), some (.int (zI mv)), some (.int (zI sl)), some (.int (zI se)), some (.int (zI (b : Int)))], [.ref (64 + es5.length)], es5 ++ [.inr (10, pBlank 10)])) i_123_80 rfl (fun _ => rfl) rfl ?_
    show aW _ _ _ 1 3 _ _
    generalize es5 ++ [.inr (10, pBlank 10)] = es6 at hT6 ho6 hn6 ⊢
    refine x0 (r := (84, [some (.ref 64), some (.int (zI wy)), some (.int (zI mv)), some (.int (zI sl)), some (.int (zI se)), some (.int (zI (b : Int)))], [.ref (64 + es5.length), .ref (64 + es5.length)], es6)) i_123_83 rfl ?_
    refine x0 (r := (85, [some (.ref 64), some (.int (zI wy)), some (.int (zI mv)), some (.int (zI sl)), some (.int (zI se)), some (.int (zI (b : Int)))], [.ref 64, .ref (64 + es5.length), .ref (64 + es5.length)], es6)) i_123_84 rfl ?_
    refine x_getr (p := 0) (k := 71) i_123_85 (sh_of hT6) rfl rfl ?_
    show aW _ _ _ _ _ _ (88, [some (.ref 64), some (.int (zI wy)), some (.int (zI mv)), some (.int (zI sl)), some (.int (zI se)), some (.int (zI (b : Int)))], [.ref 71, .ref (64 + es5.length), .ref (64 + es5.length)], es6)
    refine x0 (r := (89, [some (.ref 64), some (.int (zI wy)), some (.int (zI mv)), some (.int (zI sl)), some (.int (zI se)), some (.int (zI (b : Int)))], [.ref 64, .ref 71, .ref (64 + es5.length), .ref (64 + es5.length)], es6)) i_123_88 rfl ?_
    refine x_getr (p := 0) (k := 93) i_123_89 (sh_of hT6) rfl rfl ?_
    show aW _ _ _ _ _ _ (92, [some (.ref 64), some (.int (zI wy)), some (.int (zI mv)), some (.int (zI sl)), some (.int (zI se)), some (.int (zI (b : Int)))], [.ref 93, .ref 71, .ref (64 + es5.length), .ref (64 + es5.length)], es6)
    refine x0 (r := (94, [some (.ref 64), some (.int (zI wy)), some (.int (zI mv)), some (.int (zI sl)), some (.int (zI se)), some (.int (zI (b : Int)))], [.int (zI se), .ref 93, .ref 71, .ref (64 + es5.length), .ref (64 + es5.length)], es6)) i_123_92 rfl ?_
    refine x_call (vs := [.ref (64 + es5.length), .ref 71, .ref 93, .int (zI se)]) (rs := [.ref (64 + es5.length)]) i_123_94 rfl (fun _ => rfl) rfl rfl rfl rfl rfl (pCall_s rfl rfl rfl rfl (by decide) rfl rfl rfl rfl) ?_
    show aW _ _ _ _ _ _ (0, [some (.ref (64 + es5.length)), some (.ref 71), some (.ref 93), some (.int (zI se))], [], es6)
    refine writer_init ho6 rfl ?_
    have hl6 := (List.getElem?_eq_some_iff.mp ho6).1
    have hn7 : ∀ p, p < 108 → (es6.set es5.length (.inr (10, [.ref 71, .ref 93, .int (zI se)])))[p]? = es5[p]? := fun p hp => by rw [List.getElem?_set_ne (by omega), hn6 p hp]
    have hw7 : wpC es20 es5.length b B [] 0 (zI se) (es6.set es5.length (.inr (10, [.ref 71, .ref 93, .int (zI se)]))) := by
      have g : ∀ p, p < 108 → p ≠ 30 → gA (es6.set es5.length (.inr (10, [.ref 71, .ref 93, .int (zI se)]))) p = gA es20 p := fun p q1 q2 => gA_eq (by rw [hn7 p q1, hne5 p q2])
      refine ⟨hOK_set hT6 (fun t ht => ?_), List.getElem?_set_self hl6, fun s hs => ?_, ?_, fun i _ => by rw [g 13 (by decide) (by decide)], fun j x hx => (by cases hx), fun i _ => by rw [g 14 (by decide) (by decide)], fun p q1 q2 q3 q4 => by rw [hn7 p q1, hne5 p q4]⟩
      · have := (List.getElem?_eq_some_iff.mp ht).1
        rw [tT_len] at this
        omega
      · rw [gA_eq (hn7 30 (by decide))]; exact hB5 s hs
      · rw [g 13 (by decide) (by decide), c13, if_pos rfl]; rfl
    generalize es6.set es5.length (.inr (10, [.ref 71, .ref 93, .int (zI se)])) = es7 at hw7 ⊢
    show aW _ _ _ _ _ _ (97, [some (.ref 64), some (.int (zI wy)), some (.int (zI mv)), some (.int (zI sl)), some (.int (zI se)), some (.int (zI (b : Int)))], [.ref (64 + es5.length)], es7)
    refine x0 (r := (99, [some (.ref 64), some (.int (zI wy)), some (.int (zI mv)), some (.int (zI sl)), some (.int (zI se)), some (.int (zI (b : Int)))], [.int (zI (b : Int)), .ref (64 + es5.length)], es7)) i_123_97 rfl ?_
    refine x0 (r := (100, [some (.ref 64), some (.int (zI wy)), some (.int (zI mv)), some (.int (zI sl)), some (.int (zI se)), some (.int (zI (b : Int)))], [.int (zI mv), .int (zI (b : Int)), .ref (64 + es5.length)], es7)) i_123_99 rfl ?_
    refine x0 (r := (101, [some (.ref 64), some (.int (zI wy)), some (.int (zI mv)), some (.int (zI sl)), some (.int (zI se)), some (.int (zI (b : Int)))], [.int (zI sl), .int (zI mv), .int (zI (b : Int)), .ref (64 + es5.length)], es7)) i_123_100 rfl ?_
    obtain ⟨mN, hmN⟩ : ∃ mN : Nat, mv = (mN : Int) := ⟨mv.toNat, by omega⟩
    have ho7 : es7[es5.length]? = some (.inr (10, [.ref 71, .ref 93, .int (zI (zI se).toInt)])) := by rw [zI_id]; exact hw7.2.1
    refine x_call (vs := [.ref (64 + es5.length), .int (zI (b : Int)), .int (zI mv), .int (zI sl)]) (rs := []) i_123_101 rfl (fun _ => rfl) rfl rfl rfl rfl rfl (pCall_p hw7.2.1 rfl rfl rfl rfl (by decide) rfl rfl rfl rfl rfl) ?_
    show aW _ _ _ _ _ _ (0, [some (.ref (64 + es5.length)), some (.int (zI (b : Int))), some (.int (zI mv)), some (.int (zI sl)), none, none, none, none], [], es7)
    refine s_fill0 (sh_of hw7.1) ho7 ⟨by omega, by omega⟩ hmv hsl ?_
    have hK20 : kdC K 9 10 es20 := by
      unfold kdC at hK ⊢
      rw [cA 9 (by decide) (by decide), cA 10 (by decide) (by decide)]
      exact hK
    have hWm : ([] : List (Int × Int × Int)) ++ zWr K (gI es 7 0).toInt wy sl mN 0 B (zI se) = (zWr K (gI es 7 0).toInt wy sl mv.toNat 0 B (zI se)) := by rw [hmN, Int.toNat_natCast]; rfl
    rw [hmN]
    refine fillC (xs := xs) (N := n) (d := d' + 2) (e0 := es20) (lp := es5.length) (b := b) (mv := mN) (K := K) (κ := (gI es 7 0).toInt) (wy := wy) (sl := sl) (W := (zWr K (gI es 7 0).toInt wy sl mv.toNat 0 B (zI se))) (by omega) hb2 ⟨by omega, by omega⟩ hsl hK20 (by rw [k0]) hkX.2 (by rw [c12, if_pos rfl]; exact zI_toInt i1) (fun es8 s8 B8 hw8 => ?_) mN 0 B (zI se) [] es7 none none none (by omega) rfl hw7 hBr hBk hWm
    have h8 := hw8.2.2.2.2.2.2.2
    have h75 : gI es8 7 5 = gI es20 7 5 := gI_eq (h8 7 (by decide) (by decide) (by decide) (by decide))
    have h12 : gA es8 12 = gA es20 12 := gA_eq (h8 12 (by decide) (by decide) (by decide) (by decide))
    have hX : xwP K B wy mv sl se es es8 := by
      refine ⟨by rw [h75]; exact k5, fun i => by rw [h12, hbn]; exact c12 i, by rw [hbn]; exact hw8.2.2.2.1, fun i hi => ?_, fun j x hx => by rw [hbn]; exact hw8.2.2.2.2.2.1 j x hx, fun i hi => ?_⟩
      · rw [hbn] at hi
        rw [hw8.2.2.2.2.1 i hi, c13, if_neg hi]
      · rw [hbn] at hi
        rw [hw8.2.2.2.2.2.2.1 i hi, cA 14 (by decide) (by decide)]
    have hbX' : (b : Int) = (gI es 7 5).toInt := by omega
    show aW _ _ _ _ _ _ (104, [some (.ref 64), some (.int (zI wy)), some (.int (zI (mN : Int))), some (.int (zI sl)), some (.int (zI se)), some (.int (zI (b : Int)))], [], es8)
    refine x0 (r := (106, [some (.ref 64), some (.int (zI wy)), some (.int (zI (mN : Int))), some (.int (zI sl)), some (.int (zI se)), some (.int (zI (b : Int)))], [.int (zI (b : Int))], es8)) i_123_104 rfl ?_
    refine x_ret (v := some (.int (zI (b : Int)))) i_123_106 rfl (fun _ => rfl) rfl rfl rfl ?_
    exact KQ _ _ _ _ ⟨sh_of hw8.1, trivial, Or.inr (Or.inr ⟨by rw [hbX'], ⟨⟨hwy.1, hwy.2, hmv.1, hmv.2, hsl.1, hsl.2⟩, hB3⟩, hX⟩)⟩
  exact s_cw0 (d := d' + 8) (kc := 0) (ks := 0) (sh_of hT) i1 i2 i3 i4 hT (fun c0 c1 => thr0 (by omega)) (fun c0 c1 c2 => thr0 (by omega)) (fun c0 c1 c2 c3 => thr0 (by omega)) (fun c0 c1 c2 c3 c4 c5 c6 c7 => go ⟨by omega, by omega⟩ ⟨by omega, by omega⟩ ⟨by omega, by omega⟩ (by omega)) (fun c0 c1 c2 c3 c4 c5 c6 c7 => thr1 (by omega) (by omega)) (fun c0 c1 c2 c3 c4 => thr0 (by omega)) (fun c0 c1 => thr0 (by omega)) (fun c0 c1 c2 => thr0 (by omega)) (fun c0 c1 c2 c3 => thr0 (by omega)) (fun c0 c1 c2 c3 c4 => thr0 (by omega)) (fun c0 c1 c2 c3 c4 c5 c6 c7 c8 => go ⟨by omega, by omega⟩ ⟨by omega, by omega⟩ ⟨by omega, by omega⟩ (by omega)) (fun c0 c1 c2 c3 c4 c5 c6 c7 c8 => thr1 (by omega) (by omega)) (fun c0 c1 c2 c3 c4 c5 => thr0 (by omega))
theorem fn_writeNx {xs : Nat → Int32} {n d' : Nat} {es : PH} {wy mv sl se : Int} {K : Nat → Nat × (Nat → Int × Nat)} {B : Nat → Int} (i1 : i32 wy) (i2 : i32 mv) (i3 : i32 sl) (i4 : i32 se) (hT : hOK tT es) (hB : bdC B 11 es) (hBr : rwB B) (hBk : ∀ t, t < 36 → B t < 2 * (gI es 7 0).toInt) (hkX : 0 ≤ (gI es 7 0).toInt ∧ (gI es 7 0).toInt ≤ 5) (hK : kdC K 9 10 es) : aW (pO0 xs n) (d' + 9) 123 0 0 (fun o => writeNxP K B wy mv sl se es o.1 o.2.1) (0, [some (.ref 64), some (.int (zI wy)), some (.int (zI mv)), some (.int (zI sl)), some (.int (zI se)), none], [], es) := fn_wxK i1 i2 i3 i4 hT hB hBr hBk hkX hK (fun r es1 kc ks h => h)
theorem xwP_J {K : Nat → Nat × (Nat → Int × Nat)} {B : Nat → Int} {wy mv sl se : Int} {es a : PH} {x : Int64} (h : xwP K B wy mv sl se es a) : xwP K B wy mv sl se es (sJ a 107 (Int.toNat 0) x) := by
  unfold xwP at h ⊢
  simp only [gI_sJ, gA_sJ]
  exact h
theorem s_writeNy0 {O : pOut} {d kc ks : Nat} {Q : pRes → Prop} {es : PH} {wy mv sl se : Int} (hs_es : sh es)
    (K1 : aW O d 285 kc ks Q (9, [some (.ref 64), some (.int (zI wy)), some (.int (zI mv)), some (.int (zI sl)), some (.int (zI se)), some (.ref 171), none], [.int (zI se), .int (zI sl), .int (zI mv), .int (zI wy), .ref 64, .int (zI 0), .ref 171], es)) :
    aW O d 285 kc ks Q (0, [some (.ref 64), some (.int (zI wy)), some (.int (zI mv)), some (.int (zI sl)), some (.int (zI se)), some (.ref 171), none], [], es) := by
  refine x0 (r := (2, [some (.ref 64), some (.int (zI wy)), some (.int (zI mv)), some (.int (zI sl)), some (.int (zI se)), some (.ref 171), none], [.ref 171], es)) i_285_0 rfl ?_
  refine x0 (r := (3, [some (.ref 64), some (.int (zI wy)), some (.int (zI mv)), some (.int (zI sl)), some (.int (zI se)), some (.ref 171), none], [.int (zI 0), .ref 171], es)) i_285_2 (by rfl) ?_
  refine x0 (r := (4, [some (.ref 64), some (.int (zI wy)), some (.int (zI mv)), some (.int (zI sl)), some (.int (zI se)), some (.ref 171), none], [.ref 64, .int (zI 0), .ref 171], es)) i_285_3 rfl ?_
  refine x0 (r := (5, [some (.ref 64), some (.int (zI wy)), some (.int (zI mv)), some (.int (zI sl)), some (.int (zI se)), some (.ref 171), none], [.int (zI wy), .ref 64, .int (zI 0), .ref 171], es)) i_285_4 rfl ?_
  refine x0 (r := (6, [some (.ref 64), some (.int (zI wy)), some (.int (zI mv)), some (.int (zI sl)), some (.int (zI se)), some (.ref 171), none], [.int (zI mv), .int (zI wy), .ref 64, .int (zI 0), .ref 171], es)) i_285_5 rfl ?_
  refine x0 (r := (7, [some (.ref 64), some (.int (zI wy)), some (.int (zI mv)), some (.int (zI sl)), some (.int (zI se)), some (.ref 171), none], [.int (zI sl), .int (zI mv), .int (zI wy), .ref 64, .int (zI 0), .ref 171], es)) i_285_6 rfl ?_
  refine x0 (r := (9, [some (.ref 64), some (.int (zI wy)), some (.int (zI mv)), some (.int (zI sl)), some (.int (zI se)), some (.ref 171), none], [.int (zI se), .int (zI sl), .int (zI mv), .int (zI wy), .ref 64, .int (zI 0), .ref 171], es)) i_285_7 rfl ?_
  exact K1
theorem s_writeNy1 {O : pOut} {d kc ks : Nat} {Q : pRes → Prop} {es : PH} {wy mv sl se v : Int} (hs_es : sh es)
    (K1 : ∀ es1 : PH, es1 = sJ es 107 (Int.toNat 0) ((zI v).toInt64) → Q (.inl (some (.int (zI 0))), es1, kc, ks)) :
    aW O d 285 kc ks Q (12, [some (.ref 64), some (.int (zI wy)), some (.int (zI mv)), some (.int (zI sl)), some (.int (zI se)), some (.ref 171), none], [.int (zI v), .int (zI 0), .ref 171], es) := by
  refine x0 (r := (13, [some (.ref 64), some (.int (zI wy)), some (.int (zI mv)), some (.int (zI sl)), some (.int (zI se)), some (.ref 171), none], [.long ((zI v).toInt64), .int (zI 0), .ref 171], es)) i_285_12 rfl ?_
  refine x_last (p := 107) i_285_13 hs_es rfl (by unfold i32 iLO iHI; omega) (by omega) (by omega) ?_
  obtain ⟨es1, e_es1⟩ : ∃ z : PH, z = sJ es 107 (Int.toNat 0) ((zI v).toInt64) := ⟨_, rfl⟩
  have hs_es1 : sh es1 := by rw [e_es1]; exact sh_sJ hs_es
  rw [← e_es1]
  refine x0 (r := (25, [some (.ref 64), some (.int (zI wy)), some (.int (zI mv)), some (.int (zI sl)), some (.int (zI se)), some (.ref 171), none], [], es1)) i_285_14 rfl ?_
  refine x0 (r := (26, [some (.ref 64), some (.int (zI wy)), some (.int (zI mv)), some (.int (zI sl)), some (.int (zI se)), some (.ref 171), none], [.int (zI 0)], es1)) i_285_25 (by rfl) ?_
  refine x_ret (v := some (.int (zI 0))) i_285_26 rfl (fun _ => rfl) rfl rfl rfl ?_
  exact K1 es1 e_es1
theorem s_writeNy19 {O : pOut} {d kc ks : Nat} {Q : pRes → Prop} {es : PH} {wy mv sl se : Int} (hs_es : sh es)
    (K1 : Q (.inl (some (.int (zI 1))), es, kc, ks)) :
    aW O d 285 kc ks Q (19, [some (.ref 64), some (.int (zI wy)), some (.int (zI mv)), some (.int (zI sl)), some (.int (zI se)), some (.ref 171), none], [], es) := by
  refine x0 (r := (20, [some (.ref 64), some (.int (zI wy)), some (.int (zI mv)), some (.int (zI sl)), some (.int (zI se)), some (.ref 171), none], [.int (zI 1)], es)) i_285_19 (by rfl) ?_
  refine x_ret (v := some (.int (zI 1))) i_285_20 rfl (fun _ => rfl) rfl rfl rfl ?_
  exact K1
theorem s_writeNy23 {O : pOut} {d kc ks : Nat} {Q : pRes → Prop} {es : PH} {wy mv sl se : Int} (hs_es : sh es)
    (K1 : Q (.inl (some (.int (zI 2))), es, kc, ks)) :
    aW O d 285 kc ks Q (23, [some (.ref 64), some (.int (zI wy)), some (.int (zI mv)), some (.int (zI sl)), some (.int (zI se)), some (.ref 171), none], [], es) := by
  refine x0 (r := (24, [some (.ref 64), some (.int (zI wy)), some (.int (zI mv)), some (.int (zI sl)), some (.int (zI se)), some (.ref 171), none], [.int (zI 2)], es)) i_285_23 (by rfl) ?_
  refine x_ret (v := some (.int (zI 2))) i_285_24 rfl (fun _ => rfl) rfl rfl rfl ?_
  exact K1
def writeNyP (K : Nat → Nat × (Nat → Int × Nat)) (B : Nat → Int) (wy : Int) (mv : Int) (sl : Int) (se : Int) (es : PH) (r : Option Value ⊕ Nat) (es1 : PH) : Prop := sh es1 ∧ True ∧ ∃ k : Int, r = .inl (some (.int (zI k))) ∧ ((k = 1 ∧ (wy < 0 ∨ 1 < wy ∨ mv < 1 ∨ 24 < mv ∨ sl < 0 ∨ 9 < sl) ∧ es1 = es) ∨ (k = 2 ∧ ((0 ≤ wy ∧ wy ≤ 1 ∧ 1 ≤ mv ∧ mv ≤ 24 ∧ 0 ≤ sl ∧ sl ≤ 9) ∧ 3 ≤ (gI es 7 5).toInt) ∧ es1 = es) ∨ (k = 0 ∧ ((0 ≤ wy ∧ wy ≤ 1 ∧ 1 ≤ mv ∧ mv ≤ 24 ∧ 0 ≤ sl ∧ sl ≤ 9) ∧ (gI es 7 5).toInt < 3) ∧ xwP K B wy mv sl se es es1 ∧ (gJ es1 107 (Int.toNat 0)).toInt = (gI es 7 5).toInt))
theorem fn_writeNy {xs : Nat → Int32} {n d : Nat} {K : Nat → Nat × (Nat → Int × Nat)} {B : Nat → Int} {es : PH} {wy mv sl se : Int} (i1 : i32 wy) (i2 : i32 mv) (i3 : i32 sl) (i4 : i32 se) (hT : hOK tT es) (hB : bdC B 11 es) (hBr : rwB B) (hBk : ∀ t, t < 36 → B t < 2 * (gI es 7 0).toInt) (hkX : 0 ≤ (gI es 7 0).toInt ∧ (gI es 7 0).toInt ≤ 5) (hK : kdC K 9 10 es) : aW (pO0 xs n) (d + 10) 285 0 0 (fun o => writeNyP K B wy mv sl se es o.1 o.2.1) (0, [some (.ref 64), some (.int (zI wy)), some (.int (zI mv)), some (.int (zI sl)), some (.int (zI se)), some (.ref 171), none], [], es) := by
  refine s_writeNy0 (sh_of hT) ?_
  refine x_call (vs := [.ref 64, .int (zI wy), .int (zI mv), .int (zI sl), .int (zI se)]) (rs := [.int (zI 0), .ref 171]) i_285_9 rfl (fun _ => rfl) rfl rfl rfl rfl rfl (pCall_v (p := 0) (sh_of hT) rfl rfl rfl rfl rfl (by decide) rfl rfl rfl rfl rfl) ?_
  show aW _ _ _ _ _ _ (0, [some (.ref 64), some (.int (zI wy)), some (.int (zI mv)), some (.int (zI sl)), some (.int (zI se)), none], [], es)
  refine aW_mono (Nat.le_refl _) (fun o ho => ?_) (fn_writeNx (xs := xs) (n := n) (d' := d) i1 i2 i3 i4 hT hB hBr hBk hkX hK)
  obtain ⟨r, es', kc', ks'⟩ := o
  obtain ⟨hs1, hcm, h⟩ : writeNxP K B wy mv sl se es r es' := ho
  rcases h with ⟨rfl, hc, g0⟩ | ⟨rfl, hc, g0⟩ | ⟨rfl, hc, g0⟩
  · refine ⟨_, _, _, _, rfl, rfl, rfl, ?_⟩
    show aW _ _ _ _ _ _ (19, [some (.ref 64), some (.int (zI wy)), some (.int (zI mv)), some (.int (zI sl)), some (.int (zI se)), some (.ref 171), none], [], es')
    exact s_writeNy19 hs1 ⟨hs1, hcm, 1, rfl, Or.inl ⟨rfl, hc, g0⟩⟩
  · refine ⟨_, _, _, _, rfl, rfl, rfl, ?_⟩
    show aW _ _ _ _ _ _ (23, [some (.ref 64), some (.int (zI wy)), some (.int (zI mv)), some (.int (zI sl)), some (.int (zI se)), some (.ref 171), none], [], es')
    exact s_writeNy23 hs1 ⟨hs1, hcm, 2, rfl, Or.inr (Or.inl ⟨rfl, hc, g0⟩)⟩
  · refine aK_inl ?_
    show aW _ _ _ _ _ _ (12, [some (.ref 64), some (.int (zI wy)), some (.int (zI mv)), some (.int (zI sl)), some (.int (zI se)), some (.ref 171), none], [.int (zI ((gI es 7 5).toInt)), .int (zI 0), .ref 171], es')
    refine s_writeNy1 hs1 (fun es1 e_es1 => ?_)
    have g9 : (gJ es1 107 (Int.toNat 0)).toInt = (gI es 7 5).toInt := by
      rw [e_es1, gJ_sJ hs1 (p := 107) (n := 1) rfl]
      unfold vp_updL
      rw [if_pos rfl, i2l_int (i32_rng _)]
    exact ⟨by show sh es1; rw [e_es1]; exact sh_sJ hs1, trivial, 0, rfl, Or.inr (Or.inr (⟨rfl, hc, by rw [e_es1]; exact xwP_J g0, g9⟩))⟩
/-! WRITE of the reference: what stands in the BOOK behind it -/
def mwP (K : Nat → Nat × (Nat → Int × Nat)) (B : Nat → Int) (wy mv sl se : Int) (es es1 : PH) : Prop := (gA es1 80 1).toInt = (gA es 80 1).toInt + 1 ∧ gA es1 80 (119 + 98 * (gA es 80 1).toInt.toNat) = zI wy ∧ (gA es1 80 (119 + 98 * (gA es 80 1).toInt.toNat + 1)).toInt = ((zWr K (gA es 80 0).toInt wy sl mv.toNat 0 B (zI se)).length : Int) ∧ (∀ (j : Nat) (x : Int × Int × Int), (zWr K (gA es 80 0).toInt wy sl mv.toNat 0 B (zI se))[j]? = some x → ntR (gA es1 80) (gA es 80 1).toInt.toNat j x) ∧ ∀ i, i ≠ 1 → ¬ (119 + 98 * (gA es 80 1).toInt.toNat ≤ i ∧ i < 119 + 98 * (gA es 80 1).toInt.toNat + 98) → gA es1 80 i = gA es 80 i
def writeNmP (K : Nat → Nat × (Nat → Int × Nat)) (B : Nat → Int) (wy mv sl se : Int) (es : PH) (r : Option Value ⊕ Nat) (es1 : PH) : Prop := sh es1 ∧ ∃ v : Int, r = .inl (some (.int (zI v))) ∧ i32 v ∧ (((gI es1 79 0).toInt = 1 ∧ (wy < 0 ∨ 1 < wy ∨ mv < 1 ∨ 24 < mv ∨ sl < 0 ∨ 9 < sl) ∧ gA es1 80 = gA es 80) ∨ ((gI es1 79 0).toInt = 2 ∧ ((0 ≤ wy ∧ wy ≤ 1 ∧ 1 ≤ mv ∧ mv ≤ 24 ∧ 0 ≤ sl ∧ sl ≤ 9) ∧ (gA es 80 1).toInt = 3) ∧ gA es1 80 = gA es 80) ∨ ((gI es1 79 0).toInt = 0 ∧ ((0 ≤ wy ∧ wy ≤ 1 ∧ 1 ≤ mv ∧ mv ≤ 24 ∧ 0 ≤ sl ∧ sl ≤ 9) ∧ (gA es 80 1).toInt < 3) ∧ v = (gA es 80 1).toInt ∧ mwP K B wy mv sl se es es1))
theorem fn_wmK {O : pOut} {d : Nat} {es : PH} {wy mv sl se : Int} {Q : pRes → Prop} {K : Nat → Nat × (Nat → Int × Nat)} {B : Nat → Int} (i1 : i32 wy) (i2 : i32 mv) (i3 : i32 sl) (i4 : i32 se) (hT : hOK tT es) (hB : ∀ s, s < 36 → (gA es 80 (13 + s)).toInt = B s) (hB0 : ∀ s, 36 ≤ s → B s = 0) (hBr : rwB B) (hBk : ∀ t, t < 36 → B t < 2 * (gA es 80 0).toInt) (hK : kdR K (gA es 80)) (KQ : ∀ r es1 kc ks, writeNmP K B wy mv sl se es r es1 → Q (r, es1, kc, ks)) : aW O (d + 8) 274 0 0 Q (0, [some (.ref 143), some (.int (zI wy)), some (.int (zI mv)), some (.int (zI sl)), some (.int (zI se)), none, none, none, none, none, none, none, none, none], [], es) := by
  have hb1 : 0 ≤ (gA es 80 0).toInt ∧ (gA es 80 0).toInt ≤ 5 := gA_bd hT (p := 80) (t := 0) (n := 2125) (sp := tS80) (k := 0) rfl (by omega) (by decide)
  have hb3 : 0 ≤ (gA es 80 1).toInt ∧ (gA es 80 1).toInt ≤ 3 := gA_bd hT (p := 80) (t := 0) (n := 2125) (sp := tS80) (k := 1) rfl (by omega) (by decide)
  have i0 : i32 0 := by unfold i32 iLO iHI; omega
  have q0 : ∀ (b : Int) (es1 es3 : PH), 0 ≤ b ∧ b ≤ 2 → es1 = sI es 79 0 (.int (zI 0)) → es3 = sI es1 79 0 (.int (zI b)) → sh es3 ∧ (gI es3 79 0).toInt = b ∧ gA es3 80 = gA es 80 := fun b es1 es3 hb e1 e3 => by
    have hs1 : sh es1 := by rw [e1]; exact sh_sI (sh_of hT) (p := 79) (b := 0) rfl rfl
    exact ⟨by rw [e3]; exact sh_sI hs1 (p := 79) (b := 0) rfl rfl, by rw [e3, gI_sI hs1 (p := 79) (b := 0) rfl (by decide)]; exact zI_toInt (by unfold i32 iLO iHI; omega), by rw [e3, gA_sI, e1, gA_sI]⟩
  have thr1 : ∀ es1 es3 : PH, es1 = sI es 79 0 (.int (zI 0)) → es3 = sI es1 79 0 (.int (zI 1)) → (wy < 0 ∨ 1 < wy ∨ mv < 1 ∨ 24 < mv ∨ sl < 0 ∨ 9 < sl) → Q (.inl (some (.int (zI 0))), es3, 0, 0) := fun es1 es3 e1 e3 h => KQ _ _ _ _ ⟨(q0 1 es1 es3 (by omega) e1 e3).1, 0, rfl, i0, Or.inl ⟨(q0 1 es1 es3 (by omega) e1 e3).2.1, h, (q0 1 es1 es3 (by omega) e1 e3).2.2⟩⟩
  refine s_write0 (d := d + 7) (kc := 0) (ks := 0) (sh_of hT) i1 i2 i3 i4 hT ?_ ?_ ?_ ?_ ?_ ?_ ?_ ?_
  · intro es1 he1 c1 es3 he3; exact thr1 es1 es3 he1 he3 (by omega)
  · intro es1 he1 c1 c2 es3 he3; exact thr1 es1 es3 he1 he3 (by omega)
  · intro es1 he1 c1 c2 c3 es3 he3; exact thr1 es1 es3 he1 he3 (by omega)
  · intro es1 he1 c1 c2 c3 c4 es3 he3; exact thr1 es1 es3 he1 he3 (by omega)
  · intro es1 he1 c1 c2 c3 c4 c5 es3 he3; exact thr1 es1 es3 he1 he3 (by omega)
  · intro es1 he1 c1 c2 c3 c4 c5 c6 es3 he3; exact thr1 es1 es3 he1 he3 (by omega)
  · intro es1 he1 w1 w2 m1 m2 l1 l2 v14 hv14 hne v16 hv16 es17 he17 es18 he18 v19 hv19 es20 he20 es21 he21
    have hT1 : hOK tT es1 := by rw [he1]; exact thr_sI hT _
    have a1 : gA es1 80 = gA es 80 := by rw [he1, gA_sI]
    rw [a1] at hv14 hv16
    have hv16' : v16 = (gA es 80 1).toInt := hv16
    have hv14' : v14 = (gA es 80 1).toInt := hv14
    obtain ⟨b, hb⟩ : ∃ b : Nat, v16 = (b : Int) := ⟨v16.toNat, by omega⟩
    have hb2 : b ≤ 2 := by omega
    have hbn : (gA es 80 1).toInt.toNat = b := by omega
    have x17 : (119 + (98 * v16)).toNat = 119 + 98 * b := by omega
    have x18 : ((119 + (98 * v16)) + 1).toNat = 119 + 98 * b + 1 := by omega
    rw [x17] at he17
    rw [x18] at he18
    have htab := tS80_bw b (by omega)
    have hT17 : hOK tT es17 := by
      rw [he17]
      exact hOK_sA hT1 (p := 80) (t := 0) (n := 2125) (sp := tS80) rfl (fun _ => by rw [htab.1, zI_toInt (by unfold i32 iLO iHI; omega)]; exact ⟨by show (0 : Int) ≤ wy; omega, by show wy ≤ (1 : Int); omega⟩)
    have hT18 : hOK tT es18 := by
      rw [he18]
      exact hOK_sA hT17 (p := 80) (t := 0) (n := 2125) (sp := tS80) rfl (fun _ => by rw [htab.2, zI_toInt (by unfold i32 iLO iHI; omega)]; exact ⟨by show (0 : Int) ≤ 0; omega, by show (0 : Int) ≤ (24 : Int); omega⟩)
    have wT : ∀ (a : PH) (i : Nat) (v : Int32), sh a → ∀ j, gA (sA a 80 i v) 80 j = if j = i then v else gA a 80 j := fun a i v ha j => by
      rw [gA_sA ha (p := 80) (t := 0) (n := 2125) (sp := tS80) rfl (by decide)]
      rfl
    have q18 : ∀ j, gA es18 80 j = if j = 119 + 98 * b + 1 then zI 0 else if j = 119 + 98 * b then zI wy else gA es 80 j := fun j => by
      rw [he18, wT _ _ _ (sh_of hT17), he17, wT _ _ _ (sh_of hT1), a1]
    have hv19' : v19 = v16 := by
      rw [hv19, show (Int.toNat 1) = 1 from rfl, q18, if_neg (by omega), if_neg (by omega)]
      exact hv16'.symm
    have hT20 : hOK tT es20 := by
      rw [he20]
      exact hOK_sA hT18 (p := 80) (t := 0) (n := 2125) (sp := tS80) rfl (fun _ => by rw [zI_toInt (by unfold i32 iLO iHI; omega)]; exact ⟨by show (0 : Int) ≤ v19 + 1; omega, by show v19 + 1 ≤ (3 : Int); omega⟩)
    have hT21 : hOK tT es21 := by
      rw [he21]
      exact hOK_sI hT20 (p := 79) (b := 51) (lo := iLO) (hi := iHI) rfl rfl (i32_rng _)
    have q21 : ∀ j, gA es21 80 j = if j = 1 then zI (v16 + 1) else if j = 119 + 98 * b + 1 then zI 0 else if j = 119 + 98 * b then zI wy else gA es 80 j := fun j => by
      rw [he21, gA_sI, he20, wT _ _ _ (sh_of hT18), q18, hv19']
      rfl
    have i79 : (gI es21 79 0).toInt = 0 := by
      rw [he21, gI_sI_ne (Or.inr (by decide)), he20, gI_sA, he18, gI_sA, he17, gI_sA, he1, gI_sI (sh_of hT) (p := 79) (b := 0) rfl (by decide)]
      rfl
    have i51 : gI es21 79 51 = zI se := by rw [he21, gI_sI (sh_of hT20) (p := 79) (b := 51) rfl (by decide)]
    -- the board
    refine x_call (vs := [.ref 143]) (rs := []) i_274_127 rfl (fun _ => rfl) rfl rfl rfl rfl rfl (pCall_v (p := 79) (sh_of hT21) rfl rfl rfl rfl rfl (by decide) rfl rfl rfl rfl rfl) ?_
    show aW _ _ _ _ _ _ (0, [some (.ref 143), none], [], es21)
    refine begins_spec (sh_of hT21) (fun eb pb => ?_)
    have hTb := pb.2.1 hT21
    have ab : gA eb 80 = gA es21 80 := by
      funext k
      rw [fr_gA pb.2.2.1 (sh_of hT21) (p := 80) (t := 0) (n := 2125) (sp := tS80) rfl (by decide)]
      unfold mIn
      simp
    have hw0 : ∀ i, gA es21 80 (13 + i) = gA es 80 (13 + i) ∨ 36 ≤ i := fun i => by
      by_cases hi : i < 36
      · left
        rw [q21, if_neg (by omega), if_neg (by omega), if_neg (by omega)]
      · right; omega
    have bb : brow eb 0 = B := by
      funext s
      unfold brow
      by_cases hs : s < 36
      · rw [if_pos hs, show 36 * 0 + s = s by omega, pb.2.2.2 s hs]
        rcases hw0 s with h | h
        · rw [h]; exact hB s hs
        · omega
      · rw [if_neg hs]
        exact (hB0 s (by omega)).symm
    have hK21 : kdR K (gA es21 80) := by
      intro k hk
      obtain ⟨k1, k2, k3⟩ := hK k hk
      have e : ∀ i, 2 ≤ i → i < 119 → gA es21 80 i = gA es 80 i := fun i h1 h2 => by rw [q21, if_neg (by omega), if_neg (by omega), if_neg (by omega)]
      refine ⟨by rw [e _ (by omega) (by omega)]; exact k1, k2, fun j hj => ?_⟩
      rw [e _ (by omega) (by omega), e _ (by omega) (by omega)]
      exact k3 j hj
    have e0 : gA es21 80 0 = gA es 80 0 := by rw [q21, if_neg (by omega), if_neg (by omega), if_neg (by omega)]
    show aW _ _ _ _ _ _ (130, [some (.ref 143), some (.int (zI wy)), some (.int (zI mv)), some (.int (zI sl)), some (.int (zI se)), some (.int (zI v16)), none, none, none, none, none, none, none, none], [], eb)
    obtain ⟨mN, hmN⟩ : ∃ mN : Nat, mv = (mN : Int) := ⟨mv.toNat, by omega⟩
    rw [hb, hmN]
    refine s_mw130 (d := d + 8) pb.1 ?_
    have hw : wrR (gA es21 80) b [] eb := by
      refine ⟨hTb, ?_, fun i _ => by rw [ab], ?_, fun j x hx => by cases hx⟩
      · rw [fr_gI pb.2.2.1 (sh_of hT21) (p := 79) (b := 0) rfl (by unfold mIn; simp)]; exact i79
      · rw [ab, q21, if_neg (by omega), if_pos rfl]; rfl
    refine wl_loop (d := d + 1) (w0 := gA es21 80) (K := K) (W := zWr K (gA es 80 0).toInt wy sl mv.toNat 0 B (zI se)) ⟨by omega, by omega⟩ ⟨by omega, by omega⟩ ⟨by omega, by omega⟩ hb2 hK21 (by rw [e0]; exact hb1) (fun es' hw' => ?_) mN 0 B (zI se) [] eb none none none none none none none (by omega) rfl hw bb ?_ hBr ?_ ?_
    · obtain ⟨r1, r2, r3, r4, r5⟩ := hw'
      refine KQ _ _ _ _ ⟨sh_of r1, (b : Int), rfl, by unfold i32 iLO iHI; omega, Or.inr (Or.inr ⟨r2, ⟨⟨by omega, by omega, by omega, by omega, by omega, by omega⟩, by omega⟩, by omega, ?_⟩)⟩
      unfold mwP
      rw [hbn]
      refine ⟨?_, ?_, r4, r5, fun i h1 h2 => ?_⟩
      · rw [r3 1 (by omega), q21, if_pos rfl, zI_toInt (by unfold i32 iLO iHI; omega)]
        omega
      · rw [r3 (119 + 98 * b) (by omega), q21, if_neg (by omega), if_neg (by omega), if_pos rfl]
      · rw [r3 i (by omega), q21, if_neg (by omega), if_neg (by omega), if_neg (by omega)]
    · rw [fr_gI pb.2.2.1 (sh_of hT21) (p := 79) (b := 51) rfl (by unfold mIn; simp)]; exact i51
    · intro h t ht
      rw [e0] at h
      have := hBk t ht
      omega
    · rw [e0, hmN, Int.toNat_natCast]
      rfl
  · intro es1 he1 c1 c2 c3 c4 c5 c6 v hv c7 es3 he3
    have hv1 : v = (gA es 80 1).toInt := by have h := hv; rw [he1, gA_sI] at h; exact h
    obtain ⟨h1, h2, h3⟩ := q0 2 es1 es3 (by omega) he1 he3
    exact KQ _ _ _ _ ⟨h1, 0, rfl, i0, Or.inr (Or.inl ⟨h2, ⟨⟨by omega, by omega, by omega, by omega, by omega, by omega⟩, by omega⟩, h3⟩)⟩
theorem fn_writeNm {O : pOut} {d : Nat} {es : PH} {wy mv sl se : Int} {K : Nat → Nat × (Nat → Int × Nat)} {B : Nat → Int} (i1 : i32 wy) (i2 : i32 mv) (i3 : i32 sl) (i4 : i32 se) (hT : hOK tT es) (hB : ∀ s, s < 36 → (gA es 80 (13 + s)).toInt = B s) (hB0 : ∀ s, 36 ≤ s → B s = 0) (hBr : rwB B) (hBk : ∀ t, t < 36 → B t < 2 * (gA es 80 0).toInt) (hK : kdR K (gA es 80)) : aW O (d + 8) 274 0 0 (fun o => writeNmP K B wy mv sl se es o.1 o.2.1) (0, [some (.ref 143), some (.int (zI wy)), some (.int (zI mv)), some (.int (zI sl)), some (.int (zI se)), none, none, none, none, none, none, none, none, none], [], es) := fn_wmK i1 i2 i3 i4 hT hB hB0 hBr hBk hK (fun r es1 kc ks h => h)
