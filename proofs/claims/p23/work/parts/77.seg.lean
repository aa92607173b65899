/-! SEGMENTS of methods by hand, printed by wip/ai2/hand3.py -/
theorem i_217_0 : iRow 217 0 = some (.iconst 0, 0, 0, 0, none) := rfl
theorem i_217_1 : iRow 217 1 = some (.istore_n 1, 0, 0, 0, none) := rfl
theorem i_217_2 : iRow 217 2 = some (.iload_n 1, 0, 0, 0, none) := rfl
theorem i_217_3 : iRow 217 3 = some (.bipush 36, 0, 0, 0, none) := rfl
theorem i_217_5 : iRow 217 5 = some (.if_icmp .ge 24, 0, 0, 0, none) := rfl
theorem i_217_8 : iRow 217 8 = some (.aload_n 0, 0, 0, 0, none) := rfl
theorem i_217_9 : iRow 217 9 = some (.getfield 39, 180, 12, 16, none) := rfl
theorem i_217_12 : iRow 217 12 = some (.iload_n 1, 0, 0, 0, none) := rfl
theorem i_217_13 : iRow 217 13 = some (.aload_n 0, 0, 0, 0, none) := rfl
theorem i_217_14 : iRow 217 14 = some (.getfield 13, 165, 12, 1, none) := rfl
theorem i_217_17 : iRow 217 17 = some (.bipush 13, 0, 0, 0, none) := rfl
theorem i_217_19 : iRow 217 19 = some (.iload_n 1, 0, 0, 0, none) := rfl
theorem i_217_20 : iRow 217 20 = some (.iadd, 0, 0, 0, none) := rfl
theorem i_217_21 : iRow 217 21 = some (.iaload, 0, 0, 0, none) := rfl
theorem i_217_22 : iRow 217 22 = some (.iastore, 0, 0, 0, none) := rfl
theorem i_217_23 : iRow 217 23 = some (.iinc 1 1, 0, 0, 0, none) := rfl
theorem i_217_26 : iRow 217 26 = some (.goto (-24), 0, 0, 0, none) := rfl
theorem i_217_29 : iRow 217 29 = some (.return_, 0, 0, 0, none) := rfl
theorem i_219_0 : iRow 219 0 = some (.aload_n 0, 0, 0, 0, (some (Jvm.ClassFile.FieldType.int))) := rfl
theorem i_219_1 : iRow 219 1 = some (.getfield 39, 180, 12, 16, (some (Jvm.ClassFile.FieldType.int))) := rfl
theorem i_219_4 : iRow 219 4 = some (.bipush 36, 0, 0, 0, (some (Jvm.ClassFile.FieldType.int))) := rfl
theorem i_219_6 : iRow 219 6 = some (.iload_n 1, 0, 0, 0, (some (Jvm.ClassFile.FieldType.int))) := rfl
theorem i_219_7 : iRow 219 7 = some (.imul, 0, 0, 0, (some (Jvm.ClassFile.FieldType.int))) := rfl
theorem i_219_8 : iRow 219 8 = some (.iload_n 2, 0, 0, 0, (some (Jvm.ClassFile.FieldType.int))) := rfl
theorem i_219_9 : iRow 219 9 = some (.iadd, 0, 0, 0, (some (Jvm.ClassFile.FieldType.int))) := rfl
theorem i_219_10 : iRow 219 10 = some (.iaload, 0, 0, 0, (some (Jvm.ClassFile.FieldType.int))) := rfl
theorem i_219_11 : iRow 219 11 = some (.ireturn, 0, 0, 0, (some (Jvm.ClassFile.FieldType.int))) := rfl
theorem i_220_0 : iRow 220 0 = some (.iload_n 0, 0, 0, 0, (some (Jvm.ClassFile.FieldType.int))) := rfl
theorem i_220_1 : iRow 220 1 = some (.iconst 1, 0, 0, 0, (some (Jvm.ClassFile.FieldType.int))) := rfl
theorem i_220_2 : iRow 220 2 = some (.iand, 0, 0, 0, (some (Jvm.ClassFile.FieldType.int))) := rfl
theorem i_220_3 : iRow 220 3 = some (.ireturn, 0, 0, 0, (some (Jvm.ClassFile.FieldType.int))) := rfl
theorem i_222_0 : iRow 222 0 = some (.iload_n 2, 0, 0, 0, none) := rfl
theorem i_222_1 : iRow 222 1 = some (.istore 7, 0, 0, 0, none) := rfl
theorem i_222_3 : iRow 222 3 = some (.iconst 0, 0, 0, 0, none) := rfl
theorem i_222_4 : iRow 222 4 = some (.istore 8, 0, 0, 0, none) := rfl
theorem i_222_6 : iRow 222 6 = some (.iload 8, 0, 0, 0, none) := rfl
theorem i_222_8 : iRow 222 8 = some (.iload 5, 0, 0, 0, none) := rfl
theorem i_222_10 : iRow 222 10 = some (.if_icmp .ge 75, 0, 0, 0, none) := rfl
theorem i_222_13 : iRow 222 13 = some (.iload 7, 0, 0, 0, none) := rfl
theorem i_222_15 : iRow 222 15 = some (.iload_n 3, 0, 0, 0, none) := rfl
theorem i_222_16 : iRow 222 16 = some (.iload 4, 0, 0, 0, none) := rfl
theorem i_222_18 : iRow 222 18 = some (.invokestatic 276, 312, 223, 0, none) := rfl
theorem i_222_21 : iRow 222 21 = some (.istore 7, 0, 0, 0, none) := rfl
theorem i_222_23 : iRow 222 23 = some (.iload 7, 0, 0, 0, none) := rfl
theorem i_222_25 : iRow 222 25 = some (.ifCond .ge 4, 0, 0, 0, none) := rfl
theorem i_222_28 : iRow 222 28 = some (.return_, 0, 0, 0, none) := rfl
theorem i_222_29 : iRow 222 29 = some (.aload_n 0, 0, 0, 0, none) := rfl
theorem i_222_30 : iRow 222 30 = some (.iload_n 1, 0, 0, 0, none) := rfl
theorem i_222_31 : iRow 222 31 = some (.iload 7, 0, 0, 0, none) := rfl
theorem i_222_33 : iRow 222 33 = some (.invokevirtual 279, 308, 219, 1, none) := rfl
theorem i_222_36 : iRow 222 36 = some (.istore 9, 0, 0, 0, none) := rfl
theorem i_222_38 : iRow 222 38 = some (.iload 9, 0, 0, 0, none) := rfl
theorem i_222_40 : iRow 222 40 = some (.ifCond .lt 25, 0, 0, 0, none) := rfl
theorem i_222_43 : iRow 222 43 = some (.iload 6, 0, 0, 0, none) := rfl
theorem i_222_45 : iRow 222 45 = some (.ifCond .ne 28, 0, 0, 0, none) := rfl
theorem i_222_48 : iRow 222 48 = some (.iload 9, 0, 0, 0, none) := rfl
theorem i_222_50 : iRow 222 50 = some (.invokestatic 282, 309, 220, 0, none) := rfl
theorem i_222_53 : iRow 222 53 = some (.aload_n 0, 0, 0, 0, none) := rfl
theorem i_222_54 : iRow 222 54 = some (.iload_n 1, 0, 0, 0, none) := rfl
theorem i_222_55 : iRow 222 55 = some (.iload_n 2, 0, 0, 0, none) := rfl
theorem i_222_56 : iRow 222 56 = some (.invokevirtual 279, 308, 219, 1, none) := rfl
theorem i_222_59 : iRow 222 59 = some (.invokestatic 282, 309, 220, 0, none) := rfl
theorem i_222_62 : iRow 222 62 = some (.if_icmp .eq 11, 0, 0, 0, none) := rfl
theorem i_222_65 : iRow 222 65 = some (.aload_n 0, 0, 0, 0, none) := rfl
theorem i_222_66 : iRow 222 66 = some (.iload_n 1, 0, 0, 0, none) := rfl
theorem i_222_67 : iRow 222 67 = some (.iload_n 2, 0, 0, 0, none) := rfl
theorem i_222_68 : iRow 222 68 = some (.iload 7, 0, 0, 0, none) := rfl
theorem i_222_70 : iRow 222 70 = some (.invokevirtual 285, 313, 224, 1, none) := rfl
theorem i_222_73 : iRow 222 73 = some (.iload 9, 0, 0, 0, none) := rfl
theorem i_222_75 : iRow 222 75 = some (.ifCond .lt 4, 0, 0, 0, none) := rfl
theorem i_222_78 : iRow 222 78 = some (.return_, 0, 0, 0, none) := rfl
theorem i_222_79 : iRow 222 79 = some (.iinc 8 1, 0, 0, 0, none) := rfl
theorem i_222_82 : iRow 222 82 = some (.goto (-76), 0, 0, 0, none) := rfl
theorem i_222_85 : iRow 222 85 = some (.return_, 0, 0, 0, none) := rfl
theorem i_224_0 : iRow 224 0 = some (.aload_n 0, 0, 0, 0, none) := rfl
theorem i_224_1 : iRow 224 1 = some (.getfield 43, 181, 12, 17, none) := rfl
theorem i_224_4 : iRow 224 4 = some (.sipush 1296, 0, 0, 0, none) := rfl
theorem i_224_7 : iRow 224 7 = some (.iload_n 1, 0, 0, 0, none) := rfl
theorem i_224_8 : iRow 224 8 = some (.imul, 0, 0, 0, none) := rfl
theorem i_224_9 : iRow 224 9 = some (.bipush 36, 0, 0, 0, none) := rfl
theorem i_224_11 : iRow 224 11 = some (.iload_n 2, 0, 0, 0, none) := rfl
theorem i_224_12 : iRow 224 12 = some (.imul, 0, 0, 0, none) := rfl
theorem i_224_13 : iRow 224 13 = some (.iadd, 0, 0, 0, none) := rfl
theorem i_224_14 : iRow 224 14 = some (.iload_n 3, 0, 0, 0, none) := rfl
theorem i_224_15 : iRow 224 15 = some (.iadd, 0, 0, 0, none) := rfl
theorem i_224_16 : iRow 224 16 = some (.iconst 1, 0, 0, 0, none) := rfl
theorem i_224_17 : iRow 224 17 = some (.bastore, 0, 0, 0, none) := rfl
theorem i_224_18 : iRow 224 18 = some (.return_, 0, 0, 0, none) := rfl
theorem i_253_0 : iRow 253 0 = some (.iconst 0, 0, 0, 0, none) := rfl
theorem i_253_1 : iRow 253 1 = some (.istore_n 3, 0, 0, 0, none) := rfl
theorem i_253_2 : iRow 253 2 = some (.iload_n 3, 0, 0, 0, none) := rfl
theorem i_253_3 : iRow 253 3 = some (.bipush 36, 0, 0, 0, none) := rfl
theorem i_253_5 : iRow 253 5 = some (.if_icmp .ge 28, 0, 0, 0, none) := rfl
theorem i_253_8 : iRow 253 8 = some (.aload_n 0, 0, 0, 0, none) := rfl
theorem i_253_9 : iRow 253 9 = some (.getfield 39, 180, 12, 16, none) := rfl
theorem i_253_12 : iRow 253 12 = some (.bipush 36, 0, 0, 0, none) := rfl
theorem i_253_14 : iRow 253 14 = some (.iload_n 1, 0, 0, 0, none) := rfl
theorem i_253_15 : iRow 253 15 = some (.iconst 1, 0, 0, 0, none) := rfl
theorem i_253_16 : iRow 253 16 = some (.iadd, 0, 0, 0, none) := rfl
theorem i_253_17 : iRow 253 17 = some (.imul, 0, 0, 0, none) := rfl
theorem i_253_18 : iRow 253 18 = some (.iload_n 3, 0, 0, 0, none) := rfl
theorem i_253_19 : iRow 253 19 = some (.iadd, 0, 0, 0, none) := rfl
theorem i_253_20 : iRow 253 20 = some (.aload_n 0, 0, 0, 0, none) := rfl
theorem i_253_21 : iRow 253 21 = some (.iload_n 1, 0, 0, 0, none) := rfl
theorem i_253_22 : iRow 253 22 = some (.iload_n 3, 0, 0, 0, none) := rfl
theorem i_253_23 : iRow 253 23 = some (.invokevirtual 279, 308, 219, 1, none) := rfl
theorem i_253_26 : iRow 253 26 = some (.iastore, 0, 0, 0, none) := rfl
theorem i_253_27 : iRow 253 27 = some (.iinc 3 1, 0, 0, 0, none) := rfl
theorem i_253_30 : iRow 253 30 = some (.goto (-28), 0, 0, 0, none) := rfl
theorem i_253_33 : iRow 253 33 = some (.aload_n 0, 0, 0, 0, none) := rfl
theorem i_253_34 : iRow 253 34 = some (.getfield 39, 180, 12, 16, none) := rfl
theorem i_253_37 : iRow 253 37 = some (.bipush 36, 0, 0, 0, none) := rfl
theorem i_253_39 : iRow 253 39 = some (.iload_n 1, 0, 0, 0, none) := rfl
theorem i_253_40 : iRow 253 40 = some (.iconst 1, 0, 0, 0, none) := rfl
theorem i_253_41 : iRow 253 41 = some (.iadd, 0, 0, 0, none) := rfl
theorem i_253_42 : iRow 253 42 = some (.imul, 0, 0, 0, none) := rfl
theorem i_253_43 : iRow 253 43 = some (.iload_n 2, 0, 0, 0, none) := rfl
theorem i_253_44 : iRow 253 44 = some (.bipush 36, 0, 0, 0, none) := rfl
theorem i_253_46 : iRow 253 46 = some (.irem, 0, 0, 0, none) := rfl
theorem i_253_47 : iRow 253 47 = some (.iadd, 0, 0, 0, none) := rfl
theorem i_253_48 : iRow 253 48 = some (.aload_n 0, 0, 0, 0, none) := rfl
theorem i_253_49 : iRow 253 49 = some (.iload_n 1, 0, 0, 0, none) := rfl
theorem i_253_50 : iRow 253 50 = some (.iload_n 2, 0, 0, 0, none) := rfl
theorem i_253_51 : iRow 253 51 = some (.bipush 36, 0, 0, 0, none) := rfl
theorem i_253_53 : iRow 253 53 = some (.idiv, 0, 0, 0, none) := rfl
theorem i_253_54 : iRow 253 54 = some (.invokevirtual 279, 308, 219, 1, none) := rfl
theorem i_253_57 : iRow 253 57 = some (.iastore, 0, 0, 0, none) := rfl
theorem i_253_58 : iRow 253 58 = some (.aload_n 0, 0, 0, 0, none) := rfl
theorem i_253_59 : iRow 253 59 = some (.getfield 39, 180, 12, 16, none) := rfl
theorem i_253_62 : iRow 253 62 = some (.bipush 36, 0, 0, 0, none) := rfl
theorem i_253_64 : iRow 253 64 = some (.iload_n 1, 0, 0, 0, none) := rfl
theorem i_253_65 : iRow 253 65 = some (.iconst 1, 0, 0, 0, none) := rfl
theorem i_253_66 : iRow 253 66 = some (.iadd, 0, 0, 0, none) := rfl
theorem i_253_67 : iRow 253 67 = some (.imul, 0, 0, 0, none) := rfl
theorem i_253_68 : iRow 253 68 = some (.iload_n 2, 0, 0, 0, none) := rfl
theorem i_253_69 : iRow 253 69 = some (.bipush 36, 0, 0, 0, none) := rfl
theorem i_253_71 : iRow 253 71 = some (.idiv, 0, 0, 0, none) := rfl
theorem i_253_72 : iRow 253 72 = some (.iadd, 0, 0, 0, none) := rfl
theorem i_253_73 : iRow 253 73 = some (.iconst (-1), 0, 0, 0, none) := rfl
theorem i_253_74 : iRow 253 74 = some (.iastore, 0, 0, 0, none) := rfl
theorem i_253_75 : iRow 253 75 = some (.return_, 0, 0, 0, none) := rfl
theorem s_begins0 {O : pOut} {d kc ks : Nat} {Q : pRes → Prop} {es : PH} (hs_es : sh es)
    (K1 : aW O d 217 kc ks Q (2, [some (.ref 143), some (.int (zI 0))], [], es)) :
    aW O d 217 kc ks Q (0, [some (.ref 143), none], [], es) := by
  refine x0 (r := (1, [some (.ref 143), none], [.int (zI 0)], es)) i_217_0 (by rfl) ?_
  refine x0 (r := (2, [some (.ref 143), some (.int (zI 0))], [], es)) i_217_1 rfl ?_
  exact K1

theorem s_begins2 {O : pOut} {d kc ks : Nat} {Q : pRes → Prop} {es : PH} {k : Int} (hs_es : sh es) (h1 : 0 ≤ k ∧ k ≤ 36)
    (K1 : 36 ≤ k → Q (.inl (none), es, kc, ks))
    (K2 : ¬ (36 ≤ k) → ∀ v2 : Int, v2 = (gA es 80 (13 + k).toNat).toInt → ∀ es3 : PH, es3 = sA es 87 k.toNat (zI v2) → aW O d 217 kc ks Q (2, [some (.ref 143), some (.int (zI (k + 1)))], [], es3)) :
    aW O d 217 kc ks Q (2, [some (.ref 143), some (.int (zI k))], [], es) := by
  refine x0 (r := (3, [some (.ref 143), some (.int (zI k))], [.int (zI k)], es)) i_217_2 rfl ?_
  refine x0 (r := (5, [some (.ref 143), some (.int (zI k))], [.int (zI 36), .int (zI k)], es)) i_217_3 (by rfl) ?_
  by_cases c1 : 36 ≤ k
  · refine x_cmpT i_217_5 (by unfold i32 iLO iHI; omega) (by unfold i32 iLO iHI; omega) rfl (by simp only [zC, cR]; omega) ?_
    refine x_ret (v := none) i_217_29 rfl (fun _ => rfl) rfl rfl rfl ?_
    exact K1 c1
  · refine x_cmpF i_217_5 (by unfold i32 iLO iHI; omega) (by unfold i32 iLO iHI; omega) rfl (by simp only [zC, cR]; omega) ?_
    refine x0 (r := (9, [some (.ref 143), some (.int (zI k))], [.ref 143], es)) i_217_8 rfl ?_
    refine x_getr (p := 79) (k := 151) i_217_9 hs_es rfl rfl ?_
    show aW _ _ _ _ _ _ (12, [some (.ref 143), some (.int (zI k))], [.ref 151], es)
    refine x0 (r := (13, [some (.ref 143), some (.int (zI k))], [.int (zI k), .ref 151], es)) i_217_12 rfl ?_
    refine x0 (r := (14, [some (.ref 143), some (.int (zI k))], [.ref 143, .int (zI k), .ref 151], es)) i_217_13 rfl ?_
    refine x_getr (p := 79) (k := 144) i_217_14 hs_es rfl rfl ?_
    show aW _ _ _ _ _ _ (17, [some (.ref 143), some (.int (zI k))], [.ref 144, .int (zI k), .ref 151], es)
    refine x0 (r := (19, [some (.ref 143), some (.int (zI k))], [.int (zI 13), .ref 144, .int (zI k), .ref 151], es)) i_217_17 (by rfl) ?_
    refine x0 (r := (20, [some (.ref 143), some (.int (zI k))], [.int (zI k), .int (zI 13), .ref 144, .int (zI k), .ref 151], es)) i_217_19 rfl ?_
    refine x_iadd i_217_20 ?_
    refine x_iald (p := 80) i_217_21 hs_es rfl (by unfold i32 iLO iHI; omega) (by omega) (by omega) ?_
    obtain ⟨v2, e_v2⟩ : ∃ z : Int, z = (gA es 80 (13 + k).toNat).toInt := ⟨_, rfl⟩
    rw [← e_v2]
    have r_v2 : iLO ≤ v2 ∧ v2 ≤ iHI := by rw [e_v2]; exact i32_rng _
    unfold iLO iHI at r_v2
    refine x_iast (p := 87) i_217_22 hs_es rfl (by unfold i32 iLO iHI; omega) (by omega) (by omega) ?_
    obtain ⟨es3, e_es3⟩ : ∃ z : PH, z = sA es 87 k.toNat (zI v2) := ⟨_, rfl⟩
    have hs_es3 : sh es3 := by rw [e_es3]; exact sh_sA hs_es
    rw [← e_es3]
    refine x_iinc (x := k) i_217_23 rfl (by show 1 < 2; decide) ?_
    show aW _ _ _ _ _ _ (26, [some (.ref 143), some (.int (zI (k + 1)))], [], es3)
    refine x0 (r := (2, [some (.ref 143), some (.int (zI (k + 1)))], [], es3)) i_217_26 rfl ?_
    exact K2 c1 v2 e_v2 es3 e_es3

theorem s_makes0 {O : pOut} {d kc ks : Nat} {Q : pRes → Prop} {es : PH} {dp cd : Int} (hs_es : sh es)
    (K1 : aW O d 253 kc ks Q (2, [some (.ref 143), some (.int (zI dp)), some (.int (zI cd)), some (.int (zI 0))], [], es)) :
    aW O d 253 kc ks Q (0, [some (.ref 143), some (.int (zI dp)), some (.int (zI cd)), none], [], es) := by
  refine x0 (r := (1, [some (.ref 143), some (.int (zI dp)), some (.int (zI cd)), none], [.int (zI 0)], es)) i_253_0 (by rfl) ?_
  refine x0 (r := (2, [some (.ref 143), some (.int (zI dp)), some (.int (zI cd)), some (.int (zI 0))], [], es)) i_253_1 rfl ?_
  exact K1

theorem s_makes2 {O : pOut} {d kc ks : Nat} {Q : pRes → Prop} {es : PH} {dp cd k : Int} (hs_es : sh es) (h0 : 0 ≤ dp ∧ dp ≤ 29) (hc : 0 ≤ cd ∧ cd ≤ 1295) (h1 : 0 ≤ k ∧ k ≤ 36)
    (K1 : 36 ≤ k → ∀ v2 : Int, v2 = (gA es 87 ((36 * dp) + (cd / 36)).toNat).toInt → ∀ es3 : PH, es3 = sA es 87 ((36 * (dp + 1)) + (cd % 36)).toNat (zI v2) → ∀ es4 : PH, es4 = sA es3 87 ((36 * (dp + 1)) + (cd / 36)).toNat (zI (-1)) → Q (.inl (none), es4, kc, ks))
    (K2 : ¬ (36 ≤ k) → ∀ v5 : Int, v5 = (gA es 87 ((36 * dp) + k).toNat).toInt → ∀ es6 : PH, es6 = sA es 87 ((36 * (dp + 1)) + k).toNat (zI v5) → aW O (d + 1) 253 kc ks Q (2, [some (.ref 143), some (.int (zI dp)), some (.int (zI cd)), some (.int (zI (k + 1)))], [], es6)) :
    aW O (d + 1) 253 kc ks Q (2, [some (.ref 143), some (.int (zI dp)), some (.int (zI cd)), some (.int (zI k))], [], es) := by
  refine x0 (r := (3, [some (.ref 143), some (.int (zI dp)), some (.int (zI cd)), some (.int (zI k))], [.int (zI k)], es)) i_253_2 rfl ?_
  refine x0 (r := (5, [some (.ref 143), some (.int (zI dp)), some (.int (zI cd)), some (.int (zI k))], [.int (zI 36), .int (zI k)], es)) i_253_3 (by rfl) ?_
  by_cases c1 : 36 ≤ k
  · refine x_cmpT i_253_5 (by unfold i32 iLO iHI; omega) (by unfold i32 iLO iHI; omega) rfl (by simp only [zC, cR]; omega) ?_
    refine x0 (r := (34, [some (.ref 143), some (.int (zI dp)), some (.int (zI cd)), some (.int (zI k))], [.ref 143], es)) i_253_33 rfl ?_
    refine x_getr (p := 79) (k := 151) i_253_34 hs_es rfl rfl ?_
    show aW _ _ _ _ _ _ (37, [some (.ref 143), some (.int (zI dp)), some (.int (zI cd)), some (.int (zI k))], [.ref 151], es)
    refine x0 (r := (39, [some (.ref 143), some (.int (zI dp)), some (.int (zI cd)), some (.int (zI k))], [.int (zI 36), .ref 151], es)) i_253_37 (by rfl) ?_
    refine x0 (r := (40, [some (.ref 143), some (.int (zI dp)), some (.int (zI cd)), some (.int (zI k))], [.int (zI dp), .int (zI 36), .ref 151], es)) i_253_39 rfl ?_
    refine x0 (r := (41, [some (.ref 143), some (.int (zI dp)), some (.int (zI cd)), some (.int (zI k))], [.int (zI 1), .int (zI dp), .int (zI 36), .ref 151], es)) i_253_40 (by rfl) ?_
    refine x_iadd i_253_41 ?_
    refine x_imul i_253_42 ?_
    refine x0 (r := (44, [some (.ref 143), some (.int (zI dp)), some (.int (zI cd)), some (.int (zI k))], [.int (zI cd), .int (zI (36 * (dp + 1))), .ref 151], es)) i_253_43 rfl ?_
    refine x0 (r := (46, [some (.ref 143), some (.int (zI dp)), some (.int (zI cd)), some (.int (zI k))], [.int (zI 36), .int (zI cd), .int (zI (36 * (dp + 1))), .ref 151], es)) i_253_44 (by rfl) ?_
    refine x_iremn i_253_46 (by omega) (by unfold i32 iLO iHI; omega) (by unfold i32 iLO iHI; omega) (by omega) ?_
    refine x_iadd i_253_47 ?_
    refine x0 (r := (49, [some (.ref 143), some (.int (zI dp)), some (.int (zI cd)), some (.int (zI k))], [.ref 143, .int (zI ((36 * (dp + 1)) + (cd % 36))), .ref 151], es)) i_253_48 rfl ?_
    refine x0 (r := (50, [some (.ref 143), some (.int (zI dp)), some (.int (zI cd)), some (.int (zI k))], [.int (zI dp), .ref 143, .int (zI ((36 * (dp + 1)) + (cd % 36))), .ref 151], es)) i_253_49 rfl ?_
    refine x0 (r := (51, [some (.ref 143), some (.int (zI dp)), some (.int (zI cd)), some (.int (zI k))], [.int (zI cd), .int (zI dp), .ref 143, .int (zI ((36 * (dp + 1)) + (cd % 36))), .ref 151], es)) i_253_50 rfl ?_
    refine x0 (r := (53, [some (.ref 143), some (.int (zI dp)), some (.int (zI cd)), some (.int (zI k))], [.int (zI 36), .int (zI cd), .int (zI dp), .ref 143, .int (zI ((36 * (dp + 1)) + (cd % 36))), .ref 151], es)) i_253_51 (by rfl) ?_
    refine x_idivn i_253_53 (by omega) (by unfold i32 iLO iHI; omega) (by unfold i32 iLO iHI; omega) (by omega) ?_
    refine x_call (vs := [.ref 143, .int (zI dp), .int (zI (cd / 36))]) (rs := [.int (zI ((36 * (dp + 1)) + (cd % 36))), .ref 151]) i_253_54 rfl (fun _ => rfl) rfl rfl rfl rfl rfl (pCall_v (p := 79) hs_es rfl rfl rfl rfl rfl (by decide) rfl rfl rfl rfl rfl) ?_
    show aW _ _ _ _ _ _ (0, [some (.ref 143), some (.int (zI dp)), some (.int (zI (cd / 36)))], [], es)
    refine x0 (r := (1, [some (.ref 143), some (.int (zI dp)), some (.int (zI (cd / 36)))], [.ref 143], es)) i_219_0 rfl ?_
    refine x_getr (p := 79) (k := 151) i_219_1 hs_es rfl rfl ?_
    show aW _ _ _ _ _ _ (4, [some (.ref 143), some (.int (zI dp)), some (.int (zI (cd / 36)))], [.ref 151], es)
    refine x0 (r := (6, [some (.ref 143), some (.int (zI dp)), some (.int (zI (cd / 36)))], [.int (zI 36), .ref 151], es)) i_219_4 (by rfl) ?_
    refine x0 (r := (7, [some (.ref 143), some (.int (zI dp)), some (.int (zI (cd / 36)))], [.int (zI dp), .int (zI 36), .ref 151], es)) i_219_6 rfl ?_
    refine x_imul i_219_7 ?_
    refine x0 (r := (9, [some (.ref 143), some (.int (zI dp)), some (.int (zI (cd / 36)))], [.int (zI (cd / 36)), .int (zI (36 * dp)), .ref 151], es)) i_219_8 rfl ?_
    refine x_iadd i_219_9 ?_
    refine x_iald (p := 87) i_219_10 hs_es rfl (by unfold i32 iLO iHI; omega) (by omega) (by omega) ?_
    obtain ⟨v2, e_v2⟩ : ∃ z : Int, z = (gA es 87 ((36 * dp) + (cd / 36)).toNat).toInt := ⟨_, rfl⟩
    rw [← e_v2]
    have r_v2 : iLO ≤ v2 ∧ v2 ≤ iHI := by rw [e_v2]; exact i32_rng _
    unfold iLO iHI at r_v2
    refine x_ret (v := some (.int (zI v2))) i_219_11 rfl (fun _ => rfl) rfl rfl rfl ?_
    show aW _ _ _ _ _ _ (57, [some (.ref 143), some (.int (zI dp)), some (.int (zI cd)), some (.int (zI k))], [.int (zI v2), .int (zI ((36 * (dp + 1)) + (cd % 36))), .ref 151], es)
    refine x_iast (p := 87) i_253_57 hs_es rfl (by unfold i32 iLO iHI; omega) (by omega) (by omega) ?_
    obtain ⟨es3, e_es3⟩ : ∃ z : PH, z = sA es 87 ((36 * (dp + 1)) + (cd % 36)).toNat (zI v2) := ⟨_, rfl⟩
    have hs_es3 : sh es3 := by rw [e_es3]; exact sh_sA hs_es
    rw [← e_es3]
    refine x0 (r := (59, [some (.ref 143), some (.int (zI dp)), some (.int (zI cd)), some (.int (zI k))], [.ref 143], es3)) i_253_58 rfl ?_
    refine x_getr (p := 79) (k := 151) i_253_59 hs_es3 rfl rfl ?_
    show aW _ _ _ _ _ _ (62, [some (.ref 143), some (.int (zI dp)), some (.int (zI cd)), some (.int (zI k))], [.ref 151], es3)
    refine x0 (r := (64, [some (.ref 143), some (.int (zI dp)), some (.int (zI cd)), some (.int (zI k))], [.int (zI 36), .ref 151], es3)) i_253_62 (by rfl) ?_
    refine x0 (r := (65, [some (.ref 143), some (.int (zI dp)), some (.int (zI cd)), some (.int (zI k))], [.int (zI dp), .int (zI 36), .ref 151], es3)) i_253_64 rfl ?_
    refine x0 (r := (66, [some (.ref 143), some (.int (zI dp)), some (.int (zI cd)), some (.int (zI k))], [.int (zI 1), .int (zI dp), .int (zI 36), .ref 151], es3)) i_253_65 (by rfl) ?_
    refine x_iadd i_253_66 ?_
    refine x_imul i_253_67 ?_
    refine x0 (r := (69, [some (.ref 143), some (.int (zI dp)), some (.int (zI cd)), some (.int (zI k))], [.int (zI cd), .int (zI (36 * (dp + 1))), .ref 151], es3)) i_253_68 rfl ?_
    refine x0 (r := (71, [some (.ref 143), some (.int (zI dp)), some (.int (zI cd)), some (.int (zI k))], [.int (zI 36), .int (zI cd), .int (zI (36 * (dp + 1))), .ref 151], es3)) i_253_69 (by rfl) ?_
    refine x_idivn i_253_71 (by omega) (by unfold i32 iLO iHI; omega) (by unfold i32 iLO iHI; omega) (by omega) ?_
    refine x_iadd i_253_72 ?_
    refine x0 (r := (74, [some (.ref 143), some (.int (zI dp)), some (.int (zI cd)), some (.int (zI k))], [.int (zI (-1)), .int (zI ((36 * (dp + 1)) + (cd / 36))), .ref 151], es3)) i_253_73 (by rfl) ?_
    refine x_iast (p := 87) i_253_74 hs_es3 rfl (by unfold i32 iLO iHI; omega) (by omega) (by omega) ?_
    obtain ⟨es4, e_es4⟩ : ∃ z : PH, z = sA es3 87 ((36 * (dp + 1)) + (cd / 36)).toNat (zI (-1)) := ⟨_, rfl⟩
    have hs_es4 : sh es4 := by rw [e_es4]; exact sh_sA hs_es3
    rw [← e_es4]
    refine x_ret (v := none) i_253_75 rfl (fun _ => rfl) rfl rfl rfl ?_
    exact K1 c1 v2 e_v2 es3 e_es3 es4 e_es4
  · refine x_cmpF i_253_5 (by unfold i32 iLO iHI; omega) (by unfold i32 iLO iHI; omega) rfl (by simp only [zC, cR]; omega) ?_
    refine x0 (r := (9, [some (.ref 143), some (.int (zI dp)), some (.int (zI cd)), some (.int (zI k))], [.ref 143], es)) i_253_8 rfl ?_
    refine x_getr (p := 79) (k := 151) i_253_9 hs_es rfl rfl ?_
    show aW _ _ _ _ _ _ (12, [some (.ref 143), some (.int (zI dp)), some (.int (zI cd)), some (.int (zI k))], [.ref 151], es)
    refine x0 (r := (14, [some (.ref 143), some (.int (zI dp)), some (.int (zI cd)), some (.int (zI k))], [.int (zI 36), .ref 151], es)) i_253_12 (by rfl) ?_
    refine x0 (r := (15, [some (.ref 143), some (.int (zI dp)), some (.int (zI cd)), some (.int (zI k))], [.int (zI dp), .int (zI 36), .ref 151], es)) i_253_14 rfl ?_
    refine x0 (r := (16, [some (.ref 143), some (.int (zI dp)), some (.int (zI cd)), some (.int (zI k))], [.int (zI 1), .int (zI dp), .int (zI 36), .ref 151], es)) i_253_15 (by rfl) ?_
    refine x_iadd i_253_16 ?_
    refine x_imul i_253_17 ?_
    refine x0 (r := (19, [some (.ref 143), some (.int (zI dp)), some (.int (zI cd)), some (.int (zI k))], [.int (zI k), .int (zI (36 * (dp + 1))), .ref 151], es)) i_253_18 rfl ?_
    refine x_iadd i_253_19 ?_
    refine x0 (r := (21, [some (.ref 143), some (.int (zI dp)), some (.int (zI cd)), some (.int (zI k))], [.ref 143, .int (zI ((36 * (dp + 1)) + k)), .ref 151], es)) i_253_20 rfl ?_
    refine x0 (r := (22, [some (.ref 143), some (.int (zI dp)), some (.int (zI cd)), some (.int (zI k))], [.int (zI dp), .ref 143, .int (zI ((36 * (dp + 1)) + k)), .ref 151], es)) i_253_21 rfl ?_
    refine x0 (r := (23, [some (.ref 143), some (.int (zI dp)), some (.int (zI cd)), some (.int (zI k))], [.int (zI k), .int (zI dp), .ref 143, .int (zI ((36 * (dp + 1)) + k)), .ref 151], es)) i_253_22 rfl ?_
    refine x_call (vs := [.ref 143, .int (zI dp), .int (zI k)]) (rs := [.int (zI ((36 * (dp + 1)) + k)), .ref 151]) i_253_23 rfl (fun _ => rfl) rfl rfl rfl rfl rfl (pCall_v (p := 79) hs_es rfl rfl rfl rfl rfl (by decide) rfl rfl rfl rfl rfl) ?_
    show aW _ _ _ _ _ _ (0, [some (.ref 143), some (.int (zI dp)), some (.int (zI k))], [], es)
    refine x0 (r := (1, [some (.ref 143), some (.int (zI dp)), some (.int (zI k))], [.ref 143], es)) i_219_0 rfl ?_
    refine x_getr (p := 79) (k := 151) i_219_1 hs_es rfl rfl ?_
    show aW _ _ _ _ _ _ (4, [some (.ref 143), some (.int (zI dp)), some (.int (zI k))], [.ref 151], es)
    refine x0 (r := (6, [some (.ref 143), some (.int (zI dp)), some (.int (zI k))], [.int (zI 36), .ref 151], es)) i_219_4 (by rfl) ?_
    refine x0 (r := (7, [some (.ref 143), some (.int (zI dp)), some (.int (zI k))], [.int (zI dp), .int (zI 36), .ref 151], es)) i_219_6 rfl ?_
    refine x_imul i_219_7 ?_
    refine x0 (r := (9, [some (.ref 143), some (.int (zI dp)), some (.int (zI k))], [.int (zI k), .int (zI (36 * dp)), .ref 151], es)) i_219_8 rfl ?_
    refine x_iadd i_219_9 ?_
    refine x_iald (p := 87) i_219_10 hs_es rfl (by unfold i32 iLO iHI; omega) (by omega) (by omega) ?_
    obtain ⟨v5, e_v5⟩ : ∃ z : Int, z = (gA es 87 ((36 * dp) + k).toNat).toInt := ⟨_, rfl⟩
    rw [← e_v5]
    have r_v5 : iLO ≤ v5 ∧ v5 ≤ iHI := by rw [e_v5]; exact i32_rng _
    unfold iLO iHI at r_v5
    refine x_ret (v := some (.int (zI v5))) i_219_11 rfl (fun _ => rfl) rfl rfl rfl ?_
    show aW _ _ _ _ _ _ (26, [some (.ref 143), some (.int (zI dp)), some (.int (zI cd)), some (.int (zI k))], [.int (zI v5), .int (zI ((36 * (dp + 1)) + k)), .ref 151], es)
    refine x_iast (p := 87) i_253_26 hs_es rfl (by unfold i32 iLO iHI; omega) (by omega) (by omega) ?_
    obtain ⟨es6, e_es6⟩ : ∃ z : PH, z = sA es 87 ((36 * (dp + 1)) + k).toNat (zI v5) := ⟨_, rfl⟩
    have hs_es6 : sh es6 := by rw [e_es6]; exact sh_sA hs_es
    rw [← e_es6]
    refine x_iinc (x := k) i_253_27 rfl (by show 3 < 4; decide) ?_
    show aW _ _ _ _ _ _ (30, [some (.ref 143), some (.int (zI dp)), some (.int (zI cd)), some (.int (zI (k + 1)))], [], es6)
    refine x0 (r := (2, [some (.ref 143), some (.int (zI dp)), some (.int (zI cd)), some (.int (zI (k + 1)))], [], es6)) i_253_30 rfl ?_
    exact K2 c1 v5 e_v5 es6 e_es6

theorem s_along0 {O : pOut} {d kc ks : Nat} {Q : pRes → Prop} {es : PH} {dp fm f r mo em : Int} (hs_es : sh es)
    (K1 : aW O d 222 kc ks Q (6, [some (.ref 143), some (.int (zI dp)), some (.int (zI fm)), some (.int (zI f)), some (.int (zI r)), some (.int (zI mo)), some (.int (zI em)), some (.int (zI fm)), some (.int (zI 0)), none], [], es)) :
    aW O d 222 kc ks Q (0, [some (.ref 143), some (.int (zI dp)), some (.int (zI fm)), some (.int (zI f)), some (.int (zI r)), some (.int (zI mo)), some (.int (zI em)), none, none, none], [], es) := by
  refine x0 (r := (1, [some (.ref 143), some (.int (zI dp)), some (.int (zI fm)), some (.int (zI f)), some (.int (zI r)), some (.int (zI mo)), some (.int (zI em)), none, none, none], [.int (zI fm)], es)) i_222_0 rfl ?_
  refine x0 (r := (3, [some (.ref 143), some (.int (zI dp)), some (.int (zI fm)), some (.int (zI f)), some (.int (zI r)), some (.int (zI mo)), some (.int (zI em)), some (.int (zI fm)), none, none], [], es)) i_222_1 rfl ?_
  refine x0 (r := (4, [some (.ref 143), some (.int (zI dp)), some (.int (zI fm)), some (.int (zI f)), some (.int (zI r)), some (.int (zI mo)), some (.int (zI em)), some (.int (zI fm)), none, none], [.int (zI 0)], es)) i_222_3 (by rfl) ?_
  refine x0 (r := (6, [some (.ref 143), some (.int (zI dp)), some (.int (zI fm)), some (.int (zI f)), some (.int (zI r)), some (.int (zI mo)), some (.int (zI em)), some (.int (zI fm)), some (.int (zI 0)), none], [], es)) i_222_4 rfl ?_
  exact K1

theorem s_along6 {O : pOut} {d kc ks : Nat} {Q : pRes → Prop} {es : PH} {dp fm f r mo em s k : Int} {x9 : Option Value} (hs_es : sh es) (hd : 0 ≤ dp ∧ dp ≤ 30) (hf : 0 ≤ fm ∧ fm ≤ 35) (h2 : -2 ≤ f ∧ f ≤ 2) (h3 : -2 ≤ r ∧ r ≤ 2) (h4 : -2147483648 ≤ mo ∧ mo ≤ 2147483647) (h5 : 0 ≤ em ∧ em ≤ 1) (h6 : 0 ≤ s ∧ s ≤ 35) (h7 : 0 ≤ k ∧ k ≤ 2147483646)
    (K1 : mo ≤ k → Q (.inl (none), es, kc, ks))
    (K2 : ¬ (mo ≤ k) → ((s % 6) + f) < 0 → Q (.inl (none), es, kc, ks))
    (K3 : ¬ (mo ≤ k) → ¬ (((s % 6) + f) < 0) → 5 < ((s % 6) + f) → Q (.inl (none), es, kc, ks))
    (K4 : ¬ (mo ≤ k) → ¬ (((s % 6) + f) < 0) → ¬ (5 < ((s % 6) + f)) → ((s / 6) + r) < 0 → Q (.inl (none), es, kc, ks))
    (K5 : ¬ (mo ≤ k) → ¬ (((s % 6) + f) < 0) → ¬ (5 < ((s % 6) + f)) → ¬ (((s / 6) + r) < 0) → 5 < ((s / 6) + r) → Q (.inl (none), es, kc, ks))
    (K6 : ¬ (mo ≤ k) → ¬ (((s % 6) + f) < 0) → ¬ (5 < ((s % 6) + f)) → ¬ (((s / 6) + r) < 0) → ¬ (5 < ((s / 6) + r)) → 0 ≤ ((6 * ((s / 6) + r)) + ((s % 6) + f)) → ∀ v7 : Int, v7 = (gA es 87 ((36 * dp) + ((6 * ((s / 6) + r)) + ((s % 6) + f))).toNat).toInt → v7 < 0 → ∀ es9 : PH, es9 = sA es 88 (((1296 * dp) + (36 * fm)) + ((6 * ((s / 6) + r)) + ((s % 6) + f))).toNat (zI 1) → aW O (d + 2) 222 kc ks Q (6, [some (.ref 143), some (.int (zI dp)), some (.int (zI fm)), some (.int (zI f)), some (.int (zI r)), some (.int (zI mo)), some (.int (zI em)), some (.int (zI ((6 * ((s / 6) + r)) + ((s % 6) + f)))), some (.int (zI (k + 1))), some (.int (zI v7))], [], es9))
    (K7 : ¬ (mo ≤ k) → ¬ (((s % 6) + f) < 0) → ¬ (5 < ((s % 6) + f)) → ¬ (((s / 6) + r) < 0) → ¬ (5 < ((s / 6) + r)) → 0 ≤ ((6 * ((s / 6) + r)) + ((s % 6) + f)) → ∀ v7 : Int, v7 = (gA es 87 ((36 * dp) + ((6 * ((s / 6) + r)) + ((s % 6) + f))).toNat).toInt → ¬ (v7 < 0) → em ≠ 0 → Q (.inl (none), es, kc, ks))
    (K8 : ¬ (mo ≤ k) → ¬ (((s % 6) + f) < 0) → ¬ (5 < ((s % 6) + f)) → ¬ (((s / 6) + r) < 0) → ¬ (5 < ((s / 6) + r)) → 0 ≤ ((6 * ((s / 6) + r)) + ((s % 6) + f)) → ∀ v7 : Int, v7 = (gA es 87 ((36 * dp) + ((6 * ((s / 6) + r)) + ((s % 6) + f))).toNat).toInt → ¬ (v7 < 0) → ¬ (em ≠ 0) → ∀ v11 : Int, v11 = (zI v7 &&& zI 1).toInt → ∀ v12 : Int, v12 = (gA es 87 ((36 * dp) + fm).toNat).toInt → ∀ v13 : Int, v13 = (zI v12 &&& zI 1).toInt → v11 = v13 → Q (.inl (none), es, kc, ks))
    (K9 : ¬ (mo ≤ k) → ¬ (((s % 6) + f) < 0) → ¬ (5 < ((s % 6) + f)) → ¬ (((s / 6) + r) < 0) → ¬ (5 < ((s / 6) + r)) → 0 ≤ ((6 * ((s / 6) + r)) + ((s % 6) + f)) → ∀ v7 : Int, v7 = (gA es 87 ((36 * dp) + ((6 * ((s / 6) + r)) + ((s % 6) + f))).toNat).toInt → ¬ (v7 < 0) → ¬ (em ≠ 0) → ∀ v11 : Int, v11 = (zI v7 &&& zI 1).toInt → ∀ v12 : Int, v12 = (gA es 87 ((36 * dp) + fm).toNat).toInt → ∀ v13 : Int, v13 = (zI v12 &&& zI 1).toInt → ¬ (v11 = v13) → ∀ es15 : PH, es15 = sA es 88 (((1296 * dp) + (36 * fm)) + ((6 * ((s / 6) + r)) + ((s % 6) + f))).toNat (zI 1) → Q (.inl (none), es15, kc, ks))
    (K10 : ¬ (mo ≤ k) → ¬ (((s % 6) + f) < 0) → ¬ (5 < ((s % 6) + f)) → ¬ (((s / 6) + r) < 0) → ¬ (5 < ((s / 6) + r)) → ¬ (0 ≤ ((6 * ((s / 6) + r)) + ((s % 6) + f))) → Q (.inl (none), es, kc, ks)) :
    aW O (d + 2) 222 kc ks Q (6, [some (.ref 143), some (.int (zI dp)), some (.int (zI fm)), some (.int (zI f)), some (.int (zI r)), some (.int (zI mo)), some (.int (zI em)), some (.int (zI s)), some (.int (zI k)), x9], [], es) := by
  refine x0 (r := (8, [some (.ref 143), some (.int (zI dp)), some (.int (zI fm)), some (.int (zI f)), some (.int (zI r)), some (.int (zI mo)), some (.int (zI em)), some (.int (zI s)), some (.int (zI k)), x9], [.int (zI k)], es)) i_222_6 rfl ?_
  refine x0 (r := (10, [some (.ref 143), some (.int (zI dp)), some (.int (zI fm)), some (.int (zI f)), some (.int (zI r)), some (.int (zI mo)), some (.int (zI em)), some (.int (zI s)), some (.int (zI k)), x9], [.int (zI mo), .int (zI k)], es)) i_222_8 rfl ?_
  by_cases c1 : mo ≤ k
  · refine x_cmpT i_222_10 (by unfold i32 iLO iHI; omega) (by unfold i32 iLO iHI; omega) rfl (by simp only [zC, cR]; omega) ?_
    refine x_ret (v := none) i_222_85 rfl (fun _ => rfl) rfl rfl rfl ?_
    exact K1 c1
  · refine x_cmpF i_222_10 (by unfold i32 iLO iHI; omega) (by unfold i32 iLO iHI; omega) rfl (by simp only [zC, cR]; omega) ?_
    refine x0 (r := (15, [some (.ref 143), some (.int (zI dp)), some (.int (zI fm)), some (.int (zI f)), some (.int (zI r)), some (.int (zI mo)), some (.int (zI em)), some (.int (zI s)), some (.int (zI k)), x9], [.int (zI s)], es)) i_222_13 rfl ?_
    refine x0 (r := (16, [some (.ref 143), some (.int (zI dp)), some (.int (zI fm)), some (.int (zI f)), some (.int (zI r)), some (.int (zI mo)), some (.int (zI em)), some (.int (zI s)), some (.int (zI k)), x9], [.int (zI f), .int (zI s)], es)) i_222_15 rfl ?_
    refine x0 (r := (18, [some (.ref 143), some (.int (zI dp)), some (.int (zI fm)), some (.int (zI f)), some (.int (zI r)), some (.int (zI mo)), some (.int (zI em)), some (.int (zI s)), some (.int (zI k)), x9], [.int (zI r), .int (zI f), .int (zI s)], es)) i_222_16 rfl ?_
    refine x_call (vs := [.int (zI s), .int (zI f), .int (zI r)]) (rs := []) i_222_18 rfl (fun _ => rfl) rfl rfl rfl rfl rfl rfl ?_
    show aW _ _ _ _ _ _ (0, [some (.int (zI s)), some (.int (zI f)), some (.int (zI r)), none, none], [], es)
    refine x0 (r := (1, [some (.int (zI s)), some (.int (zI f)), some (.int (zI r)), none, none], [.int (zI s)], es)) i_223_0 rfl ?_
    refine x0 (r := (3, [some (.int (zI s)), some (.int (zI f)), some (.int (zI r)), none, none], [.int (zI 6), .int (zI s)], es)) i_223_1 (by rfl) ?_
    refine x_iremn i_223_3 (by omega) (by unfold i32 iLO iHI; omega) (by unfold i32 iLO iHI; omega) (by omega) ?_
    refine x0 (r := (5, [some (.int (zI s)), some (.int (zI f)), some (.int (zI r)), none, none], [.int (zI f), .int (zI (s % 6))], es)) i_223_4 rfl ?_
    refine x_iadd i_223_5 ?_
    refine x0 (r := (7, [some (.int (zI s)), some (.int (zI f)), some (.int (zI r)), some (.int (zI ((s % 6) + f))), none], [], es)) i_223_6 rfl ?_
    refine x0 (r := (8, [some (.int (zI s)), some (.int (zI f)), some (.int (zI r)), some (.int (zI ((s % 6) + f))), none], [.int (zI s)], es)) i_223_7 rfl ?_
    refine x0 (r := (10, [some (.int (zI s)), some (.int (zI f)), some (.int (zI r)), some (.int (zI ((s % 6) + f))), none], [.int (zI 6), .int (zI s)], es)) i_223_8 (by rfl) ?_
    refine x_idivn i_223_10 (by omega) (by unfold i32 iLO iHI; omega) (by unfold i32 iLO iHI; omega) (by omega) ?_
    refine x0 (r := (12, [some (.int (zI s)), some (.int (zI f)), some (.int (zI r)), some (.int (zI ((s % 6) + f))), none], [.int (zI r), .int (zI (s / 6))], es)) i_223_11 rfl ?_
    refine x_iadd i_223_12 ?_
    refine x0 (r := (15, [some (.int (zI s)), some (.int (zI f)), some (.int (zI r)), some (.int (zI ((s % 6) + f))), some (.int (zI ((s / 6) + r)))], [], es)) i_223_13 rfl ?_
    refine x0 (r := (16, [some (.int (zI s)), some (.int (zI f)), some (.int (zI r)), some (.int (zI ((s % 6) + f))), some (.int (zI ((s / 6) + r)))], [.int (zI ((s % 6) + f))], es)) i_223_15 rfl ?_
    refine x0 (r := (17, [some (.int (zI s)), some (.int (zI f)), some (.int (zI r)), some (.int (zI ((s % 6) + f))), some (.int (zI ((s / 6) + r)))], [.int (zI 0), .int (zI ((s % 6) + f))], es)) i_223_16 (by rfl) ?_
    refine x0 (r := (18, [some (.int (zI s)), some (.int (zI f)), some (.int (zI r)), some (.int (zI ((s % 6) + f))), some (.int (zI ((s / 6) + r)))], [.int (zI 5), .int (zI 0), .int (zI ((s % 6) + f))], es)) i_223_17 (by rfl) ?_
    refine x_call (vs := [.int (zI ((s % 6) + f)), .int (zI 0), .int (zI 5)]) (rs := []) i_223_18 rfl (fun _ => rfl) rfl rfl rfl rfl rfl rfl ?_
    show aW _ _ _ _ _ _ (0, [some (.int (zI ((s % 6) + f))), some (.int (zI 0)), some (.int (zI 5))], [], es)
    refine x0 (r := (1, [some (.int (zI ((s % 6) + f))), some (.int (zI 0)), some (.int (zI 5))], [.int (zI ((s % 6) + f))], es)) i_193_0 rfl ?_
    refine x0 (r := (2, [some (.int (zI ((s % 6) + f))), some (.int (zI 0)), some (.int (zI 5))], [.int (zI 0), .int (zI ((s % 6) + f))], es)) i_193_1 rfl ?_
    by_cases c2 : ((s % 6) + f) < 0
    · refine x_cmpT i_193_2 (by unfold i32 iLO iHI; omega) (by unfold i32 iLO iHI; omega) rfl (by simp only [zC, cR]; omega) ?_
      refine x0 (r := (15, [some (.int (zI ((s % 6) + f))), some (.int (zI 0)), some (.int (zI 5))], [.int (zI 0)], es)) i_193_14 (by rfl) ?_
      refine x_ret (v := some (.int (zI 0))) i_193_15 rfl (fun _ => rfl) rfl rfl (pFin_b (by omega)) ?_
      show aW _ _ _ _ _ _ (21, [some (.int (zI s)), some (.int (zI f)), some (.int (zI r)), some (.int (zI ((s % 6) + f))), some (.int (zI ((s / 6) + r)))], [.int (zI 0)], es)
      refine x_ifT i_223_21 (by unfold i32 iLO iHI; omega) rfl (by simp only [zC, cR]; omega) ?_
      refine x0 (r := (45, [some (.int (zI s)), some (.int (zI f)), some (.int (zI r)), some (.int (zI ((s % 6) + f))), some (.int (zI ((s / 6) + r)))], [.int (zI (-1))], es)) i_223_44 (by rfl) ?_
      refine x_ret (v := some (.int (zI (-1)))) i_223_45 rfl (fun _ => rfl) rfl rfl rfl ?_
      show aW _ _ _ _ _ _ (21, [some (.ref 143), some (.int (zI dp)), some (.int (zI fm)), some (.int (zI f)), some (.int (zI r)), some (.int (zI mo)), some (.int (zI em)), some (.int (zI s)), some (.int (zI k)), x9], [.int (zI (-1))], es)
      refine x0 (r := (23, [some (.ref 143), some (.int (zI dp)), some (.int (zI fm)), some (.int (zI f)), some (.int (zI r)), some (.int (zI mo)), some (.int (zI em)), some (.int (zI (-1))), some (.int (zI k)), x9], [], es)) i_222_21 rfl ?_
      refine x0 (r := (25, [some (.ref 143), some (.int (zI dp)), some (.int (zI fm)), some (.int (zI f)), some (.int (zI r)), some (.int (zI mo)), some (.int (zI em)), some (.int (zI (-1))), some (.int (zI k)), x9], [.int (zI (-1))], es)) i_222_23 rfl ?_
      refine x_ifF i_222_25 (by unfold i32 iLO iHI; omega) rfl (by simp only [zC, cR]; omega) ?_
      refine x_ret (v := none) i_222_28 rfl (fun _ => rfl) rfl rfl rfl ?_
      exact K2 c1 c2
    · refine x_cmpF i_193_2 (by unfold i32 iLO iHI; omega) (by unfold i32 iLO iHI; omega) rfl (by simp only [zC, cR]; omega) ?_
      refine x0 (r := (6, [some (.int (zI ((s % 6) + f))), some (.int (zI 0)), some (.int (zI 5))], [.int (zI ((s % 6) + f))], es)) i_193_5 rfl ?_
      refine x0 (r := (7, [some (.int (zI ((s % 6) + f))), some (.int (zI 0)), some (.int (zI 5))], [.int (zI 5), .int (zI ((s % 6) + f))], es)) i_193_6 rfl ?_
      by_cases c3 : 5 < ((s % 6) + f)
      · refine x_cmpT i_193_7 (by unfold i32 iLO iHI; omega) (by unfold i32 iLO iHI; omega) rfl (by simp only [zC, cR]; omega) ?_
        refine x0 (r := (15, [some (.int (zI ((s % 6) + f))), some (.int (zI 0)), some (.int (zI 5))], [.int (zI 0)], es)) i_193_14 (by rfl) ?_
        refine x_ret (v := some (.int (zI 0))) i_193_15 rfl (fun _ => rfl) rfl rfl (pFin_b (by omega)) ?_
        show aW _ _ _ _ _ _ (21, [some (.int (zI s)), some (.int (zI f)), some (.int (zI r)), some (.int (zI ((s % 6) + f))), some (.int (zI ((s / 6) + r)))], [.int (zI 0)], es)
        refine x_ifT i_223_21 (by unfold i32 iLO iHI; omega) rfl (by simp only [zC, cR]; omega) ?_
        refine x0 (r := (45, [some (.int (zI s)), some (.int (zI f)), some (.int (zI r)), some (.int (zI ((s % 6) + f))), some (.int (zI ((s / 6) + r)))], [.int (zI (-1))], es)) i_223_44 (by rfl) ?_
        refine x_ret (v := some (.int (zI (-1)))) i_223_45 rfl (fun _ => rfl) rfl rfl rfl ?_
        show aW _ _ _ _ _ _ (21, [some (.ref 143), some (.int (zI dp)), some (.int (zI fm)), some (.int (zI f)), some (.int (zI r)), some (.int (zI mo)), some (.int (zI em)), some (.int (zI s)), some (.int (zI k)), x9], [.int (zI (-1))], es)
        refine x0 (r := (23, [some (.ref 143), some (.int (zI dp)), some (.int (zI fm)), some (.int (zI f)), some (.int (zI r)), some (.int (zI mo)), some (.int (zI em)), some (.int (zI (-1))), some (.int (zI k)), x9], [], es)) i_222_21 rfl ?_
        refine x0 (r := (25, [some (.ref 143), some (.int (zI dp)), some (.int (zI fm)), some (.int (zI f)), some (.int (zI r)), some (.int (zI mo)), some (.int (zI em)), some (.int (zI (-1))), some (.int (zI k)), x9], [.int (zI (-1))], es)) i_222_23 rfl ?_
        refine x_ifF i_222_25 (by unfold i32 iLO iHI; omega) rfl (by simp only [zC, cR]; omega) ?_
        refine x_ret (v := none) i_222_28 rfl (fun _ => rfl) rfl rfl rfl ?_
        exact K3 c1 c2 c3
      · refine x_cmpF i_193_7 (by unfold i32 iLO iHI; omega) (by unfold i32 iLO iHI; omega) rfl (by simp only [zC, cR]; omega) ?_
        refine x0 (r := (11, [some (.int (zI ((s % 6) + f))), some (.int (zI 0)), some (.int (zI 5))], [.int (zI 1)], es)) i_193_10 (by rfl) ?_
        refine x0 (r := (15, [some (.int (zI ((s % 6) + f))), some (.int (zI 0)), some (.int (zI 5))], [.int (zI 1)], es)) i_193_11 rfl ?_
        refine x_ret (v := some (.int (zI 1))) i_193_15 rfl (fun _ => rfl) rfl rfl (pFin_b (by omega)) ?_
        show aW _ _ _ _ _ _ (21, [some (.int (zI s)), some (.int (zI f)), some (.int (zI r)), some (.int (zI ((s % 6) + f))), some (.int (zI ((s / 6) + r)))], [.int (zI 1)], es)
        refine x_ifF i_223_21 (by unfold i32 iLO iHI; omega) rfl (by simp only [zC, cR]; omega) ?_
        refine x0 (r := (26, [some (.int (zI s)), some (.int (zI f)), some (.int (zI r)), some (.int (zI ((s % 6) + f))), some (.int (zI ((s / 6) + r)))], [.int (zI ((s / 6) + r))], es)) i_223_24 rfl ?_
        refine x0 (r := (27, [some (.int (zI s)), some (.int (zI f)), some (.int (zI r)), some (.int (zI ((s % 6) + f))), some (.int (zI ((s / 6) + r)))], [.int (zI 0), .int (zI ((s / 6) + r))], es)) i_223_26 (by rfl) ?_
        refine x0 (r := (28, [some (.int (zI s)), some (.int (zI f)), some (.int (zI r)), some (.int (zI ((s % 6) + f))), some (.int (zI ((s / 6) + r)))], [.int (zI 5), .int (zI 0), .int (zI ((s / 6) + r))], es)) i_223_27 (by rfl) ?_
        refine x_call (vs := [.int (zI ((s / 6) + r)), .int (zI 0), .int (zI 5)]) (rs := []) i_223_28 rfl (fun _ => rfl) rfl rfl rfl rfl rfl rfl ?_
        show aW _ _ _ _ _ _ (0, [some (.int (zI ((s / 6) + r))), some (.int (zI 0)), some (.int (zI 5))], [], es)
        refine x0 (r := (1, [some (.int (zI ((s / 6) + r))), some (.int (zI 0)), some (.int (zI 5))], [.int (zI ((s / 6) + r))], es)) i_193_0 rfl ?_
        refine x0 (r := (2, [some (.int (zI ((s / 6) + r))), some (.int (zI 0)), some (.int (zI 5))], [.int (zI 0), .int (zI ((s / 6) + r))], es)) i_193_1 rfl ?_
        by_cases c4 : ((s / 6) + r) < 0
        · refine x_cmpT i_193_2 (by unfold i32 iLO iHI; omega) (by unfold i32 iLO iHI; omega) rfl (by simp only [zC, cR]; omega) ?_
          refine x0 (r := (15, [some (.int (zI ((s / 6) + r))), some (.int (zI 0)), some (.int (zI 5))], [.int (zI 0)], es)) i_193_14 (by rfl) ?_
          refine x_ret (v := some (.int (zI 0))) i_193_15 rfl (fun _ => rfl) rfl rfl (pFin_b (by omega)) ?_
          show aW _ _ _ _ _ _ (31, [some (.int (zI s)), some (.int (zI f)), some (.int (zI r)), some (.int (zI ((s % 6) + f))), some (.int (zI ((s / 6) + r)))], [.int (zI 0)], es)
          refine x_ifT i_223_31 (by unfold i32 iLO iHI; omega) rfl (by simp only [zC, cR]; omega) ?_
          refine x0 (r := (45, [some (.int (zI s)), some (.int (zI f)), some (.int (zI r)), some (.int (zI ((s % 6) + f))), some (.int (zI ((s / 6) + r)))], [.int (zI (-1))], es)) i_223_44 (by rfl) ?_
          refine x_ret (v := some (.int (zI (-1)))) i_223_45 rfl (fun _ => rfl) rfl rfl rfl ?_
          show aW _ _ _ _ _ _ (21, [some (.ref 143), some (.int (zI dp)), some (.int (zI fm)), some (.int (zI f)), some (.int (zI r)), some (.int (zI mo)), some (.int (zI em)), some (.int (zI s)), some (.int (zI k)), x9], [.int (zI (-1))], es)
          refine x0 (r := (23, [some (.ref 143), some (.int (zI dp)), some (.int (zI fm)), some (.int (zI f)), some (.int (zI r)), some (.int (zI mo)), some (.int (zI em)), some (.int (zI (-1))), some (.int (zI k)), x9], [], es)) i_222_21 rfl ?_
          refine x0 (r := (25, [some (.ref 143), some (.int (zI dp)), some (.int (zI fm)), some (.int (zI f)), some (.int (zI r)), some (.int (zI mo)), some (.int (zI em)), some (.int (zI (-1))), some (.int (zI k)), x9], [.int (zI (-1))], es)) i_222_23 rfl ?_
          refine x_ifF i_222_25 (by unfold i32 iLO iHI; omega) rfl (by simp only [zC, cR]; omega) ?_
          refine x_ret (v := none) i_222_28 rfl (fun _ => rfl) rfl rfl rfl ?_
          exact K4 c1 c2 c3 c4
        · refine x_cmpF i_193_2 (by unfold i32 iLO iHI; omega) (by unfold i32 iLO iHI; omega) rfl (by simp only [zC, cR]; omega) ?_
          refine x0 (r := (6, [some (.int (zI ((s / 6) + r))), some (.int (zI 0)), some (.int (zI 5))], [.int (zI ((s / 6) + r))], es)) i_193_5 rfl ?_
          refine x0 (r := (7, [some (.int (zI ((s / 6) + r))), some (.int (zI 0)), some (.int (zI 5))], [.int (zI 5), .int (zI ((s / 6) + r))], es)) i_193_6 rfl ?_
          by_cases c5 : 5 < ((s / 6) + r)
          · refine x_cmpT i_193_7 (by unfold i32 iLO iHI; omega) (by unfold i32 iLO iHI; omega) rfl (by simp only [zC, cR]; omega) ?_
            refine x0 (r := (15, [some (.int (zI ((s / 6) + r))), some (.int (zI 0)), some (.int (zI 5))], [.int (zI 0)], es)) i_193_14 (by rfl) ?_
            refine x_ret (v := some (.int (zI 0))) i_193_15 rfl (fun _ => rfl) rfl rfl (pFin_b (by omega)) ?_
            show aW _ _ _ _ _ _ (31, [some (.int (zI s)), some (.int (zI f)), some (.int (zI r)), some (.int (zI ((s % 6) + f))), some (.int (zI ((s / 6) + r)))], [.int (zI 0)], es)
            refine x_ifT i_223_31 (by unfold i32 iLO iHI; omega) rfl (by simp only [zC, cR]; omega) ?_
            refine x0 (r := (45, [some (.int (zI s)), some (.int (zI f)), some (.int (zI r)), some (.int (zI ((s % 6) + f))), some (.int (zI ((s / 6) + r)))], [.int (zI (-1))], es)) i_223_44 (by rfl) ?_
            refine x_ret (v := some (.int (zI (-1)))) i_223_45 rfl (fun _ => rfl) rfl rfl rfl ?_
            show aW _ _ _ _ _ _ (21, [some (.ref 143), some (.int (zI dp)), some (.int (zI fm)), some (.int (zI f)), some (.int (zI r)), some (.int (zI mo)), some (.int (zI em)), some (.int (zI s)), some (.int (zI k)), x9], [.int (zI (-1))], es)
            refine x0 (r := (23, [some (.ref 143), some (.int (zI dp)), some (.int (zI fm)), some (.int (zI f)), some (.int (zI r)), some (.int (zI mo)), some (.int (zI em)), some (.int (zI (-1))), some (.int (zI k)), x9], [], es)) i_222_21 rfl ?_
            refine x0 (r := (25, [some (.ref 143), some (.int (zI dp)), some (.int (zI fm)), some (.int (zI f)), some (.int (zI r)), some (.int (zI mo)), some (.int (zI em)), some (.int (zI (-1))), some (.int (zI k)), x9], [.int (zI (-1))], es)) i_222_23 rfl ?_
            refine x_ifF i_222_25 (by unfold i32 iLO iHI; omega) rfl (by simp only [zC, cR]; omega) ?_
            refine x_ret (v := none) i_222_28 rfl (fun _ => rfl) rfl rfl rfl ?_
            exact K5 c1 c2 c3 c4 c5
          · refine x_cmpF i_193_7 (by unfold i32 iLO iHI; omega) (by unfold i32 iLO iHI; omega) rfl (by simp only [zC, cR]; omega) ?_
            refine x0 (r := (11, [some (.int (zI ((s / 6) + r))), some (.int (zI 0)), some (.int (zI 5))], [.int (zI 1)], es)) i_193_10 (by rfl) ?_
            refine x0 (r := (15, [some (.int (zI ((s / 6) + r))), some (.int (zI 0)), some (.int (zI 5))], [.int (zI 1)], es)) i_193_11 rfl ?_
            refine x_ret (v := some (.int (zI 1))) i_193_15 rfl (fun _ => rfl) rfl rfl (pFin_b (by omega)) ?_
            show aW _ _ _ _ _ _ (31, [some (.int (zI s)), some (.int (zI f)), some (.int (zI r)), some (.int (zI ((s % 6) + f))), some (.int (zI ((s / 6) + r)))], [.int (zI 1)], es)
            refine x_ifF i_223_31 (by unfold i32 iLO iHI; omega) rfl (by simp only [zC, cR]; omega) ?_
            refine x0 (r := (36, [some (.int (zI s)), some (.int (zI f)), some (.int (zI r)), some (.int (zI ((s % 6) + f))), some (.int (zI ((s / 6) + r)))], [.int (zI 6)], es)) i_223_34 (by rfl) ?_
            refine x0 (r := (38, [some (.int (zI s)), some (.int (zI f)), some (.int (zI r)), some (.int (zI ((s % 6) + f))), some (.int (zI ((s / 6) + r)))], [.int (zI ((s / 6) + r)), .int (zI 6)], es)) i_223_36 rfl ?_
            refine x_imul i_223_38 ?_
            refine x0 (r := (40, [some (.int (zI s)), some (.int (zI f)), some (.int (zI r)), some (.int (zI ((s % 6) + f))), some (.int (zI ((s / 6) + r)))], [.int (zI ((s % 6) + f)), .int (zI (6 * ((s / 6) + r)))], es)) i_223_39 rfl ?_
            refine x_iadd i_223_40 ?_
            refine x0 (r := (45, [some (.int (zI s)), some (.int (zI f)), some (.int (zI r)), some (.int (zI ((s % 6) + f))), some (.int (zI ((s / 6) + r)))], [.int (zI ((6 * ((s / 6) + r)) + ((s % 6) + f)))], es)) i_223_41 rfl ?_
            refine x_ret (v := some (.int (zI ((6 * ((s / 6) + r)) + ((s % 6) + f))))) i_223_45 rfl (fun _ => rfl) rfl rfl rfl ?_
            show aW _ _ _ _ _ _ (21, [some (.ref 143), some (.int (zI dp)), some (.int (zI fm)), some (.int (zI f)), some (.int (zI r)), some (.int (zI mo)), some (.int (zI em)), some (.int (zI s)), some (.int (zI k)), x9], [.int (zI ((6 * ((s / 6) + r)) + ((s % 6) + f)))], es)
            refine x0 (r := (23, [some (.ref 143), some (.int (zI dp)), some (.int (zI fm)), some (.int (zI f)), some (.int (zI r)), some (.int (zI mo)), some (.int (zI em)), some (.int (zI ((6 * ((s / 6) + r)) + ((s % 6) + f)))), some (.int (zI k)), x9], [], es)) i_222_21 rfl ?_
            refine x0 (r := (25, [some (.ref 143), some (.int (zI dp)), some (.int (zI fm)), some (.int (zI f)), some (.int (zI r)), some (.int (zI mo)), some (.int (zI em)), some (.int (zI ((6 * ((s / 6) + r)) + ((s % 6) + f)))), some (.int (zI k)), x9], [.int (zI ((6 * ((s / 6) + r)) + ((s % 6) + f)))], es)) i_222_23 rfl ?_
            by_cases c6 : 0 ≤ ((6 * ((s / 6) + r)) + ((s % 6) + f))
            · refine x_ifT i_222_25 (by unfold i32 iLO iHI; omega) rfl (by simp only [zC, cR]; omega) ?_
              refine x0 (r := (30, [some (.ref 143), some (.int (zI dp)), some (.int (zI fm)), some (.int (zI f)), some (.int (zI r)), some (.int (zI mo)), some (.int (zI em)), some (.int (zI ((6 * ((s / 6) + r)) + ((s % 6) + f)))), some (.int (zI k)), x9], [.ref 143], es)) i_222_29 rfl ?_
              refine x0 (r := (31, [some (.ref 143), some (.int (zI dp)), some (.int (zI fm)), some (.int (zI f)), some (.int (zI r)), some (.int (zI mo)), some (.int (zI em)), some (.int (zI ((6 * ((s / 6) + r)) + ((s % 6) + f)))), some (.int (zI k)), x9], [.int (zI dp), .ref 143], es)) i_222_30 rfl ?_
              refine x0 (r := (33, [some (.ref 143), some (.int (zI dp)), some (.int (zI fm)), some (.int (zI f)), some (.int (zI r)), some (.int (zI mo)), some (.int (zI em)), some (.int (zI ((6 * ((s / 6) + r)) + ((s % 6) + f)))), some (.int (zI k)), x9], [.int (zI ((6 * ((s / 6) + r)) + ((s % 6) + f))), .int (zI dp), .ref 143], es)) i_222_31 rfl ?_
              refine x_call (vs := [.ref 143, .int (zI dp), .int (zI ((6 * ((s / 6) + r)) + ((s % 6) + f)))]) (rs := []) i_222_33 rfl (fun _ => rfl) rfl rfl rfl rfl rfl (pCall_v (p := 79) hs_es rfl rfl rfl rfl rfl (by decide) rfl rfl rfl rfl rfl) ?_
              show aW _ _ _ _ _ _ (0, [some (.ref 143), some (.int (zI dp)), some (.int (zI ((6 * ((s / 6) + r)) + ((s % 6) + f))))], [], es)
              refine x0 (r := (1, [some (.ref 143), some (.int (zI dp)), some (.int (zI ((6 * ((s / 6) + r)) + ((s % 6) + f))))], [.ref 143], es)) i_219_0 rfl ?_
              refine x_getr (p := 79) (k := 151) i_219_1 hs_es rfl rfl ?_
              show aW _ _ _ _ _ _ (4, [some (.ref 143), some (.int (zI dp)), some (.int (zI ((6 * ((s / 6) + r)) + ((s % 6) + f))))], [.ref 151], es)
              refine x0 (r := (6, [some (.ref 143), some (.int (zI dp)), some (.int (zI ((6 * ((s / 6) + r)) + ((s % 6) + f))))], [.int (zI 36), .ref 151], es)) i_219_4 (by rfl) ?_
              refine x0 (r := (7, [some (.ref 143), some (.int (zI dp)), some (.int (zI ((6 * ((s / 6) + r)) + ((s % 6) + f))))], [.int (zI dp), .int (zI 36), .ref 151], es)) i_219_6 rfl ?_
              refine x_imul i_219_7 ?_
              refine x0 (r := (9, [some (.ref 143), some (.int (zI dp)), some (.int (zI ((6 * ((s / 6) + r)) + ((s % 6) + f))))], [.int (zI ((6 * ((s / 6) + r)) + ((s % 6) + f))), .int (zI (36 * dp)), .ref 151], es)) i_219_8 rfl ?_
              refine x_iadd i_219_9 ?_
              refine x_iald (p := 87) i_219_10 hs_es rfl (by unfold i32 iLO iHI; omega) (by omega) (by omega) ?_
              obtain ⟨v7, e_v7⟩ : ∃ z : Int, z = (gA es 87 ((36 * dp) + ((6 * ((s / 6) + r)) + ((s % 6) + f))).toNat).toInt := ⟨_, rfl⟩
              rw [← e_v7]
              have r_v7 : iLO ≤ v7 ∧ v7 ≤ iHI := by rw [e_v7]; exact i32_rng _
              unfold iLO iHI at r_v7
              refine x_ret (v := some (.int (zI v7))) i_219_11 rfl (fun _ => rfl) rfl rfl rfl ?_
              show aW _ _ _ _ _ _ (36, [some (.ref 143), some (.int (zI dp)), some (.int (zI fm)), some (.int (zI f)), some (.int (zI r)), some (.int (zI mo)), some (.int (zI em)), some (.int (zI ((6 * ((s / 6) + r)) + ((s % 6) + f)))), some (.int (zI k)), x9], [.int (zI v7)], es)
              refine x0 (r := (38, [some (.ref 143), some (.int (zI dp)), some (.int (zI fm)), some (.int (zI f)), some (.int (zI r)), some (.int (zI mo)), some (.int (zI em)), some (.int (zI ((6 * ((s / 6) + r)) + ((s % 6) + f)))), some (.int (zI k)), some (.int (zI v7))], [], es)) i_222_36 rfl ?_
              refine x0 (r := (40, [some (.ref 143), some (.int (zI dp)), some (.int (zI fm)), some (.int (zI f)), some (.int (zI r)), some (.int (zI mo)), some (.int (zI em)), some (.int (zI ((6 * ((s / 6) + r)) + ((s % 6) + f)))), some (.int (zI k)), some (.int (zI v7))], [.int (zI v7)], es)) i_222_38 rfl ?_
              by_cases c8 : v7 < 0
              · refine x_ifT i_222_40 (by unfold i32 iLO iHI; omega) rfl (by simp only [zC, cR]; omega) ?_
                refine x0 (r := (66, [some (.ref 143), some (.int (zI dp)), some (.int (zI fm)), some (.int (zI f)), some (.int (zI r)), some (.int (zI mo)), some (.int (zI em)), some (.int (zI ((6 * ((s / 6) + r)) + ((s % 6) + f)))), some (.int (zI k)), some (.int (zI v7))], [.ref 143], es)) i_222_65 rfl ?_
                refine x0 (r := (67, [some (.ref 143), some (.int (zI dp)), some (.int (zI fm)), some (.int (zI f)), some (.int (zI r)), some (.int (zI mo)), some (.int (zI em)), some (.int (zI ((6 * ((s / 6) + r)) + ((s % 6) + f)))), some (.int (zI k)), some (.int (zI v7))], [.int (zI dp), .ref 143], es)) i_222_66 rfl ?_
                refine x0 (r := (68, [some (.ref 143), some (.int (zI dp)), some (.int (zI fm)), some (.int (zI f)), some (.int (zI r)), some (.int (zI mo)), some (.int (zI em)), some (.int (zI ((6 * ((s / 6) + r)) + ((s % 6) + f)))), some (.int (zI k)), some (.int (zI v7))], [.int (zI fm), .int (zI dp), .ref 143], es)) i_222_67 rfl ?_
                refine x0 (r := (70, [some (.ref 143), some (.int (zI dp)), some (.int (zI fm)), some (.int (zI f)), some (.int (zI r)), some (.int (zI mo)), some (.int (zI em)), some (.int (zI ((6 * ((s / 6) + r)) + ((s % 6) + f)))), some (.int (zI k)), some (.int (zI v7))], [.int (zI ((6 * ((s / 6) + r)) + ((s % 6) + f))), .int (zI fm), .int (zI dp), .ref 143], es)) i_222_68 rfl ?_
                refine x_call (vs := [.ref 143, .int (zI dp), .int (zI fm), .int (zI ((6 * ((s / 6) + r)) + ((s % 6) + f)))]) (rs := []) i_222_70 rfl (fun _ => rfl) rfl rfl rfl rfl rfl (pCall_v (p := 79) hs_es rfl rfl rfl rfl rfl (by decide) rfl rfl rfl rfl rfl) ?_
                show aW _ _ _ _ _ _ (0, [some (.ref 143), some (.int (zI dp)), some (.int (zI fm)), some (.int (zI ((6 * ((s / 6) + r)) + ((s % 6) + f))))], [], es)
                refine x0 (r := (1, [some (.ref 143), some (.int (zI dp)), some (.int (zI fm)), some (.int (zI ((6 * ((s / 6) + r)) + ((s % 6) + f))))], [.ref 143], es)) i_224_0 rfl ?_
                refine x_getr (p := 79) (k := 152) i_224_1 hs_es rfl rfl ?_
                show aW _ _ _ _ _ _ (4, [some (.ref 143), some (.int (zI dp)), some (.int (zI fm)), some (.int (zI ((6 * ((s / 6) + r)) + ((s % 6) + f))))], [.ref 152], es)
                refine x0 (r := (7, [some (.ref 143), some (.int (zI dp)), some (.int (zI fm)), some (.int (zI ((6 * ((s / 6) + r)) + ((s % 6) + f))))], [.int (zI 1296), .ref 152], es)) i_224_4 (by rfl) ?_
                refine x0 (r := (8, [some (.ref 143), some (.int (zI dp)), some (.int (zI fm)), some (.int (zI ((6 * ((s / 6) + r)) + ((s % 6) + f))))], [.int (zI dp), .int (zI 1296), .ref 152], es)) i_224_7 rfl ?_
                refine x_imul i_224_8 ?_
                refine x0 (r := (11, [some (.ref 143), some (.int (zI dp)), some (.int (zI fm)), some (.int (zI ((6 * ((s / 6) + r)) + ((s % 6) + f))))], [.int (zI 36), .int (zI (1296 * dp)), .ref 152], es)) i_224_9 (by rfl) ?_
                refine x0 (r := (12, [some (.ref 143), some (.int (zI dp)), some (.int (zI fm)), some (.int (zI ((6 * ((s / 6) + r)) + ((s % 6) + f))))], [.int (zI fm), .int (zI 36), .int (zI (1296 * dp)), .ref 152], es)) i_224_11 rfl ?_
                refine x_imul i_224_12 ?_
                refine x_iadd i_224_13 ?_
                refine x0 (r := (15, [some (.ref 143), some (.int (zI dp)), some (.int (zI fm)), some (.int (zI ((6 * ((s / 6) + r)) + ((s % 6) + f))))], [.int (zI ((6 * ((s / 6) + r)) + ((s % 6) + f))), .int (zI ((1296 * dp) + (36 * fm))), .ref 152], es)) i_224_14 rfl ?_
                refine x_iadd i_224_15 ?_
                refine x0 (r := (17, [some (.ref 143), some (.int (zI dp)), some (.int (zI fm)), some (.int (zI ((6 * ((s / 6) + r)) + ((s % 6) + f))))], [.int (zI 1), .int (zI (((1296 * dp) + (36 * fm)) + ((6 * ((s / 6) + r)) + ((s % 6) + f)))), .ref 152], es)) i_224_16 (by rfl) ?_
                refine x_bast3 (p := 88) i_224_17 hs_es rfl (by unfold i32 iLO iHI; omega) (by omega) (by omega) (by omega) ?_
                obtain ⟨es9, e_es9⟩ : ∃ z : PH, z = sA es 88 (((1296 * dp) + (36 * fm)) + ((6 * ((s / 6) + r)) + ((s % 6) + f))).toNat (zI 1) := ⟨_, rfl⟩
                have hs_es9 : sh es9 := by rw [e_es9]; exact sh_sA hs_es
                rw [← e_es9]
                refine x_ret (v := none) i_224_18 rfl (fun _ => rfl) rfl rfl rfl ?_
                show aW _ _ _ _ _ _ (73, [some (.ref 143), some (.int (zI dp)), some (.int (zI fm)), some (.int (zI f)), some (.int (zI r)), some (.int (zI mo)), some (.int (zI em)), some (.int (zI ((6 * ((s / 6) + r)) + ((s % 6) + f)))), some (.int (zI k)), some (.int (zI v7))], [], es9)
                refine x0 (r := (75, [some (.ref 143), some (.int (zI dp)), some (.int (zI fm)), some (.int (zI f)), some (.int (zI r)), some (.int (zI mo)), some (.int (zI em)), some (.int (zI ((6 * ((s / 6) + r)) + ((s % 6) + f)))), some (.int (zI k)), some (.int (zI v7))], [.int (zI v7)], es9)) i_222_73 rfl ?_
                refine x_ifT i_222_75 (by unfold i32 iLO iHI; omega) rfl (by simp only [zC, cR]; omega) ?_
                refine x_iinc (x := k) i_222_79 rfl (by show 8 < 10; decide) ?_
                show aW _ _ _ _ _ _ (82, [some (.ref 143), some (.int (zI dp)), some (.int (zI fm)), some (.int (zI f)), some (.int (zI r)), some (.int (zI mo)), some (.int (zI em)), some (.int (zI ((6 * ((s / 6) + r)) + ((s % 6) + f)))), some (.int (zI (k + 1))), some (.int (zI v7))], [], es9)
                refine x0 (r := (6, [some (.ref 143), some (.int (zI dp)), some (.int (zI fm)), some (.int (zI f)), some (.int (zI r)), some (.int (zI mo)), some (.int (zI em)), some (.int (zI ((6 * ((s / 6) + r)) + ((s % 6) + f)))), some (.int (zI (k + 1))), some (.int (zI v7))], [], es9)) i_222_82 rfl ?_
                exact K6 c1 c2 c3 c4 c5 c6 v7 e_v7 c8 es9 e_es9
              · refine x_ifF i_222_40 (by unfold i32 iLO iHI; omega) rfl (by simp only [zC, cR]; omega) ?_
                refine x0 (r := (45, [some (.ref 143), some (.int (zI dp)), some (.int (zI fm)), some (.int (zI f)), some (.int (zI r)), some (.int (zI mo)), some (.int (zI em)), some (.int (zI ((6 * ((s / 6) + r)) + ((s % 6) + f)))), some (.int (zI k)), some (.int (zI v7))], [.int (zI em)], es)) i_222_43 rfl ?_
                by_cases c10 : em ≠ 0
                · refine x_ifT i_222_45 (by unfold i32 iLO iHI; omega) rfl (by simp only [zC, cR]; omega) ?_
                  refine x0 (r := (75, [some (.ref 143), some (.int (zI dp)), some (.int (zI fm)), some (.int (zI f)), some (.int (zI r)), some (.int (zI mo)), some (.int (zI em)), some (.int (zI ((6 * ((s / 6) + r)) + ((s % 6) + f)))), some (.int (zI k)), some (.int (zI v7))], [.int (zI v7)], es)) i_222_73 rfl ?_
                  refine x_ifF i_222_75 (by unfold i32 iLO iHI; omega) rfl (by simp only [zC, cR]; omega) ?_
                  refine x_ret (v := none) i_222_78 rfl (fun _ => rfl) rfl rfl rfl ?_
                  exact K7 c1 c2 c3 c4 c5 c6 v7 e_v7 c8 c10
                · refine x_ifF i_222_45 (by unfold i32 iLO iHI; omega) rfl (by simp only [zC, cR]; omega) ?_
                  refine x0 (r := (50, [some (.ref 143), some (.int (zI dp)), some (.int (zI fm)), some (.int (zI f)), some (.int (zI r)), some (.int (zI mo)), some (.int (zI em)), some (.int (zI ((6 * ((s / 6) + r)) + ((s % 6) + f)))), some (.int (zI k)), some (.int (zI v7))], [.int (zI v7)], es)) i_222_48 rfl ?_
                  refine x_call (vs := [.int (zI v7)]) (rs := []) i_222_50 rfl (fun _ => rfl) rfl rfl rfl rfl rfl rfl ?_
                  show aW _ _ _ _ _ _ (0, [some (.int (zI v7))], [], es)
                  refine x0 (r := (1, [some (.int (zI v7))], [.int (zI v7)], es)) i_220_0 rfl ?_
                  refine x0 (r := (2, [some (.int (zI v7))], [.int (zI 1), .int (zI v7)], es)) i_220_1 (by rfl) ?_
                  refine x_op i_220_2 (w := (zI v7 &&& zI 1)) rfl rfl ?_
                  obtain ⟨v11, e_v11⟩ : ∃ z : Int, z = (zI v7 &&& zI 1).toInt := ⟨_, rfl⟩
                  rw [← e_v11]
                  have r_v11 : iLO ≤ v11 ∧ v11 ≤ iHI := by rw [e_v11]; exact i32_rng _
                  unfold iLO iHI at r_v11
                  refine x_ret (v := some (.int (zI v11))) i_220_3 rfl (fun _ => rfl) rfl rfl rfl ?_
                  show aW _ _ _ _ _ _ (53, [some (.ref 143), some (.int (zI dp)), some (.int (zI fm)), some (.int (zI f)), some (.int (zI r)), some (.int (zI mo)), some (.int (zI em)), some (.int (zI ((6 * ((s / 6) + r)) + ((s % 6) + f)))), some (.int (zI k)), some (.int (zI v7))], [.int (zI v11)], es)
                  refine x0 (r := (54, [some (.ref 143), some (.int (zI dp)), some (.int (zI fm)), some (.int (zI f)), some (.int (zI r)), some (.int (zI mo)), some (.int (zI em)), some (.int (zI ((6 * ((s / 6) + r)) + ((s % 6) + f)))), some (.int (zI k)), some (.int (zI v7))], [.ref 143, .int (zI v11)], es)) i_222_53 rfl ?_
                  refine x0 (r := (55, [some (.ref 143), some (.int (zI dp)), some (.int (zI fm)), some (.int (zI f)), some (.int (zI r)), some (.int (zI mo)), some (.int (zI em)), some (.int (zI ((6 * ((s / 6) + r)) + ((s % 6) + f)))), some (.int (zI k)), some (.int (zI v7))], [.int (zI dp), .ref 143, .int (zI v11)], es)) i_222_54 rfl ?_
                  refine x0 (r := (56, [some (.ref 143), some (.int (zI dp)), some (.int (zI fm)), some (.int (zI f)), some (.int (zI r)), some (.int (zI mo)), some (.int (zI em)), some (.int (zI ((6 * ((s / 6) + r)) + ((s % 6) + f)))), some (.int (zI k)), some (.int (zI v7))], [.int (zI fm), .int (zI dp), .ref 143, .int (zI v11)], es)) i_222_55 rfl ?_
                  refine x_call (vs := [.ref 143, .int (zI dp), .int (zI fm)]) (rs := [.int (zI v11)]) i_222_56 rfl (fun _ => rfl) rfl rfl rfl rfl rfl (pCall_v (p := 79) hs_es rfl rfl rfl rfl rfl (by decide) rfl rfl rfl rfl rfl) ?_
                  show aW _ _ _ _ _ _ (0, [some (.ref 143), some (.int (zI dp)), some (.int (zI fm))], [], es)
                  refine x0 (r := (1, [some (.ref 143), some (.int (zI dp)), some (.int (zI fm))], [.ref 143], es)) i_219_0 rfl ?_
                  refine x_getr (p := 79) (k := 151) i_219_1 hs_es rfl rfl ?_
                  show aW _ _ _ _ _ _ (4, [some (.ref 143), some (.int (zI dp)), some (.int (zI fm))], [.ref 151], es)
                  refine x0 (r := (6, [some (.ref 143), some (.int (zI dp)), some (.int (zI fm))], [.int (zI 36), .ref 151], es)) i_219_4 (by rfl) ?_
                  refine x0 (r := (7, [some (.ref 143), some (.int (zI dp)), some (.int (zI fm))], [.int (zI dp), .int (zI 36), .ref 151], es)) i_219_6 rfl ?_
                  refine x_imul i_219_7 ?_
                  refine x0 (r := (9, [some (.ref 143), some (.int (zI dp)), some (.int (zI fm))], [.int (zI fm), .int (zI (36 * dp)), .ref 151], es)) i_219_8 rfl ?_
                  refine x_iadd i_219_9 ?_
                  refine x_iald (p := 87) i_219_10 hs_es rfl (by unfold i32 iLO iHI; omega) (by omega) (by omega) ?_
                  obtain ⟨v12, e_v12⟩ : ∃ z : Int, z = (gA es 87 ((36 * dp) + fm).toNat).toInt := ⟨_, rfl⟩
                  rw [← e_v12]
                  have r_v12 : iLO ≤ v12 ∧ v12 ≤ iHI := by rw [e_v12]; exact i32_rng _
                  unfold iLO iHI at r_v12
                  refine x_ret (v := some (.int (zI v12))) i_219_11 rfl (fun _ => rfl) rfl rfl rfl ?_
                  show aW _ _ _ _ _ _ (59, [some (.ref 143), some (.int (zI dp)), some (.int (zI fm)), some (.int (zI f)), some (.int (zI r)), some (.int (zI mo)), some (.int (zI em)), some (.int (zI ((6 * ((s / 6) + r)) + ((s % 6) + f)))), some (.int (zI k)), some (.int (zI v7))], [.int (zI v12), .int (zI v11)], es)
                  refine x_call (vs := [.int (zI v12)]) (rs := [.int (zI v11)]) i_222_59 rfl (fun _ => rfl) rfl rfl rfl rfl rfl rfl ?_
                  show aW _ _ _ _ _ _ (0, [some (.int (zI v12))], [], es)
                  refine x0 (r := (1, [some (.int (zI v12))], [.int (zI v12)], es)) i_220_0 rfl ?_
                  refine x0 (r := (2, [some (.int (zI v12))], [.int (zI 1), .int (zI v12)], es)) i_220_1 (by rfl) ?_
                  refine x_op i_220_2 (w := (zI v12 &&& zI 1)) rfl rfl ?_
                  obtain ⟨v13, e_v13⟩ : ∃ z : Int, z = (zI v12 &&& zI 1).toInt := ⟨_, rfl⟩
                  rw [← e_v13]
                  have r_v13 : iLO ≤ v13 ∧ v13 ≤ iHI := by rw [e_v13]; exact i32_rng _
                  unfold iLO iHI at r_v13
                  refine x_ret (v := some (.int (zI v13))) i_220_3 rfl (fun _ => rfl) rfl rfl rfl ?_
                  show aW _ _ _ _ _ _ (62, [some (.ref 143), some (.int (zI dp)), some (.int (zI fm)), some (.int (zI f)), some (.int (zI r)), some (.int (zI mo)), some (.int (zI em)), some (.int (zI ((6 * ((s / 6) + r)) + ((s % 6) + f)))), some (.int (zI k)), some (.int (zI v7))], [.int (zI v13), .int (zI v11)], es)
                  by_cases c14 : v11 = v13
                  · refine x_cmpT i_222_62 (by unfold i32 iLO iHI; omega) (by unfold i32 iLO iHI; omega) rfl (by simp only [zC, cR]; omega) ?_
                    refine x0 (r := (75, [some (.ref 143), some (.int (zI dp)), some (.int (zI fm)), some (.int (zI f)), some (.int (zI r)), some (.int (zI mo)), some (.int (zI em)), some (.int (zI ((6 * ((s / 6) + r)) + ((s % 6) + f)))), some (.int (zI k)), some (.int (zI v7))], [.int (zI v7)], es)) i_222_73 rfl ?_
                    refine x_ifF i_222_75 (by unfold i32 iLO iHI; omega) rfl (by simp only [zC, cR]; omega) ?_
                    refine x_ret (v := none) i_222_78 rfl (fun _ => rfl) rfl rfl rfl ?_
                    exact K8 c1 c2 c3 c4 c5 c6 v7 e_v7 c8 c10 v11 e_v11 v12 e_v12 v13 e_v13 c14
                  · refine x_cmpF i_222_62 (by unfold i32 iLO iHI; omega) (by unfold i32 iLO iHI; omega) rfl (by simp only [zC, cR]; omega) ?_
                    refine x0 (r := (66, [some (.ref 143), some (.int (zI dp)), some (.int (zI fm)), some (.int (zI f)), some (.int (zI r)), some (.int (zI mo)), some (.int (zI em)), some (.int (zI ((6 * ((s / 6) + r)) + ((s % 6) + f)))), some (.int (zI k)), some (.int (zI v7))], [.ref 143], es)) i_222_65 rfl ?_
                    refine x0 (r := (67, [some (.ref 143), some (.int (zI dp)), some (.int (zI fm)), some (.int (zI f)), some (.int (zI r)), some (.int (zI mo)), some (.int (zI em)), some (.int (zI ((6 * ((s / 6) + r)) + ((s % 6) + f)))), some (.int (zI k)), some (.int (zI v7))], [.int (zI dp), .ref 143], es)) i_222_66 rfl ?_
                    refine x0 (r := (68, [some (.ref 143), some (.int (zI dp)), some (.int (zI fm)), some (.int (zI f)), some (.int (zI r)), some (.int (zI mo)), some (.int (zI em)), some (.int (zI ((6 * ((s / 6) + r)) + ((s % 6) + f)))), some (.int (zI k)), some (.int (zI v7))], [.int (zI fm), .int (zI dp), .ref 143], es)) i_222_67 rfl ?_
                    refine x0 (r := (70, [some (.ref 143), some (.int (zI dp)), some (.int (zI fm)), some (.int (zI f)), some (.int (zI r)), some (.int (zI mo)), some (.int (zI em)), some (.int (zI ((6 * ((s / 6) + r)) + ((s % 6) + f)))), some (.int (zI k)), some (.int (zI v7))], [.int (zI ((6 * ((s / 6) + r)) + ((s % 6) + f))), .int (zI fm), .int (zI dp), .ref 143], es)) i_222_68 rfl ?_
                    refine x_call (vs := [.ref 143, .int (zI dp), .int (zI fm), .int (zI ((6 * ((s / 6) + r)) + ((s % 6) + f)))]) (rs := []) i_222_70 rfl (fun _ => rfl) rfl rfl rfl rfl rfl (pCall_v (p := 79) hs_es rfl rfl rfl rfl rfl (by decide) rfl rfl rfl rfl rfl) ?_
                    show aW _ _ _ _ _ _ (0, [some (.ref 143), some (.int (zI dp)), some (.int (zI fm)), some (.int (zI ((6 * ((s / 6) + r)) + ((s % 6) + f))))], [], es)
                    refine x0 (r := (1, [some (.ref 143), some (.int (zI dp)), some (.int (zI fm)), some (.int (zI ((6 * ((s / 6) + r)) + ((s % 6) + f))))], [.ref 143], es)) i_224_0 rfl ?_
                    refine x_getr (p := 79) (k := 152) i_224_1 hs_es rfl rfl ?_
                    show aW _ _ _ _ _ _ (4, [some (.ref 143), some (.int (zI dp)), some (.int (zI fm)), some (.int (zI ((6 * ((s / 6) + r)) + ((s % 6) + f))))], [.ref 152], es)
                    refine x0 (r := (7, [some (.ref 143), some (.int (zI dp)), some (.int (zI fm)), some (.int (zI ((6 * ((s / 6) + r)) + ((s % 6) + f))))], [.int (zI 1296), .ref 152], es)) i_224_4 (by rfl) ?_
                    refine x0 (r := (8, [some (.ref 143), some (.int (zI dp)), some (.int (zI fm)), some (.int (zI ((6 * ((s / 6) + r)) + ((s % 6) + f))))], [.int (zI dp), .int (zI 1296), .ref 152], es)) i_224_7 rfl ?_
                    refine x_imul i_224_8 ?_
                    refine x0 (r := (11, [some (.ref 143), some (.int (zI dp)), some (.int (zI fm)), some (.int (zI ((6 * ((s / 6) + r)) + ((s % 6) + f))))], [.int (zI 36), .int (zI (1296 * dp)), .ref 152], es)) i_224_9 (by rfl) ?_
                    refine x0 (r := (12, [some (.ref 143), some (.int (zI dp)), some (.int (zI fm)), some (.int (zI ((6 * ((s / 6) + r)) + ((s % 6) + f))))], [.int (zI fm), .int (zI 36), .int (zI (1296 * dp)), .ref 152], es)) i_224_11 rfl ?_
                    refine x_imul i_224_12 ?_
                    refine x_iadd i_224_13 ?_
                    refine x0 (r := (15, [some (.ref 143), some (.int (zI dp)), some (.int (zI fm)), some (.int (zI ((6 * ((s / 6) + r)) + ((s % 6) + f))))], [.int (zI ((6 * ((s / 6) + r)) + ((s % 6) + f))), .int (zI ((1296 * dp) + (36 * fm))), .ref 152], es)) i_224_14 rfl ?_
                    refine x_iadd i_224_15 ?_
                    refine x0 (r := (17, [some (.ref 143), some (.int (zI dp)), some (.int (zI fm)), some (.int (zI ((6 * ((s / 6) + r)) + ((s % 6) + f))))], [.int (zI 1), .int (zI (((1296 * dp) + (36 * fm)) + ((6 * ((s / 6) + r)) + ((s % 6) + f)))), .ref 152], es)) i_224_16 (by rfl) ?_
                    refine x_bast3 (p := 88) i_224_17 hs_es rfl (by unfold i32 iLO iHI; omega) (by omega) (by omega) (by omega) ?_
                    obtain ⟨es15, e_es15⟩ : ∃ z : PH, z = sA es 88 (((1296 * dp) + (36 * fm)) + ((6 * ((s / 6) + r)) + ((s % 6) + f))).toNat (zI 1) := ⟨_, rfl⟩
                    have hs_es15 : sh es15 := by rw [e_es15]; exact sh_sA hs_es
                    rw [← e_es15]
                    refine x_ret (v := none) i_224_18 rfl (fun _ => rfl) rfl rfl rfl ?_
                    show aW _ _ _ _ _ _ (73, [some (.ref 143), some (.int (zI dp)), some (.int (zI fm)), some (.int (zI f)), some (.int (zI r)), some (.int (zI mo)), some (.int (zI em)), some (.int (zI ((6 * ((s / 6) + r)) + ((s % 6) + f)))), some (.int (zI k)), some (.int (zI v7))], [], es15)
                    refine x0 (r := (75, [some (.ref 143), some (.int (zI dp)), some (.int (zI fm)), some (.int (zI f)), some (.int (zI r)), some (.int (zI mo)), some (.int (zI em)), some (.int (zI ((6 * ((s / 6) + r)) + ((s % 6) + f)))), some (.int (zI k)), some (.int (zI v7))], [.int (zI v7)], es15)) i_222_73 rfl ?_
                    refine x_ifF i_222_75 (by unfold i32 iLO iHI; omega) rfl (by simp only [zC, cR]; omega) ?_
                    refine x_ret (v := none) i_222_78 rfl (fun _ => rfl) rfl rfl rfl ?_
                    exact K9 c1 c2 c3 c4 c5 c6 v7 e_v7 c8 c10 v11 e_v11 v12 e_v12 v13 e_v13 c14 es15 e_es15
            · refine x_ifF i_222_25 (by unfold i32 iLO iHI; omega) rfl (by simp only [zC, cR]; omega) ?_
              refine x_ret (v := none) i_222_28 rfl (fun _ => rfl) rfl rfl rfl ?_
              exact K10 c1 c2 c3 c4 c5 c6
