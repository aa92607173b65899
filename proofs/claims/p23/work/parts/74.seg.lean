/-! SEGMENTS of methods by hand, printed by wip/ai2/hand2.py -/
theorem i_169_0 : iRow 169 0 = some (.aload_n 0, 0, 0, 0, none) := rfl
theorem i_169_1 : iRow 169 1 = some (.iconst 0, 0, 0, 0, none) := rfl
theorem i_169_2 : iRow 169 2 = some (.putfield 3, 164, 12, 0, none) := rfl
theorem i_169_5 : iRow 169 5 = some (.iconst 0, 0, 0, 0, none) := rfl
theorem i_169_6 : iRow 169 6 = some (.istore_n 1, 0, 0, 0, none) := rfl
theorem i_169_7 : iRow 169 7 = some (.iload_n 1, 0, 0, 0, none) := rfl
theorem i_169_8 : iRow 169 8 = some (.sipush 1284, 0, 0, 0, none) := rfl
theorem i_169_11 : iRow 169 11 = some (.if_icmp .ge 21, 0, 0, 0, none) := rfl
theorem i_169_14 : iRow 169 14 = some (.aload_n 0, 0, 0, 0, none) := rfl
theorem i_169_15 : iRow 169 15 = some (.getfield 17, 166, 12, 2, none) := rfl
theorem i_169_18 : iRow 169 18 = some (.iload_n 1, 0, 0, 0, none) := rfl
theorem i_169_19 : iRow 169 19 = some (.aload_n 0, 0, 0, 0, none) := rfl
theorem i_169_20 : iRow 169 20 = some (.getfield 13, 165, 12, 1, none) := rfl
theorem i_169_23 : iRow 169 23 = some (.iload_n 1, 0, 0, 0, none) := rfl
theorem i_169_24 : iRow 169 24 = some (.iaload, 0, 0, 0, none) := rfl
theorem i_169_25 : iRow 169 25 = some (.iastore, 0, 0, 0, none) := rfl
theorem i_169_26 : iRow 169 26 = some (.iinc 1 1, 0, 0, 0, none) := rfl
theorem i_169_29 : iRow 169 29 = some (.goto (-22), 0, 0, 0, none) := rfl
theorem i_169_32 : iRow 169 32 = some (.aload_n 0, 0, 0, 0, none) := rfl
theorem i_169_33 : iRow 169 33 = some (.iconst 1, 0, 0, 0, none) := rfl
theorem i_169_34 : iRow 169 34 = some (.putfield 102, 167, 12, 3, none) := rfl
theorem i_169_37 : iRow 169 37 = some (.return_, 0, 0, 0, none) := rfl
theorem i_170_0 : iRow 170 0 = some (.aload_n 0, 0, 0, 0, (some (Jvm.ClassFile.FieldType.boolean))) := rfl
theorem i_170_1 : iRow 170 1 = some (.iconst 0, 0, 0, 0, (some (Jvm.ClassFile.FieldType.boolean))) := rfl
theorem i_170_2 : iRow 170 2 = some (.putfield 3, 164, 12, 0, (some (Jvm.ClassFile.FieldType.boolean))) := rfl
theorem i_170_5 : iRow 170 5 = some (.aload_n 0, 0, 0, 0, (some (Jvm.ClassFile.FieldType.boolean))) := rfl
theorem i_170_6 : iRow 170 6 = some (.getfield 102, 167, 12, 3, (some (Jvm.ClassFile.FieldType.boolean))) := rfl
theorem i_170_9 : iRow 170 9 = some (.ifCond .ne 5, 0, 0, 0, (some (Jvm.ClassFile.FieldType.boolean))) := rfl
theorem i_170_12 : iRow 170 12 = some (.iconst 0, 0, 0, 0, (some (Jvm.ClassFile.FieldType.boolean))) := rfl
theorem i_170_13 : iRow 170 13 = some (.ireturn, 0, 0, 0, (some (Jvm.ClassFile.FieldType.boolean))) := rfl
theorem i_170_14 : iRow 170 14 = some (.iconst 0, 0, 0, 0, (some (Jvm.ClassFile.FieldType.boolean))) := rfl
theorem i_170_15 : iRow 170 15 = some (.istore_n 1, 0, 0, 0, (some (Jvm.ClassFile.FieldType.boolean))) := rfl
theorem i_170_16 : iRow 170 16 = some (.iload_n 1, 0, 0, 0, (some (Jvm.ClassFile.FieldType.boolean))) := rfl
theorem i_170_17 : iRow 170 17 = some (.sipush 1284, 0, 0, 0, (some (Jvm.ClassFile.FieldType.boolean))) := rfl
theorem i_170_20 : iRow 170 20 = some (.if_icmp .ge 21, 0, 0, 0, (some (Jvm.ClassFile.FieldType.boolean))) := rfl
theorem i_170_23 : iRow 170 23 = some (.aload_n 0, 0, 0, 0, (some (Jvm.ClassFile.FieldType.boolean))) := rfl
theorem i_170_24 : iRow 170 24 = some (.getfield 13, 165, 12, 1, (some (Jvm.ClassFile.FieldType.boolean))) := rfl
theorem i_170_27 : iRow 170 27 = some (.iload_n 1, 0, 0, 0, (some (Jvm.ClassFile.FieldType.boolean))) := rfl
theorem i_170_28 : iRow 170 28 = some (.aload_n 0, 0, 0, 0, (some (Jvm.ClassFile.FieldType.boolean))) := rfl
theorem i_170_29 : iRow 170 29 = some (.getfield 17, 166, 12, 2, (some (Jvm.ClassFile.FieldType.boolean))) := rfl
theorem i_170_32 : iRow 170 32 = some (.iload_n 1, 0, 0, 0, (some (Jvm.ClassFile.FieldType.boolean))) := rfl
theorem i_170_33 : iRow 170 33 = some (.iaload, 0, 0, 0, (some (Jvm.ClassFile.FieldType.boolean))) := rfl
theorem i_170_34 : iRow 170 34 = some (.iastore, 0, 0, 0, (some (Jvm.ClassFile.FieldType.boolean))) := rfl
theorem i_170_35 : iRow 170 35 = some (.iinc 1 1, 0, 0, 0, (some (Jvm.ClassFile.FieldType.boolean))) := rfl
theorem i_170_38 : iRow 170 38 = some (.goto (-22), 0, 0, 0, (some (Jvm.ClassFile.FieldType.boolean))) := rfl
theorem i_170_41 : iRow 170 41 = some (.iconst 1, 0, 0, 0, (some (Jvm.ClassFile.FieldType.boolean))) := rfl
theorem i_170_42 : iRow 170 42 = some (.ireturn, 0, 0, 0, (some (Jvm.ClassFile.FieldType.boolean))) := rfl
theorem i_194_0 : iRow 194 0 = some (.iload_n 1, 0, 0, 0, (some (Jvm.ClassFile.FieldType.boolean))) := rfl
theorem i_194_1 : iRow 194 1 = some (.ifCond .eq 8, 0, 0, 0, (some (Jvm.ClassFile.FieldType.boolean))) := rfl
theorem i_194_4 : iRow 194 4 = some (.aload_n 0, 0, 0, 0, (some (Jvm.ClassFile.FieldType.boolean))) := rfl
theorem i_194_5 : iRow 194 5 = some (.iload_n 2, 0, 0, 0, (some (Jvm.ClassFile.FieldType.boolean))) := rfl
theorem i_194_6 : iRow 194 6 = some (.putfield 3, 164, 12, 0, (some (Jvm.ClassFile.FieldType.boolean))) := rfl
theorem i_194_9 : iRow 194 9 = some (.iload_n 1, 0, 0, 0, (some (Jvm.ClassFile.FieldType.boolean))) := rfl
theorem i_194_10 : iRow 194 10 = some (.ireturn, 0, 0, 0, (some (Jvm.ClassFile.FieldType.boolean))) := rfl
theorem i_196_0 : iRow 196 0 = some (.aload_n 0, 0, 0, 0, none) := rfl
theorem i_196_1 : iRow 196 1 = some (.iconst 0, 0, 0, 0, none) := rfl
theorem i_196_2 : iRow 196 2 = some (.putfield 3, 164, 12, 0, none) := rfl
theorem i_196_5 : iRow 196 5 = some (.aload_n 0, 0, 0, 0, none) := rfl
theorem i_196_6 : iRow 196 6 = some (.iload_n 1, 0, 0, 0, none) := rfl
theorem i_196_7 : iRow 196 7 = some (.invokestatic 242, 286, 197, 0, none) := rfl
theorem i_196_10 : iRow 196 10 = some (.ifCond .ne 16, 0, 0, 0, none) := rfl
theorem i_196_13 : iRow 196 13 = some (.iload_n 2, 0, 0, 0, none) := rfl
theorem i_196_14 : iRow 196 14 = some (.iconst (-1), 0, 0, 0, none) := rfl
theorem i_196_15 : iRow 196 15 = some (.if_icmp .eq 15, 0, 0, 0, none) := rfl
theorem i_196_18 : iRow 196 18 = some (.aload_n 0, 0, 0, 0, none) := rfl
theorem i_196_19 : iRow 196 19 = some (.iload_n 2, 0, 0, 0, none) := rfl
theorem i_196_20 : iRow 196 20 = some (.invokevirtual 245, 287, 198, 1, none) := rfl
theorem i_196_23 : iRow 196 23 = some (.ifCond .eq 7, 0, 0, 0, none) := rfl
theorem i_196_26 : iRow 196 26 = some (.iconst 1, 0, 0, 0, none) := rfl
theorem i_196_27 : iRow 196 27 = some (.goto 4, 0, 0, 0, none) := rfl
theorem i_196_30 : iRow 196 30 = some (.iconst 0, 0, 0, 0, none) := rfl
theorem i_196_31 : iRow 196 31 = some (.iconst 1, 0, 0, 0, none) := rfl
theorem i_196_32 : iRow 196 32 = some (.invokevirtual 235, 283, 194, 1, none) := rfl
theorem i_196_35 : iRow 196 35 = some (.ifCond .ne 30, 0, 0, 0, none) := rfl
theorem i_196_38 : iRow 196 38 = some (.aload_n 0, 0, 0, 0, none) := rfl
theorem i_196_39 : iRow 196 39 = some (.iload_n 2, 0, 0, 0, none) := rfl
theorem i_196_40 : iRow 196 40 = some (.iconst (-1), 0, 0, 0, none) := rfl
theorem i_196_41 : iRow 196 41 = some (.if_icmp .eq 16, 0, 0, 0, none) := rfl
theorem i_196_44 : iRow 196 44 = some (.iload_n 3, 0, 0, 0, none) := rfl
theorem i_196_45 : iRow 196 45 = some (.iconst 0, 0, 0, 0, none) := rfl
theorem i_196_46 : iRow 196 46 = some (.iconst 1, 0, 0, 0, none) := rfl
theorem i_196_47 : iRow 196 47 = some (.invokestatic 106, 282, 193, 0, none) := rfl
theorem i_196_50 : iRow 196 50 = some (.ifCond .ne 7, 0, 0, 0, none) := rfl
theorem i_196_53 : iRow 196 53 = some (.iconst 1, 0, 0, 0, none) := rfl
theorem i_196_54 : iRow 196 54 = some (.goto 4, 0, 0, 0, none) := rfl
theorem i_196_57 : iRow 196 57 = some (.iconst 0, 0, 0, 0, none) := rfl
theorem i_196_58 : iRow 196 58 = some (.iconst 2, 0, 0, 0, none) := rfl
theorem i_196_59 : iRow 196 59 = some (.invokevirtual 235, 283, 194, 1, none) := rfl
theorem i_196_62 : iRow 196 62 = some (.ifCond .eq 4, 0, 0, 0, none) := rfl
theorem i_196_65 : iRow 196 65 = some (.return_, 0, 0, 0, none) := rfl
theorem i_196_66 : iRow 196 66 = some (.aload_n 0, 0, 0, 0, none) := rfl
theorem i_196_67 : iRow 196 67 = some (.getfield 13, 165, 12, 1, none) := rfl
theorem i_196_70 : iRow 196 70 = some (.bipush 13, 0, 0, 0, none) := rfl
theorem i_196_72 : iRow 196 72 = some (.iload_n 1, 0, 0, 0, none) := rfl
theorem i_196_73 : iRow 196 73 = some (.iadd, 0, 0, 0, none) := rfl
theorem i_196_74 : iRow 196 74 = some (.iload_n 2, 0, 0, 0, none) := rfl
theorem i_196_75 : iRow 196 75 = some (.iload_n 3, 0, 0, 0, none) := rfl
theorem i_196_76 : iRow 196 76 = some (.invokestatic 248, 289, 200, 0, none) := rfl
theorem i_196_79 : iRow 196 79 = some (.iastore, 0, 0, 0, none) := rfl
theorem i_196_80 : iRow 196 80 = some (.return_, 0, 0, 0, none) := rfl
theorem i_197_0 : iRow 197 0 = some (.iload_n 0, 0, 0, 0, (some (Jvm.ClassFile.FieldType.boolean))) := rfl
theorem i_197_1 : iRow 197 1 = some (.iconst 0, 0, 0, 0, (some (Jvm.ClassFile.FieldType.boolean))) := rfl
theorem i_197_2 : iRow 197 2 = some (.bipush 35, 0, 0, 0, (some (Jvm.ClassFile.FieldType.boolean))) := rfl
theorem i_197_4 : iRow 197 4 = some (.invokestatic 106, 282, 193, 0, (some (Jvm.ClassFile.FieldType.boolean))) := rfl
theorem i_197_7 : iRow 197 7 = some (.ifCond .ne 7, 0, 0, 0, (some (Jvm.ClassFile.FieldType.boolean))) := rfl
theorem i_197_10 : iRow 197 10 = some (.iconst 1, 0, 0, 0, (some (Jvm.ClassFile.FieldType.boolean))) := rfl
theorem i_197_11 : iRow 197 11 = some (.goto 4, 0, 0, 0, (some (Jvm.ClassFile.FieldType.boolean))) := rfl
theorem i_197_14 : iRow 197 14 = some (.iconst 0, 0, 0, 0, (some (Jvm.ClassFile.FieldType.boolean))) := rfl
theorem i_197_15 : iRow 197 15 = some (.ireturn, 0, 0, 0, (some (Jvm.ClassFile.FieldType.boolean))) := rfl
theorem i_198_0 : iRow 198 0 = some (.aload_n 0, 0, 0, 0, (some (Jvm.ClassFile.FieldType.boolean))) := rfl
theorem i_198_1 : iRow 198 1 = some (.iload_n 1, 0, 0, 0, (some (Jvm.ClassFile.FieldType.boolean))) := rfl
theorem i_198_2 : iRow 198 2 = some (.iconst 0, 0, 0, 0, (some (Jvm.ClassFile.FieldType.boolean))) := rfl
theorem i_198_3 : iRow 198 3 = some (.invokevirtual 110, 288, 199, 1, (some (Jvm.ClassFile.FieldType.boolean))) := rfl
theorem i_198_6 : iRow 198 6 = some (.ireturn, 0, 0, 0, (some (Jvm.ClassFile.FieldType.boolean))) := rfl
theorem i_199_0 : iRow 199 0 = some (.iload_n 1, 0, 0, 0, (some (Jvm.ClassFile.FieldType.boolean))) := rfl
theorem i_199_1 : iRow 199 1 = some (.iconst 0, 0, 0, 0, (some (Jvm.ClassFile.FieldType.boolean))) := rfl
theorem i_199_2 : iRow 199 2 = some (.aload_n 0, 0, 0, 0, (some (Jvm.ClassFile.FieldType.boolean))) := rfl
theorem i_199_3 : iRow 199 3 = some (.getfield 13, 165, 12, 1, (some (Jvm.ClassFile.FieldType.boolean))) := rfl
theorem i_199_6 : iRow 199 6 = some (.iload_n 2, 0, 0, 0, (some (Jvm.ClassFile.FieldType.boolean))) := rfl
theorem i_199_7 : iRow 199 7 = some (.iaload, 0, 0, 0, (some (Jvm.ClassFile.FieldType.boolean))) := rfl
theorem i_199_8 : iRow 199 8 = some (.iconst 1, 0, 0, 0, (some (Jvm.ClassFile.FieldType.boolean))) := rfl
theorem i_199_9 : iRow 199 9 = some (.isub, 0, 0, 0, (some (Jvm.ClassFile.FieldType.boolean))) := rfl
theorem i_199_10 : iRow 199 10 = some (.invokestatic 106, 282, 193, 0, (some (Jvm.ClassFile.FieldType.boolean))) := rfl
theorem i_199_13 : iRow 199 13 = some (.ifCond .ne 7, 0, 0, 0, (some (Jvm.ClassFile.FieldType.boolean))) := rfl
theorem i_199_16 : iRow 199 16 = some (.iconst 1, 0, 0, 0, (some (Jvm.ClassFile.FieldType.boolean))) := rfl
theorem i_199_17 : iRow 199 17 = some (.goto 4, 0, 0, 0, (some (Jvm.ClassFile.FieldType.boolean))) := rfl
theorem i_199_20 : iRow 199 20 = some (.iconst 0, 0, 0, 0, (some (Jvm.ClassFile.FieldType.boolean))) := rfl
theorem i_199_21 : iRow 199 21 = some (.ireturn, 0, 0, 0, (some (Jvm.ClassFile.FieldType.boolean))) := rfl
theorem i_200_0 : iRow 200 0 = some (.iload_n 0, 0, 0, 0, (some (Jvm.ClassFile.FieldType.int))) := rfl
theorem i_200_1 : iRow 200 1 = some (.ifCond .ge 7, 0, 0, 0, (some (Jvm.ClassFile.FieldType.int))) := rfl
theorem i_200_4 : iRow 200 4 = some (.iconst (-1), 0, 0, 0, (some (Jvm.ClassFile.FieldType.int))) := rfl
theorem i_200_5 : iRow 200 5 = some (.goto 8, 0, 0, 0, (some (Jvm.ClassFile.FieldType.int))) := rfl
theorem i_200_8 : iRow 200 8 = some (.iconst 2, 0, 0, 0, (some (Jvm.ClassFile.FieldType.int))) := rfl
theorem i_200_9 : iRow 200 9 = some (.iload_n 0, 0, 0, 0, (some (Jvm.ClassFile.FieldType.int))) := rfl
theorem i_200_10 : iRow 200 10 = some (.imul, 0, 0, 0, (some (Jvm.ClassFile.FieldType.int))) := rfl
theorem i_200_11 : iRow 200 11 = some (.iload_n 1, 0, 0, 0, (some (Jvm.ClassFile.FieldType.int))) := rfl
theorem i_200_12 : iRow 200 12 = some (.iadd, 0, 0, 0, (some (Jvm.ClassFile.FieldType.int))) := rfl
theorem i_200_13 : iRow 200 13 = some (.ireturn, 0, 0, 0, (some (Jvm.ClassFile.FieldType.int))) := rfl
theorem s_image0 {O : pOut} {d kc ks : Nat} {Q : pRes → Prop} {es : PH} (hs_es : sh es)
    (K1 : ∀ es1 : PH, es1 = sI es 79 0 (.int (zI 0)) → aW O d 169 kc ks Q (7, [some (.ref 143), some (.int (zI 0))], [], es1)) :
    aW O d 169 kc ks Q (0, [some (.ref 143), none], [], es) := by
  refine x0 (r := (1, [some (.ref 143), none], [.ref 143], es)) i_169_0 rfl ?_
  refine x0 (r := (2, [some (.ref 143), none], [.int (zI 0), .ref 143], es)) i_169_1 (by rfl) ?_
  refine x_puti (p := 79) (ty := .int) i_169_2 hs_es rfl rfl rfl (Or.inl rfl) ?_
  obtain ⟨es1, e_es1⟩ : ∃ z : PH, z = sI es 79 0 (.int (zI 0)) := ⟨_, rfl⟩
  have hs_es1 : sh es1 := by rw [e_es1]; exact sh_sI hs_es (p := 79) (b := 0) rfl rfl
  rw [← e_es1]
  refine x0 (r := (6, [some (.ref 143), none], [.int (zI 0)], es1)) i_169_5 (by rfl) ?_
  refine x0 (r := (7, [some (.ref 143), some (.int (zI 0))], [], es1)) i_169_6 rfl ?_
  exact K1 es1 e_es1

theorem s_image7 {O : pOut} {d kc ks : Nat} {Q : pRes → Prop} {es : PH} {k : Int} (hs_es : sh es) (h1 : 0 ≤ k ∧ k ≤ 1284)
    (K1 : 1284 ≤ k → ∀ es2 : PH, es2 = sI es 79 3 (.int (zI 1)) → Q (.inl (none), es2, kc, ks))
    (K2 : ¬ (1284 ≤ k) → ∀ v3 : Int, v3 = (gA es 80 k.toNat).toInt → ∀ es4 : PH, es4 = sA es 81 k.toNat (zI v3) → aW O d 169 kc ks Q (7, [some (.ref 143), some (.int (zI (k + 1)))], [], es4)) :
    aW O d 169 kc ks Q (7, [some (.ref 143), some (.int (zI k))], [], es) := by
  refine x0 (r := (8, [some (.ref 143), some (.int (zI k))], [.int (zI k)], es)) i_169_7 rfl ?_
  refine x0 (r := (11, [some (.ref 143), some (.int (zI k))], [.int (zI 1284), .int (zI k)], es)) i_169_8 (by rfl) ?_
  by_cases c1 : 1284 ≤ k
  · refine x_cmpT i_169_11 (by unfold i32 iLO iHI; omega) (by unfold i32 iLO iHI; omega) rfl (by simp only [zC, cR]; omega) ?_
    refine x0 (r := (33, [some (.ref 143), some (.int (zI k))], [.ref 143], es)) i_169_32 rfl ?_
    refine x0 (r := (34, [some (.ref 143), some (.int (zI k))], [.int (zI 1), .ref 143], es)) i_169_33 (by rfl) ?_
    refine x_puti (p := 79) (ty := .boolean) i_169_34 hs_es rfl rfl rfl (Or.inr ⟨rfl, by omega⟩) ?_
    obtain ⟨es2, e_es2⟩ : ∃ z : PH, z = sI es 79 3 (.int (zI 1)) := ⟨_, rfl⟩
    have hs_es2 : sh es2 := by rw [e_es2]; exact sh_sI hs_es (p := 79) (b := 3) rfl rfl
    rw [← e_es2]
    refine x_ret (v := none) i_169_37 rfl (fun _ => rfl) rfl rfl rfl ?_
    exact K1 c1 es2 e_es2
  · refine x_cmpF i_169_11 (by unfold i32 iLO iHI; omega) (by unfold i32 iLO iHI; omega) rfl (by simp only [zC, cR]; omega) ?_
    refine x0 (r := (15, [some (.ref 143), some (.int (zI k))], [.ref 143], es)) i_169_14 rfl ?_
    refine x_getr (p := 79) (k := 145) i_169_15 hs_es rfl rfl ?_
    show aW _ _ _ _ _ _ (18, [some (.ref 143), some (.int (zI k))], [.ref 145], es)
    refine x0 (r := (19, [some (.ref 143), some (.int (zI k))], [.int (zI k), .ref 145], es)) i_169_18 rfl ?_
    refine x0 (r := (20, [some (.ref 143), some (.int (zI k))], [.ref 143, .int (zI k), .ref 145], es)) i_169_19 rfl ?_
    refine x_getr (p := 79) (k := 144) i_169_20 hs_es rfl rfl ?_
    show aW _ _ _ _ _ _ (23, [some (.ref 143), some (.int (zI k))], [.ref 144, .int (zI k), .ref 145], es)
    refine x0 (r := (24, [some (.ref 143), some (.int (zI k))], [.int (zI k), .ref 144, .int (zI k), .ref 145], es)) i_169_23 rfl ?_
    refine x_iald (p := 80) i_169_24 hs_es rfl (by unfold i32 iLO iHI; omega) (by omega) (by omega) ?_
    obtain ⟨v3, e_v3⟩ : ∃ z : Int, z = (gA es 80 k.toNat).toInt := ⟨_, rfl⟩
    rw [← e_v3]
    have r_v3 : iLO ≤ v3 ∧ v3 ≤ iHI := by rw [e_v3]; exact i32_rng _
    unfold iLO iHI at r_v3
    refine x_iast (p := 81) i_169_25 hs_es rfl (by unfold i32 iLO iHI; omega) (by omega) (by omega) ?_
    obtain ⟨es4, e_es4⟩ : ∃ z : PH, z = sA es 81 k.toNat (zI v3) := ⟨_, rfl⟩
    have hs_es4 : sh es4 := by rw [e_es4]; exact sh_sA hs_es
    rw [← e_es4]
    refine x_iinc (x := k) i_169_26 rfl (by show 1 < 2; decide) ?_
    show aW _ _ _ _ _ _ (29, [some (.ref 143), some (.int (zI (k + 1)))], [], es4)
    refine x0 (r := (7, [some (.ref 143), some (.int (zI (k + 1)))], [], es4)) i_169_29 rfl ?_
    exact K2 c1 v3 e_v3 es4 e_es4

theorem s_back0 {O : pOut} {d kc ks : Nat} {Q : pRes → Prop} {es : PH} (hs_es : sh es)
    (K1 : ∀ es1 : PH, es1 = sI es 79 0 (.int (zI 0)) → ∀ v2 : Int, v2 = (gI es1 79 3).toInt → v2 ≠ 0 → aW O d 170 kc ks Q (16, [some (.ref 143), some (.int (zI 0))], [], es1))
    (K2 : ∀ es1 : PH, es1 = sI es 79 0 (.int (zI 0)) → ∀ v2 : Int, v2 = (gI es1 79 3).toInt → ¬ (v2 ≠ 0) → Q (.inl (some (.int (zI 0))), es1, kc, ks)) :
    aW O d 170 kc ks Q (0, [some (.ref 143), none], [], es) := by
  refine x0 (r := (1, [some (.ref 143), none], [.ref 143], es)) i_170_0 rfl ?_
  refine x0 (r := (2, [some (.ref 143), none], [.int (zI 0), .ref 143], es)) i_170_1 (by rfl) ?_
  refine x_puti (p := 79) (ty := .int) i_170_2 hs_es rfl rfl rfl (Or.inl rfl) ?_
  obtain ⟨es1, e_es1⟩ : ∃ z : PH, z = sI es 79 0 (.int (zI 0)) := ⟨_, rfl⟩
  have hs_es1 : sh es1 := by rw [e_es1]; exact sh_sI hs_es (p := 79) (b := 0) rfl rfl
  rw [← e_es1]
  refine x0 (r := (6, [some (.ref 143), none], [.ref 143], es1)) i_170_5 rfl ?_
  refine x_geti (p := 79) i_170_6 hs_es1 rfl rfl ?_
  obtain ⟨v2, e_v2⟩ : ∃ z : Int, z = (gI es1 79 3).toInt := ⟨_, rfl⟩
  rw [← e_v2]
  have r_v2 : iLO ≤ v2 ∧ v2 ≤ iHI := by rw [e_v2]; exact i32_rng _
  unfold iLO iHI at r_v2
  by_cases c3 : v2 ≠ 0
  · refine x_ifT i_170_9 (by unfold i32 iLO iHI; omega) rfl (by simp only [zC, cR]; omega) ?_
    refine x0 (r := (15, [some (.ref 143), none], [.int (zI 0)], es1)) i_170_14 (by rfl) ?_
    refine x0 (r := (16, [some (.ref 143), some (.int (zI 0))], [], es1)) i_170_15 rfl ?_
    exact K1 es1 e_es1 v2 e_v2 c3
  · refine x_ifF i_170_9 (by unfold i32 iLO iHI; omega) rfl (by simp only [zC, cR]; omega) ?_
    refine x0 (r := (13, [some (.ref 143), none], [.int (zI 0)], es1)) i_170_12 (by rfl) ?_
    refine x_ret (v := some (.int (zI 0))) i_170_13 rfl (fun _ => rfl) rfl rfl (pFin_b (by omega)) ?_
    exact K2 es1 e_es1 v2 e_v2 c3

theorem s_back16 {O : pOut} {d kc ks : Nat} {Q : pRes → Prop} {es : PH} {k : Int} (hs_es : sh es) (h1 : 0 ≤ k ∧ k ≤ 1284)
    (K1 : 1284 ≤ k → Q (.inl (some (.int (zI 1))), es, kc, ks))
    (K2 : ¬ (1284 ≤ k) → ∀ v2 : Int, v2 = (gA es 81 k.toNat).toInt → ∀ es3 : PH, es3 = sA es 80 k.toNat (zI v2) → aW O d 170 kc ks Q (16, [some (.ref 143), some (.int (zI (k + 1)))], [], es3)) :
    aW O d 170 kc ks Q (16, [some (.ref 143), some (.int (zI k))], [], es) := by
  refine x0 (r := (17, [some (.ref 143), some (.int (zI k))], [.int (zI k)], es)) i_170_16 rfl ?_
  refine x0 (r := (20, [some (.ref 143), some (.int (zI k))], [.int (zI 1284), .int (zI k)], es)) i_170_17 (by rfl) ?_
  by_cases c1 : 1284 ≤ k
  · refine x_cmpT i_170_20 (by unfold i32 iLO iHI; omega) (by unfold i32 iLO iHI; omega) rfl (by simp only [zC, cR]; omega) ?_
    refine x0 (r := (42, [some (.ref 143), some (.int (zI k))], [.int (zI 1)], es)) i_170_41 (by rfl) ?_
    refine x_ret (v := some (.int (zI 1))) i_170_42 rfl (fun _ => rfl) rfl rfl (pFin_b (by omega)) ?_
    exact K1 c1
  · refine x_cmpF i_170_20 (by unfold i32 iLO iHI; omega) (by unfold i32 iLO iHI; omega) rfl (by simp only [zC, cR]; omega) ?_
    refine x0 (r := (24, [some (.ref 143), some (.int (zI k))], [.ref 143], es)) i_170_23 rfl ?_
    refine x_getr (p := 79) (k := 144) i_170_24 hs_es rfl rfl ?_
    show aW _ _ _ _ _ _ (27, [some (.ref 143), some (.int (zI k))], [.ref 144], es)
    refine x0 (r := (28, [some (.ref 143), some (.int (zI k))], [.int (zI k), .ref 144], es)) i_170_27 rfl ?_
    refine x0 (r := (29, [some (.ref 143), some (.int (zI k))], [.ref 143, .int (zI k), .ref 144], es)) i_170_28 rfl ?_
    refine x_getr (p := 79) (k := 145) i_170_29 hs_es rfl rfl ?_
    show aW _ _ _ _ _ _ (32, [some (.ref 143), some (.int (zI k))], [.ref 145, .int (zI k), .ref 144], es)
    refine x0 (r := (33, [some (.ref 143), some (.int (zI k))], [.int (zI k), .ref 145, .int (zI k), .ref 144], es)) i_170_32 rfl ?_
    refine x_iald (p := 81) i_170_33 hs_es rfl (by unfold i32 iLO iHI; omega) (by omega) (by omega) ?_
    obtain ⟨v2, e_v2⟩ : ∃ z : Int, z = (gA es 81 k.toNat).toInt := ⟨_, rfl⟩
    rw [← e_v2]
    have r_v2 : iLO ≤ v2 ∧ v2 ≤ iHI := by rw [e_v2]; exact i32_rng _
    unfold iLO iHI at r_v2
    refine x_iast (p := 80) i_170_34 hs_es rfl (by unfold i32 iLO iHI; omega) (by omega) (by omega) ?_
    obtain ⟨es3, e_es3⟩ : ∃ z : PH, z = sA es 80 k.toNat (zI v2) := ⟨_, rfl⟩
    have hs_es3 : sh es3 := by rw [e_es3]; exact sh_sA hs_es
    rw [← e_es3]
    refine x_iinc (x := k) i_170_35 rfl (by show 1 < 2; decide) ?_
    show aW _ _ _ _ _ _ (38, [some (.ref 143), some (.int (zI (k + 1)))], [], es3)
    refine x0 (r := (16, [some (.ref 143), some (.int (zI (k + 1)))], [], es3)) i_170_38 rfl ?_
    exact K2 c1 v2 e_v2 es3 e_es3

theorem s_put {O : pOut} {d kc ks : Nat} {Q : pRes → Prop} {es : PH} {sq kd sd : Int} (hs_es : sh es) (h0 : -2147483648 ≤ sq ∧ sq ≤ 2147483647) (h1 : -2147483648 ≤ kd ∧ kd ≤ 2147483647) (h2 : -2147483648 ≤ sd ∧ sd ≤ 2147483647) (hT_es : hOK tT es)
    (K1 : ∀ es1 : PH, es1 = sI es 79 0 (.int (zI 0)) → sq < 0 → ∀ es3 : PH, es3 = sI es1 79 0 (.int (zI 1)) → Q (.inl (none), es3, kc, ks))
    (K2 : ∀ es1 : PH, es1 = sI es 79 0 (.int (zI 0)) → ¬ (sq < 0) → 35 < sq → ∀ es5 : PH, es5 = sI es1 79 0 (.int (zI 1)) → Q (.inl (none), es5, kc, ks))
    (K3 : ∀ es1 : PH, es1 = sI es 79 0 (.int (zI 0)) → ¬ (sq < 0) → ¬ (35 < sq) → kd = (-1) → ∀ es7 : PH, es7 = sA es1 80 (13 + sq).toNat (zI (-1)) → Q (.inl (none), es7, kc, ks))
    (K4 : ∀ es1 : PH, es1 = sI es 79 0 (.int (zI 0)) → ¬ (sq < 0) → ¬ (35 < sq) → ¬ (kd = (-1)) → ∀ v8 : Int, v8 = (gA es1 80 (Int.toNat 0)).toInt → kd < 0 → ∀ es10 : PH, es10 = sI es1 79 0 (.int (zI 1)) → Q (.inl (none), es10, kc, ks))
    (K5 : ∀ es1 : PH, es1 = sI es 79 0 (.int (zI 0)) → ¬ (sq < 0) → ¬ (35 < sq) → ¬ (kd = (-1)) → ∀ v8 : Int, v8 = (gA es1 80 (Int.toNat 0)).toInt → ¬ (kd < 0) → (v8 - 1) < kd → ∀ es12 : PH, es12 = sI es1 79 0 (.int (zI 1)) → Q (.inl (none), es12, kc, ks))
    (K6 : ∀ es1 : PH, es1 = sI es 79 0 (.int (zI 0)) → ¬ (sq < 0) → ¬ (35 < sq) → ¬ (kd = (-1)) → ∀ v8 : Int, v8 = (gA es1 80 (Int.toNat 0)).toInt → ¬ (kd < 0) → ¬ ((v8 - 1) < kd) → sd < 0 → ∀ es14 : PH, es14 = sI es1 79 0 (.int (zI 2)) → Q (.inl (none), es14, kc, ks))
    (K7 : ∀ es1 : PH, es1 = sI es 79 0 (.int (zI 0)) → ¬ (sq < 0) → ¬ (35 < sq) → ¬ (kd = (-1)) → ∀ v8 : Int, v8 = (gA es1 80 (Int.toNat 0)).toInt → ¬ (kd < 0) → ¬ ((v8 - 1) < kd) → ¬ (sd < 0) → 1 < sd → ∀ es16 : PH, es16 = sI es1 79 0 (.int (zI 2)) → Q (.inl (none), es16, kc, ks))
    (K8 : ∀ es1 : PH, es1 = sI es 79 0 (.int (zI 0)) → ¬ (sq < 0) → ¬ (35 < sq) → ¬ (kd = (-1)) → ∀ v8 : Int, v8 = (gA es1 80 (Int.toNat 0)).toInt → ¬ (kd < 0) → ¬ ((v8 - 1) < kd) → ¬ (sd < 0) → ¬ (1 < sd) → ∀ es17 : PH, es17 = sA es1 80 (13 + sq).toNat (zI ((2 * kd) + sd)) → Q (.inl (none), es17, kc, ks)) :
    aW O (d + 3) 196 kc ks Q (0, [some (.ref 143), some (.int (zI sq)), some (.int (zI kd)), some (.int (zI sd))], [], es) := by
  refine x0 (r := (1, [some (.ref 143), some (.int (zI sq)), some (.int (zI kd)), some (.int (zI sd))], [.ref 143], es)) i_196_0 rfl ?_
  refine x0 (r := (2, [some (.ref 143), some (.int (zI sq)), some (.int (zI kd)), some (.int (zI sd))], [.int (zI 0), .ref 143], es)) i_196_1 (by rfl) ?_
  refine x_puti (p := 79) (ty := .int) i_196_2 hs_es rfl rfl rfl (Or.inl rfl) ?_
  obtain ⟨es1, e_es1⟩ : ∃ z : PH, z = sI es 79 0 (.int (zI 0)) := ⟨_, rfl⟩
  have hs_es1 : sh es1 := by rw [e_es1]; exact sh_sI hs_es (p := 79) (b := 0) rfl rfl
  have hT_es1 : hOK tT es1 := by rw [e_es1]; exact hOK_sI hT_es (p := 79) (b := 0) (lo := iLO) (hi := iHI) rfl rfl (i32_rng _)
  rw [← e_es1]
  refine x0 (r := (6, [some (.ref 143), some (.int (zI sq)), some (.int (zI kd)), some (.int (zI sd))], [.ref 143], es1)) i_196_5 rfl ?_
  refine x0 (r := (7, [some (.ref 143), some (.int (zI sq)), some (.int (zI kd)), some (.int (zI sd))], [.int (zI sq), .ref 143], es1)) i_196_6 rfl ?_
  refine x_call (vs := [.int (zI sq)]) (rs := [.ref 143]) i_196_7 rfl (fun _ => rfl) rfl rfl rfl rfl rfl rfl ?_
  show aW _ _ _ _ _ _ (0, [some (.int (zI sq))], [], es1)
  refine x0 (r := (1, [some (.int (zI sq))], [.int (zI sq)], es1)) i_197_0 rfl ?_
  refine x0 (r := (2, [some (.int (zI sq))], [.int (zI 0), .int (zI sq)], es1)) i_197_1 (by rfl) ?_
  refine x0 (r := (4, [some (.int (zI sq))], [.int (zI 35), .int (zI 0), .int (zI sq)], es1)) i_197_2 (by rfl) ?_
  refine x_call (vs := [.int (zI sq), .int (zI 0), .int (zI 35)]) (rs := []) i_197_4 rfl (fun _ => rfl) rfl rfl rfl rfl rfl rfl ?_
  show aW _ _ _ _ _ _ (0, [some (.int (zI sq)), some (.int (zI 0)), some (.int (zI 35))], [], es1)
  refine x0 (r := (1, [some (.int (zI sq)), some (.int (zI 0)), some (.int (zI 35))], [.int (zI sq)], es1)) i_193_0 rfl ?_
  refine x0 (r := (2, [some (.int (zI sq)), some (.int (zI 0)), some (.int (zI 35))], [.int (zI 0), .int (zI sq)], es1)) i_193_1 rfl ?_
  by_cases c2 : sq < 0
  · refine x_cmpT i_193_2 (by unfold i32 iLO iHI; omega) (by unfold i32 iLO iHI; omega) rfl (by simp only [zC, cR]; omega) ?_
    refine x0 (r := (15, [some (.int (zI sq)), some (.int (zI 0)), some (.int (zI 35))], [.int (zI 0)], es1)) i_193_14 (by rfl) ?_
    refine x_ret (v := some (.int (zI 0))) i_193_15 rfl (fun _ => rfl) rfl rfl (pFin_b (by omega)) ?_
    show aW _ _ _ _ _ _ (7, [some (.int (zI sq))], [.int (zI 0)], es1)
    refine x_ifF i_197_7 (by unfold i32 iLO iHI; omega) rfl (by simp only [zC, cR]; omega) ?_
    refine x0 (r := (11, [some (.int (zI sq))], [.int (zI 1)], es1)) i_197_10 (by rfl) ?_
    refine x0 (r := (15, [some (.int (zI sq))], [.int (zI 1)], es1)) i_197_11 rfl ?_
    refine x_ret (v := some (.int (zI 1))) i_197_15 rfl (fun _ => rfl) rfl rfl (pFin_b (by omega)) ?_
    show aW _ _ _ _ _ _ (10, [some (.ref 143), some (.int (zI sq)), some (.int (zI kd)), some (.int (zI sd))], [.int (zI 1), .ref 143], es1)
    refine x_ifT i_196_10 (by unfold i32 iLO iHI; omega) rfl (by simp only [zC, cR]; omega) ?_
    refine x0 (r := (27, [some (.ref 143), some (.int (zI sq)), some (.int (zI kd)), some (.int (zI sd))], [.int (zI 1), .ref 143], es1)) i_196_26 (by rfl) ?_
    refine x0 (r := (31, [some (.ref 143), some (.int (zI sq)), some (.int (zI kd)), some (.int (zI sd))], [.int (zI 1), .ref 143], es1)) i_196_27 rfl ?_
    refine x0 (r := (32, [some (.ref 143), some (.int (zI sq)), some (.int (zI kd)), some (.int (zI sd))], [.int (zI 1), .int (zI 1), .ref 143], es1)) i_196_31 (by rfl) ?_
    refine x_call (vs := [.ref 143, .int (zI 1), .int (zI 1)]) (rs := []) i_196_32 rfl (fun _ => rfl) rfl rfl rfl rfl rfl (pCall_v (p := 79) hs_es1 rfl rfl rfl rfl rfl (by decide) rfl rfl rfl rfl rfl) ?_
    show aW _ _ _ _ _ _ (0, [some (.ref 143), some (.int (zI 1)), some (.int (zI 1))], [], es1)
    refine x0 (r := (1, [some (.ref 143), some (.int (zI 1)), some (.int (zI 1))], [.int (zI 1)], es1)) i_194_0 rfl ?_
    refine x_ifF i_194_1 (by unfold i32 iLO iHI; omega) rfl (by simp only [zC, cR]; omega) ?_
    refine x0 (r := (5, [some (.ref 143), some (.int (zI 1)), some (.int (zI 1))], [.ref 143], es1)) i_194_4 rfl ?_
    refine x0 (r := (6, [some (.ref 143), some (.int (zI 1)), some (.int (zI 1))], [.int (zI 1), .ref 143], es1)) i_194_5 rfl ?_
    refine x_puti (p := 79) (ty := .int) i_194_6 hs_es1 rfl rfl rfl (Or.inl rfl) ?_
    obtain ⟨es3, e_es3⟩ : ∃ z : PH, z = sI es1 79 0 (.int (zI 1)) := ⟨_, rfl⟩
    have hs_es3 : sh es3 := by rw [e_es3]; exact sh_sI hs_es1 (p := 79) (b := 0) rfl rfl
    have hT_es3 : hOK tT es3 := by rw [e_es3]; exact hOK_sI hT_es1 (p := 79) (b := 0) (lo := iLO) (hi := iHI) rfl rfl (i32_rng _)
    rw [← e_es3]
    refine x0 (r := (10, [some (.ref 143), some (.int (zI 1)), some (.int (zI 1))], [.int (zI 1)], es3)) i_194_9 rfl ?_
    refine x_ret (v := some (.int (zI 1))) i_194_10 rfl (fun _ => rfl) rfl rfl (pFin_b (by omega)) ?_
    show aW _ _ _ _ _ _ (35, [some (.ref 143), some (.int (zI sq)), some (.int (zI kd)), some (.int (zI sd))], [.int (zI 1)], es3)
    refine x_ifT i_196_35 (by unfold i32 iLO iHI; omega) rfl (by simp only [zC, cR]; omega) ?_
    refine x_ret (v := none) i_196_65 rfl (fun _ => rfl) rfl rfl rfl ?_
    exact K1 es1 e_es1 c2 es3 e_es3
  · refine x_cmpF i_193_2 (by unfold i32 iLO iHI; omega) (by unfold i32 iLO iHI; omega) rfl (by simp only [zC, cR]; omega) ?_
    refine x0 (r := (6, [some (.int (zI sq)), some (.int (zI 0)), some (.int (zI 35))], [.int (zI sq)], es1)) i_193_5 rfl ?_
    refine x0 (r := (7, [some (.int (zI sq)), some (.int (zI 0)), some (.int (zI 35))], [.int (zI 35), .int (zI sq)], es1)) i_193_6 rfl ?_
    by_cases c4 : 35 < sq
    · refine x_cmpT i_193_7 (by unfold i32 iLO iHI; omega) (by unfold i32 iLO iHI; omega) rfl (by simp only [zC, cR]; omega) ?_
      refine x0 (r := (15, [some (.int (zI sq)), some (.int (zI 0)), some (.int (zI 35))], [.int (zI 0)], es1)) i_193_14 (by rfl) ?_
      refine x_ret (v := some (.int (zI 0))) i_193_15 rfl (fun _ => rfl) rfl rfl (pFin_b (by omega)) ?_
      show aW _ _ _ _ _ _ (7, [some (.int (zI sq))], [.int (zI 0)], es1)
      refine x_ifF i_197_7 (by unfold i32 iLO iHI; omega) rfl (by simp only [zC, cR]; omega) ?_
      refine x0 (r := (11, [some (.int (zI sq))], [.int (zI 1)], es1)) i_197_10 (by rfl) ?_
      refine x0 (r := (15, [some (.int (zI sq))], [.int (zI 1)], es1)) i_197_11 rfl ?_
      refine x_ret (v := some (.int (zI 1))) i_197_15 rfl (fun _ => rfl) rfl rfl (pFin_b (by omega)) ?_
      show aW _ _ _ _ _ _ (10, [some (.ref 143), some (.int (zI sq)), some (.int (zI kd)), some (.int (zI sd))], [.int (zI 1), .ref 143], es1)
      refine x_ifT i_196_10 (by unfold i32 iLO iHI; omega) rfl (by simp only [zC, cR]; omega) ?_
      refine x0 (r := (27, [some (.ref 143), some (.int (zI sq)), some (.int (zI kd)), some (.int (zI sd))], [.int (zI 1), .ref 143], es1)) i_196_26 (by rfl) ?_
      refine x0 (r := (31, [some (.ref 143), some (.int (zI sq)), some (.int (zI kd)), some (.int (zI sd))], [.int (zI 1), .ref 143], es1)) i_196_27 rfl ?_
      refine x0 (r := (32, [some (.ref 143), some (.int (zI sq)), some (.int (zI kd)), some (.int (zI sd))], [.int (zI 1), .int (zI 1), .ref 143], es1)) i_196_31 (by rfl) ?_
      refine x_call (vs := [.ref 143, .int (zI 1), .int (zI 1)]) (rs := []) i_196_32 rfl (fun _ => rfl) rfl rfl rfl rfl rfl (pCall_v (p := 79) hs_es1 rfl rfl rfl rfl rfl (by decide) rfl rfl rfl rfl rfl) ?_
      show aW _ _ _ _ _ _ (0, [some (.ref 143), some (.int (zI 1)), some (.int (zI 1))], [], es1)
      refine x0 (r := (1, [some (.ref 143), some (.int (zI 1)), some (.int (zI 1))], [.int (zI 1)], es1)) i_194_0 rfl ?_
      refine x_ifF i_194_1 (by unfold i32 iLO iHI; omega) rfl (by simp only [zC, cR]; omega) ?_
      refine x0 (r := (5, [some (.ref 143), some (.int (zI 1)), some (.int (zI 1))], [.ref 143], es1)) i_194_4 rfl ?_
      refine x0 (r := (6, [some (.ref 143), some (.int (zI 1)), some (.int (zI 1))], [.int (zI 1), .ref 143], es1)) i_194_5 rfl ?_
      refine x_puti (p := 79) (ty := .int) i_194_6 hs_es1 rfl rfl rfl (Or.inl rfl) ?_
      obtain ⟨es5, e_es5⟩ : ∃ z : PH, z = sI es1 79 0 (.int (zI 1)) := ⟨_, rfl⟩
      have hs_es5 : sh es5 := by rw [e_es5]; exact sh_sI hs_es1 (p := 79) (b := 0) rfl rfl
      have hT_es5 : hOK tT es5 := by rw [e_es5]; exact hOK_sI hT_es1 (p := 79) (b := 0) (lo := iLO) (hi := iHI) rfl rfl (i32_rng _)
      rw [← e_es5]
      refine x0 (r := (10, [some (.ref 143), some (.int (zI 1)), some (.int (zI 1))], [.int (zI 1)], es5)) i_194_9 rfl ?_
      refine x_ret (v := some (.int (zI 1))) i_194_10 rfl (fun _ => rfl) rfl rfl (pFin_b (by omega)) ?_
      show aW _ _ _ _ _ _ (35, [some (.ref 143), some (.int (zI sq)), some (.int (zI kd)), some (.int (zI sd))], [.int (zI 1)], es5)
      refine x_ifT i_196_35 (by unfold i32 iLO iHI; omega) rfl (by simp only [zC, cR]; omega) ?_
      refine x_ret (v := none) i_196_65 rfl (fun _ => rfl) rfl rfl rfl ?_
      exact K2 es1 e_es1 c2 c4 es5 e_es5
    · refine x_cmpF i_193_7 (by unfold i32 iLO iHI; omega) (by unfold i32 iLO iHI; omega) rfl (by simp only [zC, cR]; omega) ?_
      refine x0 (r := (11, [some (.int (zI sq)), some (.int (zI 0)), some (.int (zI 35))], [.int (zI 1)], es1)) i_193_10 (by rfl) ?_
      refine x0 (r := (15, [some (.int (zI sq)), some (.int (zI 0)), some (.int (zI 35))], [.int (zI 1)], es1)) i_193_11 rfl ?_
      refine x_ret (v := some (.int (zI 1))) i_193_15 rfl (fun _ => rfl) rfl rfl (pFin_b (by omega)) ?_
      show aW _ _ _ _ _ _ (7, [some (.int (zI sq))], [.int (zI 1)], es1)
      refine x_ifT i_197_7 (by unfold i32 iLO iHI; omega) rfl (by simp only [zC, cR]; omega) ?_
      refine x0 (r := (15, [some (.int (zI sq))], [.int (zI 0)], es1)) i_197_14 (by rfl) ?_
      refine x_ret (v := some (.int (zI 0))) i_197_15 rfl (fun _ => rfl) rfl rfl (pFin_b (by omega)) ?_
      show aW _ _ _ _ _ _ (10, [some (.ref 143), some (.int (zI sq)), some (.int (zI kd)), some (.int (zI sd))], [.int (zI 0), .ref 143], es1)
      refine x_ifF i_196_10 (by unfold i32 iLO iHI; omega) rfl (by simp only [zC, cR]; omega) ?_
      refine x0 (r := (14, [some (.ref 143), some (.int (zI sq)), some (.int (zI kd)), some (.int (zI sd))], [.int (zI kd), .ref 143], es1)) i_196_13 rfl ?_
      refine x0 (r := (15, [some (.ref 143), some (.int (zI sq)), some (.int (zI kd)), some (.int (zI sd))], [.int (zI (-1)), .int (zI kd), .ref 143], es1)) i_196_14 (by rfl) ?_
      by_cases c6 : kd = (-1)
      · refine x_cmpT i_196_15 (by unfold i32 iLO iHI; omega) (by unfold i32 iLO iHI; omega) rfl (by simp only [zC, cR]; omega) ?_
        refine x0 (r := (31, [some (.ref 143), some (.int (zI sq)), some (.int (zI kd)), some (.int (zI sd))], [.int (zI 0), .ref 143], es1)) i_196_30 (by rfl) ?_
        refine x0 (r := (32, [some (.ref 143), some (.int (zI sq)), some (.int (zI kd)), some (.int (zI sd))], [.int (zI 1), .int (zI 0), .ref 143], es1)) i_196_31 (by rfl) ?_
        refine x_call (vs := [.ref 143, .int (zI 0), .int (zI 1)]) (rs := []) i_196_32 rfl (fun _ => rfl) rfl rfl rfl rfl rfl (pCall_v (p := 79) hs_es1 rfl rfl rfl rfl rfl (by decide) rfl rfl rfl rfl rfl) ?_
        show aW _ _ _ _ _ _ (0, [some (.ref 143), some (.int (zI 0)), some (.int (zI 1))], [], es1)
        refine x0 (r := (1, [some (.ref 143), some (.int (zI 0)), some (.int (zI 1))], [.int (zI 0)], es1)) i_194_0 rfl ?_
        refine x_ifT i_194_1 (by unfold i32 iLO iHI; omega) rfl (by simp only [zC, cR]; omega) ?_
        refine x0 (r := (10, [some (.ref 143), some (.int (zI 0)), some (.int (zI 1))], [.int (zI 0)], es1)) i_194_9 rfl ?_
        refine x_ret (v := some (.int (zI 0))) i_194_10 rfl (fun _ => rfl) rfl rfl (pFin_b (by omega)) ?_
        show aW _ _ _ _ _ _ (35, [some (.ref 143), some (.int (zI sq)), some (.int (zI kd)), some (.int (zI sd))], [.int (zI 0)], es1)
        refine x_ifF i_196_35 (by unfold i32 iLO iHI; omega) rfl (by simp only [zC, cR]; omega) ?_
        refine x0 (r := (39, [some (.ref 143), some (.int (zI sq)), some (.int (zI kd)), some (.int (zI sd))], [.ref 143], es1)) i_196_38 rfl ?_
        refine x0 (r := (40, [some (.ref 143), some (.int (zI sq)), some (.int (zI kd)), some (.int (zI sd))], [.int (zI kd), .ref 143], es1)) i_196_39 rfl ?_
        refine x0 (r := (41, [some (.ref 143), some (.int (zI sq)), some (.int (zI kd)), some (.int (zI sd))], [.int (zI (-1)), .int (zI kd), .ref 143], es1)) i_196_40 (by rfl) ?_
        refine x_cmpT i_196_41 (by unfold i32 iLO iHI; omega) (by unfold i32 iLO iHI; omega) rfl (by simp only [zC, cR]; omega) ?_
        refine x0 (r := (58, [some (.ref 143), some (.int (zI sq)), some (.int (zI kd)), some (.int (zI sd))], [.int (zI 0), .ref 143], es1)) i_196_57 (by rfl) ?_
        refine x0 (r := (59, [some (.ref 143), some (.int (zI sq)), some (.int (zI kd)), some (.int (zI sd))], [.int (zI 2), .int (zI 0), .ref 143], es1)) i_196_58 (by rfl) ?_
        refine x_call (vs := [.ref 143, .int (zI 0), .int (zI 2)]) (rs := []) i_196_59 rfl (fun _ => rfl) rfl rfl rfl rfl rfl (pCall_v (p := 79) hs_es1 rfl rfl rfl rfl rfl (by decide) rfl rfl rfl rfl rfl) ?_
        show aW _ _ _ _ _ _ (0, [some (.ref 143), some (.int (zI 0)), some (.int (zI 2))], [], es1)
        refine x0 (r := (1, [some (.ref 143), some (.int (zI 0)), some (.int (zI 2))], [.int (zI 0)], es1)) i_194_0 rfl ?_
        refine x_ifT i_194_1 (by unfold i32 iLO iHI; omega) rfl (by simp only [zC, cR]; omega) ?_
        refine x0 (r := (10, [some (.ref 143), some (.int (zI 0)), some (.int (zI 2))], [.int (zI 0)], es1)) i_194_9 rfl ?_
        refine x_ret (v := some (.int (zI 0))) i_194_10 rfl (fun _ => rfl) rfl rfl (pFin_b (by omega)) ?_
        show aW _ _ _ _ _ _ (62, [some (.ref 143), some (.int (zI sq)), some (.int (zI kd)), some (.int (zI sd))], [.int (zI 0)], es1)
        refine x_ifT i_196_62 (by unfold i32 iLO iHI; omega) rfl (by simp only [zC, cR]; omega) ?_
        refine x0 (r := (67, [some (.ref 143), some (.int (zI sq)), some (.int (zI kd)), some (.int (zI sd))], [.ref 143], es1)) i_196_66 rfl ?_
        refine x_getr (p := 79) (k := 144) i_196_67 hs_es1 rfl rfl ?_
        show aW _ _ _ _ _ _ (70, [some (.ref 143), some (.int (zI sq)), some (.int (zI kd)), some (.int (zI sd))], [.ref 144], es1)
        refine x0 (r := (72, [some (.ref 143), some (.int (zI sq)), some (.int (zI kd)), some (.int (zI sd))], [.int (zI 13), .ref 144], es1)) i_196_70 (by rfl) ?_
        refine x0 (r := (73, [some (.ref 143), some (.int (zI sq)), some (.int (zI kd)), some (.int (zI sd))], [.int (zI sq), .int (zI 13), .ref 144], es1)) i_196_72 rfl ?_
        refine x_iadd i_196_73 ?_
        refine x0 (r := (75, [some (.ref 143), some (.int (zI sq)), some (.int (zI kd)), some (.int (zI sd))], [.int (zI kd), .int (zI (13 + sq)), .ref 144], es1)) i_196_74 rfl ?_
        refine x0 (r := (76, [some (.ref 143), some (.int (zI sq)), some (.int (zI kd)), some (.int (zI sd))], [.int (zI sd), .int (zI kd), .int (zI (13 + sq)), .ref 144], es1)) i_196_75 rfl ?_
        refine x_call (vs := [.int (zI kd), .int (zI sd)]) (rs := [.int (zI (13 + sq)), .ref 144]) i_196_76 rfl (fun _ => rfl) rfl rfl rfl rfl rfl rfl ?_
        show aW _ _ _ _ _ _ (0, [some (.int (zI kd)), some (.int (zI sd))], [], es1)
        refine x0 (r := (1, [some (.int (zI kd)), some (.int (zI sd))], [.int (zI kd)], es1)) i_200_0 rfl ?_
        refine x_ifF i_200_1 (by unfold i32 iLO iHI; omega) rfl (by simp only [zC, cR]; omega) ?_
        refine x0 (r := (5, [some (.int (zI kd)), some (.int (zI sd))], [.int (zI (-1))], es1)) i_200_4 (by rfl) ?_
        refine x0 (r := (13, [some (.int (zI kd)), some (.int (zI sd))], [.int (zI (-1))], es1)) i_200_5 rfl ?_
        refine x_ret (v := some (.int (zI (-1)))) i_200_13 rfl (fun _ => rfl) rfl rfl rfl ?_
        show aW _ _ _ _ _ _ (79, [some (.ref 143), some (.int (zI sq)), some (.int (zI kd)), some (.int (zI sd))], [.int (zI (-1)), .int (zI (13 + sq)), .ref 144], es1)
        refine x_iast (p := 80) i_196_79 hs_es1 rfl (by unfold i32 iLO iHI; omega) (by omega) (by omega) ?_
        obtain ⟨es7, e_es7⟩ : ∃ z : PH, z = sA es1 80 (13 + sq).toNat (zI (-1)) := ⟨_, rfl⟩
        have hs_es7 : sh es7 := by rw [e_es7]; exact sh_sA hs_es1
        rw [← e_es7]
        refine x_ret (v := none) i_196_80 rfl (fun _ => rfl) rfl rfl rfl ?_
        exact K3 es1 e_es1 c2 c4 c6 es7 e_es7
      · refine x_cmpF i_196_15 (by unfold i32 iLO iHI; omega) (by unfold i32 iLO iHI; omega) rfl (by simp only [zC, cR]; omega) ?_
        refine x0 (r := (19, [some (.ref 143), some (.int (zI sq)), some (.int (zI kd)), some (.int (zI sd))], [.ref 143, .ref 143], es1)) i_196_18 rfl ?_
        refine x0 (r := (20, [some (.ref 143), some (.int (zI sq)), some (.int (zI kd)), some (.int (zI sd))], [.int (zI kd), .ref 143, .ref 143], es1)) i_196_19 rfl ?_
        refine x_call (vs := [.ref 143, .int (zI kd)]) (rs := [.ref 143]) i_196_20 rfl (fun _ => rfl) rfl rfl rfl rfl rfl (pCall_v (p := 79) hs_es1 rfl rfl rfl rfl rfl (by decide) rfl rfl rfl rfl rfl) ?_
        show aW _ _ _ _ _ _ (0, [some (.ref 143), some (.int (zI kd))], [], es1)
        refine x0 (r := (1, [some (.ref 143), some (.int (zI kd))], [.ref 143], es1)) i_198_0 rfl ?_
        refine x0 (r := (2, [some (.ref 143), some (.int (zI kd))], [.int (zI kd), .ref 143], es1)) i_198_1 rfl ?_
        refine x0 (r := (3, [some (.ref 143), some (.int (zI kd))], [.int (zI 0), .int (zI kd), .ref 143], es1)) i_198_2 (by rfl) ?_
        refine x_call (vs := [.ref 143, .int (zI kd), .int (zI 0)]) (rs := []) i_198_3 rfl (fun _ => rfl) rfl rfl rfl rfl rfl (pCall_v (p := 79) hs_es1 rfl rfl rfl rfl rfl (by decide) rfl rfl rfl rfl rfl) ?_
        show aW _ _ _ _ _ _ (0, [some (.ref 143), some (.int (zI kd)), some (.int (zI 0))], [], es1)
        refine x0 (r := (1, [some (.ref 143), some (.int (zI kd)), some (.int (zI 0))], [.int (zI kd)], es1)) i_199_0 rfl ?_
        refine x0 (r := (2, [some (.ref 143), some (.int (zI kd)), some (.int (zI 0))], [.int (zI 0), .int (zI kd)], es1)) i_199_1 (by rfl) ?_
        refine x0 (r := (3, [some (.ref 143), some (.int (zI kd)), some (.int (zI 0))], [.ref 143, .int (zI 0), .int (zI kd)], es1)) i_199_2 rfl ?_
        refine x_getr (p := 79) (k := 144) i_199_3 hs_es1 rfl rfl ?_
        show aW _ _ _ _ _ _ (6, [some (.ref 143), some (.int (zI kd)), some (.int (zI 0))], [.ref 144, .int (zI 0), .int (zI kd)], es1)
        refine x0 (r := (7, [some (.ref 143), some (.int (zI kd)), some (.int (zI 0))], [.int (zI 0), .ref 144, .int (zI 0), .int (zI kd)], es1)) i_199_6 rfl ?_
        refine x_iald (p := 80) i_199_7 hs_es1 rfl (by unfold i32 iLO iHI; omega) (by omega) (by omega) ?_
        obtain ⟨v8, e_v8⟩ : ∃ z : Int, z = (gA es1 80 (Int.toNat 0)).toInt := ⟨_, rfl⟩
        rw [← e_v8]
        have r_v8 : iLO ≤ v8 ∧ v8 ≤ iHI := by rw [e_v8]; exact i32_rng _
        unfold iLO iHI at r_v8
        have b_v8 : (0 : Int) ≤ v8 ∧ v8 ≤ (5 : Int) := by rw [e_v8]; exact gA_bd hT_es1 (p := 80) (k := (Int.toNat 0)) rfl (by omega) (by decide)
        refine x0 (r := (9, [some (.ref 143), some (.int (zI kd)), some (.int (zI 0))], [.int (zI 1), .int (zI v8), .int (zI 0), .int (zI kd)], es1)) i_199_8 (by rfl) ?_
        refine x_isub i_199_9 ?_
        refine x_call (vs := [.int (zI kd), .int (zI 0), .int (zI (v8 - 1))]) (rs := []) i_199_10 rfl (fun _ => rfl) rfl rfl rfl rfl rfl rfl ?_
        show aW _ _ _ _ _ _ (0, [some (.int (zI kd)), some (.int (zI 0)), some (.int (zI (v8 - 1)))], [], es1)
        refine x0 (r := (1, [some (.int (zI kd)), some (.int (zI 0)), some (.int (zI (v8 - 1)))], [.int (zI kd)], es1)) i_193_0 rfl ?_
        refine x0 (r := (2, [some (.int (zI kd)), some (.int (zI 0)), some (.int (zI (v8 - 1)))], [.int (zI 0), .int (zI kd)], es1)) i_193_1 rfl ?_
        by_cases c9 : kd < 0
        · refine x_cmpT i_193_2 (by unfold i32 iLO iHI; omega) (by unfold i32 iLO iHI; omega) rfl (by simp only [zC, cR]; omega) ?_
          refine x0 (r := (15, [some (.int (zI kd)), some (.int (zI 0)), some (.int (zI (v8 - 1)))], [.int (zI 0)], es1)) i_193_14 (by rfl) ?_
          refine x_ret (v := some (.int (zI 0))) i_193_15 rfl (fun _ => rfl) rfl rfl (pFin_b (by omega)) ?_
          show aW _ _ _ _ _ _ (13, [some (.ref 143), some (.int (zI kd)), some (.int (zI 0))], [.int (zI 0)], es1)
          refine x_ifF i_199_13 (by unfold i32 iLO iHI; omega) rfl (by simp only [zC, cR]; omega) ?_
          refine x0 (r := (17, [some (.ref 143), some (.int (zI kd)), some (.int (zI 0))], [.int (zI 1)], es1)) i_199_16 (by rfl) ?_
          refine x0 (r := (21, [some (.ref 143), some (.int (zI kd)), some (.int (zI 0))], [.int (zI 1)], es1)) i_199_17 rfl ?_
          refine x_ret (v := some (.int (zI 1))) i_199_21 rfl (fun _ => rfl) rfl rfl (pFin_b (by omega)) ?_
          show aW _ _ _ _ _ _ (6, [some (.ref 143), some (.int (zI kd))], [.int (zI 1)], es1)
          refine x_ret (v := some (.int (zI 1))) i_198_6 rfl (fun _ => rfl) rfl rfl (pFin_b (by omega)) ?_
          show aW _ _ _ _ _ _ (23, [some (.ref 143), some (.int (zI sq)), some (.int (zI kd)), some (.int (zI sd))], [.int (zI 1), .ref 143], es1)
          refine x_ifF i_196_23 (by unfold i32 iLO iHI; omega) rfl (by simp only [zC, cR]; omega) ?_
          refine x0 (r := (27, [some (.ref 143), some (.int (zI sq)), some (.int (zI kd)), some (.int (zI sd))], [.int (zI 1), .ref 143], es1)) i_196_26 (by rfl) ?_
          refine x0 (r := (31, [some (.ref 143), some (.int (zI sq)), some (.int (zI kd)), some (.int (zI sd))], [.int (zI 1), .ref 143], es1)) i_196_27 rfl ?_
          refine x0 (r := (32, [some (.ref 143), some (.int (zI sq)), some (.int (zI kd)), some (.int (zI sd))], [.int (zI 1), .int (zI 1), .ref 143], es1)) i_196_31 (by rfl) ?_
          refine x_call (vs := [.ref 143, .int (zI 1), .int (zI 1)]) (rs := []) i_196_32 rfl (fun _ => rfl) rfl rfl rfl rfl rfl (pCall_v (p := 79) hs_es1 rfl rfl rfl rfl rfl (by decide) rfl rfl rfl rfl rfl) ?_
          show aW _ _ _ _ _ _ (0, [some (.ref 143), some (.int (zI 1)), some (.int (zI 1))], [], es1)
          refine x0 (r := (1, [some (.ref 143), some (.int (zI 1)), some (.int (zI 1))], [.int (zI 1)], es1)) i_194_0 rfl ?_
          refine x_ifF i_194_1 (by unfold i32 iLO iHI; omega) rfl (by simp only [zC, cR]; omega) ?_
          refine x0 (r := (5, [some (.ref 143), some (.int (zI 1)), some (.int (zI 1))], [.ref 143], es1)) i_194_4 rfl ?_
          refine x0 (r := (6, [some (.ref 143), some (.int (zI 1)), some (.int (zI 1))], [.int (zI 1), .ref 143], es1)) i_194_5 rfl ?_
          refine x_puti (p := 79) (ty := .int) i_194_6 hs_es1 rfl rfl rfl (Or.inl rfl) ?_
          obtain ⟨es10, e_es10⟩ : ∃ z : PH, z = sI es1 79 0 (.int (zI 1)) := ⟨_, rfl⟩
          have hs_es10 : sh es10 := by rw [e_es10]; exact sh_sI hs_es1 (p := 79) (b := 0) rfl rfl
          have hT_es10 : hOK tT es10 := by rw [e_es10]; exact hOK_sI hT_es1 (p := 79) (b := 0) (lo := iLO) (hi := iHI) rfl rfl (i32_rng _)
          rw [← e_es10]
          refine x0 (r := (10, [some (.ref 143), some (.int (zI 1)), some (.int (zI 1))], [.int (zI 1)], es10)) i_194_9 rfl ?_
          refine x_ret (v := some (.int (zI 1))) i_194_10 rfl (fun _ => rfl) rfl rfl (pFin_b (by omega)) ?_
          show aW _ _ _ _ _ _ (35, [some (.ref 143), some (.int (zI sq)), some (.int (zI kd)), some (.int (zI sd))], [.int (zI 1)], es10)
          refine x_ifT i_196_35 (by unfold i32 iLO iHI; omega) rfl (by simp only [zC, cR]; omega) ?_
          refine x_ret (v := none) i_196_65 rfl (fun _ => rfl) rfl rfl rfl ?_
          exact K4 es1 e_es1 c2 c4 c6 v8 e_v8 c9 es10 e_es10
        · refine x_cmpF i_193_2 (by unfold i32 iLO iHI; omega) (by unfold i32 iLO iHI; omega) rfl (by simp only [zC, cR]; omega) ?_
          refine x0 (r := (6, [some (.int (zI kd)), some (.int (zI 0)), some (.int (zI (v8 - 1)))], [.int (zI kd)], es1)) i_193_5 rfl ?_
          refine x0 (r := (7, [some (.int (zI kd)), some (.int (zI 0)), some (.int (zI (v8 - 1)))], [.int (zI (v8 - 1)), .int (zI kd)], es1)) i_193_6 rfl ?_
          by_cases c11 : (v8 - 1) < kd
          · refine x_cmpT i_193_7 (by unfold i32 iLO iHI; omega) (by unfold i32 iLO iHI; omega) rfl (by simp only [zC, cR]; omega) ?_
            refine x0 (r := (15, [some (.int (zI kd)), some (.int (zI 0)), some (.int (zI (v8 - 1)))], [.int (zI 0)], es1)) i_193_14 (by rfl) ?_
            refine x_ret (v := some (.int (zI 0))) i_193_15 rfl (fun _ => rfl) rfl rfl (pFin_b (by omega)) ?_
            show aW _ _ _ _ _ _ (13, [some (.ref 143), some (.int (zI kd)), some (.int (zI 0))], [.int (zI 0)], es1)
            refine x_ifF i_199_13 (by unfold i32 iLO iHI; omega) rfl (by simp only [zC, cR]; omega) ?_
            refine x0 (r := (17, [some (.ref 143), some (.int (zI kd)), some (.int (zI 0))], [.int (zI 1)], es1)) i_199_16 (by rfl) ?_
            refine x0 (r := (21, [some (.ref 143), some (.int (zI kd)), some (.int (zI 0))], [.int (zI 1)], es1)) i_199_17 rfl ?_
            refine x_ret (v := some (.int (zI 1))) i_199_21 rfl (fun _ => rfl) rfl rfl (pFin_b (by omega)) ?_
            show aW _ _ _ _ _ _ (6, [some (.ref 143), some (.int (zI kd))], [.int (zI 1)], es1)
            refine x_ret (v := some (.int (zI 1))) i_198_6 rfl (fun _ => rfl) rfl rfl (pFin_b (by omega)) ?_
            show aW _ _ _ _ _ _ (23, [some (.ref 143), some (.int (zI sq)), some (.int (zI kd)), some (.int (zI sd))], [.int (zI 1), .ref 143], es1)
            refine x_ifF i_196_23 (by unfold i32 iLO iHI; omega) rfl (by simp only [zC, cR]; omega) ?_
            refine x0 (r := (27, [some (.ref 143), some (.int (zI sq)), some (.int (zI kd)), some (.int (zI sd))], [.int (zI 1), .ref 143], es1)) i_196_26 (by rfl) ?_
            refine x0 (r := (31, [some (.ref 143), some (.int (zI sq)), some (.int (zI kd)), some (.int (zI sd))], [.int (zI 1), .ref 143], es1)) i_196_27 rfl ?_
            refine x0 (r := (32, [some (.ref 143), some (.int (zI sq)), some (.int (zI kd)), some (.int (zI sd))], [.int (zI 1), .int (zI 1), .ref 143], es1)) i_196_31 (by rfl) ?_
            refine x_call (vs := [.ref 143, .int (zI 1), .int (zI 1)]) (rs := []) i_196_32 rfl (fun _ => rfl) rfl rfl rfl rfl rfl (pCall_v (p := 79) hs_es1 rfl rfl rfl rfl rfl (by decide) rfl rfl rfl rfl rfl) ?_
            show aW _ _ _ _ _ _ (0, [some (.ref 143), some (.int (zI 1)), some (.int (zI 1))], [], es1)
            refine x0 (r := (1, [some (.ref 143), some (.int (zI 1)), some (.int (zI 1))], [.int (zI 1)], es1)) i_194_0 rfl ?_
            refine x_ifF i_194_1 (by unfold i32 iLO iHI; omega) rfl (by simp only [zC, cR]; omega) ?_
            refine x0 (r := (5, [some (.ref 143), some (.int (zI 1)), some (.int (zI 1))], [.ref 143], es1)) i_194_4 rfl ?_
            refine x0 (r := (6, [some (.ref 143), some (.int (zI 1)), some (.int (zI 1))], [.int (zI 1), .ref 143], es1)) i_194_5 rfl ?_
            refine x_puti (p := 79) (ty := .int) i_194_6 hs_es1 rfl rfl rfl (Or.inl rfl) ?_
            obtain ⟨es12, e_es12⟩ : ∃ z : PH, z = sI es1 79 0 (.int (zI 1)) := ⟨_, rfl⟩
            have hs_es12 : sh es12 := by rw [e_es12]; exact sh_sI hs_es1 (p := 79) (b := 0) rfl rfl
            have hT_es12 : hOK tT es12 := by rw [e_es12]; exact hOK_sI hT_es1 (p := 79) (b := 0) (lo := iLO) (hi := iHI) rfl rfl (i32_rng _)
            rw [← e_es12]
            refine x0 (r := (10, [some (.ref 143), some (.int (zI 1)), some (.int (zI 1))], [.int (zI 1)], es12)) i_194_9 rfl ?_
            refine x_ret (v := some (.int (zI 1))) i_194_10 rfl (fun _ => rfl) rfl rfl (pFin_b (by omega)) ?_
            show aW _ _ _ _ _ _ (35, [some (.ref 143), some (.int (zI sq)), some (.int (zI kd)), some (.int (zI sd))], [.int (zI 1)], es12)
            refine x_ifT i_196_35 (by unfold i32 iLO iHI; omega) rfl (by simp only [zC, cR]; omega) ?_
            refine x_ret (v := none) i_196_65 rfl (fun _ => rfl) rfl rfl rfl ?_
            exact K5 es1 e_es1 c2 c4 c6 v8 e_v8 c9 c11 es12 e_es12
          · refine x_cmpF i_193_7 (by unfold i32 iLO iHI; omega) (by unfold i32 iLO iHI; omega) rfl (by simp only [zC, cR]; omega) ?_
            refine x0 (r := (11, [some (.int (zI kd)), some (.int (zI 0)), some (.int (zI (v8 - 1)))], [.int (zI 1)], es1)) i_193_10 (by rfl) ?_
            refine x0 (r := (15, [some (.int (zI kd)), some (.int (zI 0)), some (.int (zI (v8 - 1)))], [.int (zI 1)], es1)) i_193_11 rfl ?_
            refine x_ret (v := some (.int (zI 1))) i_193_15 rfl (fun _ => rfl) rfl rfl (pFin_b (by omega)) ?_
            show aW _ _ _ _ _ _ (13, [some (.ref 143), some (.int (zI kd)), some (.int (zI 0))], [.int (zI 1)], es1)
            refine x_ifT i_199_13 (by unfold i32 iLO iHI; omega) rfl (by simp only [zC, cR]; omega) ?_
            refine x0 (r := (21, [some (.ref 143), some (.int (zI kd)), some (.int (zI 0))], [.int (zI 0)], es1)) i_199_20 (by rfl) ?_
            refine x_ret (v := some (.int (zI 0))) i_199_21 rfl (fun _ => rfl) rfl rfl (pFin_b (by omega)) ?_
            show aW _ _ _ _ _ _ (6, [some (.ref 143), some (.int (zI kd))], [.int (zI 0)], es1)
            refine x_ret (v := some (.int (zI 0))) i_198_6 rfl (fun _ => rfl) rfl rfl (pFin_b (by omega)) ?_
            show aW _ _ _ _ _ _ (23, [some (.ref 143), some (.int (zI sq)), some (.int (zI kd)), some (.int (zI sd))], [.int (zI 0), .ref 143], es1)
            refine x_ifT i_196_23 (by unfold i32 iLO iHI; omega) rfl (by simp only [zC, cR]; omega) ?_
            refine x0 (r := (31, [some (.ref 143), some (.int (zI sq)), some (.int (zI kd)), some (.int (zI sd))], [.int (zI 0), .ref 143], es1)) i_196_30 (by rfl) ?_
            refine x0 (r := (32, [some (.ref 143), some (.int (zI sq)), some (.int (zI kd)), some (.int (zI sd))], [.int (zI 1), .int (zI 0), .ref 143], es1)) i_196_31 (by rfl) ?_
            refine x_call (vs := [.ref 143, .int (zI 0), .int (zI 1)]) (rs := []) i_196_32 rfl (fun _ => rfl) rfl rfl rfl rfl rfl (pCall_v (p := 79) hs_es1 rfl rfl rfl rfl rfl (by decide) rfl rfl rfl rfl rfl) ?_
            show aW _ _ _ _ _ _ (0, [some (.ref 143), some (.int (zI 0)), some (.int (zI 1))], [], es1)
            refine x0 (r := (1, [some (.ref 143), some (.int (zI 0)), some (.int (zI 1))], [.int (zI 0)], es1)) i_194_0 rfl ?_
            refine x_ifT i_194_1 (by unfold i32 iLO iHI; omega) rfl (by simp only [zC, cR]; omega) ?_
            refine x0 (r := (10, [some (.ref 143), some (.int (zI 0)), some (.int (zI 1))], [.int (zI 0)], es1)) i_194_9 rfl ?_
            refine x_ret (v := some (.int (zI 0))) i_194_10 rfl (fun _ => rfl) rfl rfl (pFin_b (by omega)) ?_
            show aW _ _ _ _ _ _ (35, [some (.ref 143), some (.int (zI sq)), some (.int (zI kd)), some (.int (zI sd))], [.int (zI 0)], es1)
            refine x_ifF i_196_35 (by unfold i32 iLO iHI; omega) rfl (by simp only [zC, cR]; omega) ?_
            refine x0 (r := (39, [some (.ref 143), some (.int (zI sq)), some (.int (zI kd)), some (.int (zI sd))], [.ref 143], es1)) i_196_38 rfl ?_
            refine x0 (r := (40, [some (.ref 143), some (.int (zI sq)), some (.int (zI kd)), some (.int (zI sd))], [.int (zI kd), .ref 143], es1)) i_196_39 rfl ?_
            refine x0 (r := (41, [some (.ref 143), some (.int (zI sq)), some (.int (zI kd)), some (.int (zI sd))], [.int (zI (-1)), .int (zI kd), .ref 143], es1)) i_196_40 (by rfl) ?_
            refine x_cmpF i_196_41 (by unfold i32 iLO iHI; omega) (by unfold i32 iLO iHI; omega) rfl (by simp only [zC, cR]; omega) ?_
            refine x0 (r := (45, [some (.ref 143), some (.int (zI sq)), some (.int (zI kd)), some (.int (zI sd))], [.int (zI sd), .ref 143], es1)) i_196_44 rfl ?_
            refine x0 (r := (46, [some (.ref 143), some (.int (zI sq)), some (.int (zI kd)), some (.int (zI sd))], [.int (zI 0), .int (zI sd), .ref 143], es1)) i_196_45 (by rfl) ?_
            refine x0 (r := (47, [some (.ref 143), some (.int (zI sq)), some (.int (zI kd)), some (.int (zI sd))], [.int (zI 1), .int (zI 0), .int (zI sd), .ref 143], es1)) i_196_46 (by rfl) ?_
            refine x_call (vs := [.int (zI sd), .int (zI 0), .int (zI 1)]) (rs := [.ref 143]) i_196_47 rfl (fun _ => rfl) rfl rfl rfl rfl rfl rfl ?_
            show aW _ _ _ _ _ _ (0, [some (.int (zI sd)), some (.int (zI 0)), some (.int (zI 1))], [], es1)
            refine x0 (r := (1, [some (.int (zI sd)), some (.int (zI 0)), some (.int (zI 1))], [.int (zI sd)], es1)) i_193_0 rfl ?_
            refine x0 (r := (2, [some (.int (zI sd)), some (.int (zI 0)), some (.int (zI 1))], [.int (zI 0), .int (zI sd)], es1)) i_193_1 rfl ?_
            by_cases c13 : sd < 0
            · refine x_cmpT i_193_2 (by unfold i32 iLO iHI; omega) (by unfold i32 iLO iHI; omega) rfl (by simp only [zC, cR]; omega) ?_
              refine x0 (r := (15, [some (.int (zI sd)), some (.int (zI 0)), some (.int (zI 1))], [.int (zI 0)], es1)) i_193_14 (by rfl) ?_
              refine x_ret (v := some (.int (zI 0))) i_193_15 rfl (fun _ => rfl) rfl rfl (pFin_b (by omega)) ?_
              show aW _ _ _ _ _ _ (50, [some (.ref 143), some (.int (zI sq)), some (.int (zI kd)), some (.int (zI sd))], [.int (zI 0), .ref 143], es1)
              refine x_ifF i_196_50 (by unfold i32 iLO iHI; omega) rfl (by simp only [zC, cR]; omega) ?_
              refine x0 (r := (54, [some (.ref 143), some (.int (zI sq)), some (.int (zI kd)), some (.int (zI sd))], [.int (zI 1), .ref 143], es1)) i_196_53 (by rfl) ?_
              refine x0 (r := (58, [some (.ref 143), some (.int (zI sq)), some (.int (zI kd)), some (.int (zI sd))], [.int (zI 1), .ref 143], es1)) i_196_54 rfl ?_
              refine x0 (r := (59, [some (.ref 143), some (.int (zI sq)), some (.int (zI kd)), some (.int (zI sd))], [.int (zI 2), .int (zI 1), .ref 143], es1)) i_196_58 (by rfl) ?_
              refine x_call (vs := [.ref 143, .int (zI 1), .int (zI 2)]) (rs := []) i_196_59 rfl (fun _ => rfl) rfl rfl rfl rfl rfl (pCall_v (p := 79) hs_es1 rfl rfl rfl rfl rfl (by decide) rfl rfl rfl rfl rfl) ?_
              show aW _ _ _ _ _ _ (0, [some (.ref 143), some (.int (zI 1)), some (.int (zI 2))], [], es1)
              refine x0 (r := (1, [some (.ref 143), some (.int (zI 1)), some (.int (zI 2))], [.int (zI 1)], es1)) i_194_0 rfl ?_
              refine x_ifF i_194_1 (by unfold i32 iLO iHI; omega) rfl (by simp only [zC, cR]; omega) ?_
              refine x0 (r := (5, [some (.ref 143), some (.int (zI 1)), some (.int (zI 2))], [.ref 143], es1)) i_194_4 rfl ?_
              refine x0 (r := (6, [some (.ref 143), some (.int (zI 1)), some (.int (zI 2))], [.int (zI 2), .ref 143], es1)) i_194_5 rfl ?_
              refine x_puti (p := 79) (ty := .int) i_194_6 hs_es1 rfl rfl rfl (Or.inl rfl) ?_
              obtain ⟨es14, e_es14⟩ : ∃ z : PH, z = sI es1 79 0 (.int (zI 2)) := ⟨_, rfl⟩
              have hs_es14 : sh es14 := by rw [e_es14]; exact sh_sI hs_es1 (p := 79) (b := 0) rfl rfl
              have hT_es14 : hOK tT es14 := by rw [e_es14]; exact hOK_sI hT_es1 (p := 79) (b := 0) (lo := iLO) (hi := iHI) rfl rfl (i32_rng _)
              rw [← e_es14]
              refine x0 (r := (10, [some (.ref 143), some (.int (zI 1)), some (.int (zI 2))], [.int (zI 1)], es14)) i_194_9 rfl ?_
              refine x_ret (v := some (.int (zI 1))) i_194_10 rfl (fun _ => rfl) rfl rfl (pFin_b (by omega)) ?_
              show aW _ _ _ _ _ _ (62, [some (.ref 143), some (.int (zI sq)), some (.int (zI kd)), some (.int (zI sd))], [.int (zI 1)], es14)
              refine x_ifF i_196_62 (by unfold i32 iLO iHI; omega) rfl (by simp only [zC, cR]; omega) ?_
              refine x_ret (v := none) i_196_65 rfl (fun _ => rfl) rfl rfl rfl ?_
              exact K6 es1 e_es1 c2 c4 c6 v8 e_v8 c9 c11 c13 es14 e_es14
            · refine x_cmpF i_193_2 (by unfold i32 iLO iHI; omega) (by unfold i32 iLO iHI; omega) rfl (by simp only [zC, cR]; omega) ?_
              refine x0 (r := (6, [some (.int (zI sd)), some (.int (zI 0)), some (.int (zI 1))], [.int (zI sd)], es1)) i_193_5 rfl ?_
              refine x0 (r := (7, [some (.int (zI sd)), some (.int (zI 0)), some (.int (zI 1))], [.int (zI 1), .int (zI sd)], es1)) i_193_6 rfl ?_
              by_cases c15 : 1 < sd
              · refine x_cmpT i_193_7 (by unfold i32 iLO iHI; omega) (by unfold i32 iLO iHI; omega) rfl (by simp only [zC, cR]; omega) ?_
                refine x0 (r := (15, [some (.int (zI sd)), some (.int (zI 0)), some (.int (zI 1))], [.int (zI 0)], es1)) i_193_14 (by rfl) ?_
                refine x_ret (v := some (.int (zI 0))) i_193_15 rfl (fun _ => rfl) rfl rfl (pFin_b (by omega)) ?_
                show aW _ _ _ _ _ _ (50, [some (.ref 143), some (.int (zI sq)), some (.int (zI kd)), some (.int (zI sd))], [.int (zI 0), .ref 143], es1)
                refine x_ifF i_196_50 (by unfold i32 iLO iHI; omega) rfl (by simp only [zC, cR]; omega) ?_
                refine x0 (r := (54, [some (.ref 143), some (.int (zI sq)), some (.int (zI kd)), some (.int (zI sd))], [.int (zI 1), .ref 143], es1)) i_196_53 (by rfl) ?_
                refine x0 (r := (58, [some (.ref 143), some (.int (zI sq)), some (.int (zI kd)), some (.int (zI sd))], [.int (zI 1), .ref 143], es1)) i_196_54 rfl ?_
                refine x0 (r := (59, [some (.ref 143), some (.int (zI sq)), some (.int (zI kd)), some (.int (zI sd))], [.int (zI 2), .int (zI 1), .ref 143], es1)) i_196_58 (by rfl) ?_
                refine x_call (vs := [.ref 143, .int (zI 1), .int (zI 2)]) (rs := []) i_196_59 rfl (fun _ => rfl) rfl rfl rfl rfl rfl (pCall_v (p := 79) hs_es1 rfl rfl rfl rfl rfl (by decide) rfl rfl rfl rfl rfl) ?_
                show aW _ _ _ _ _ _ (0, [some (.ref 143), some (.int (zI 1)), some (.int (zI 2))], [], es1)
                refine x0 (r := (1, [some (.ref 143), some (.int (zI 1)), some (.int (zI 2))], [.int (zI 1)], es1)) i_194_0 rfl ?_
                refine x_ifF i_194_1 (by unfold i32 iLO iHI; omega) rfl (by simp only [zC, cR]; omega) ?_
                refine x0 (r := (5, [some (.ref 143), some (.int (zI 1)), some (.int (zI 2))], [.ref 143], es1)) i_194_4 rfl ?_
                refine x0 (r := (6, [some (.ref 143), some (.int (zI 1)), some (.int (zI 2))], [.int (zI 2), .ref 143], es1)) i_194_5 rfl ?_
                refine x_puti (p := 79) (ty := .int) i_194_6 hs_es1 rfl rfl rfl (Or.inl rfl) ?_
                obtain ⟨es16, e_es16⟩ : ∃ z : PH, z = sI es1 79 0 (.int (zI 2)) := ⟨_, rfl⟩
                have hs_es16 : sh es16 := by rw [e_es16]; exact sh_sI hs_es1 (p := 79) (b := 0) rfl rfl
                have hT_es16 : hOK tT es16 := by rw [e_es16]; exact hOK_sI hT_es1 (p := 79) (b := 0) (lo := iLO) (hi := iHI) rfl rfl (i32_rng _)
                rw [← e_es16]
                refine x0 (r := (10, [some (.ref 143), some (.int (zI 1)), some (.int (zI 2))], [.int (zI 1)], es16)) i_194_9 rfl ?_
                refine x_ret (v := some (.int (zI 1))) i_194_10 rfl (fun _ => rfl) rfl rfl (pFin_b (by omega)) ?_
                show aW _ _ _ _ _ _ (62, [some (.ref 143), some (.int (zI sq)), some (.int (zI kd)), some (.int (zI sd))], [.int (zI 1)], es16)
                refine x_ifF i_196_62 (by unfold i32 iLO iHI; omega) rfl (by simp only [zC, cR]; omega) ?_
                refine x_ret (v := none) i_196_65 rfl (fun _ => rfl) rfl rfl rfl ?_
                exact K7 es1 e_es1 c2 c4 c6 v8 e_v8 c9 c11 c13 c15 es16 e_es16
              · refine x_cmpF i_193_7 (by unfold i32 iLO iHI; omega) (by unfold i32 iLO iHI; omega) rfl (by simp only [zC, cR]; omega) ?_
                refine x0 (r := (11, [some (.int (zI sd)), some (.int (zI 0)), some (.int (zI 1))], [.int (zI 1)], es1)) i_193_10 (by rfl) ?_
                refine x0 (r := (15, [some (.int (zI sd)), some (.int (zI 0)), some (.int (zI 1))], [.int (zI 1)], es1)) i_193_11 rfl ?_
                refine x_ret (v := some (.int (zI 1))) i_193_15 rfl (fun _ => rfl) rfl rfl (pFin_b (by omega)) ?_
                show aW _ _ _ _ _ _ (50, [some (.ref 143), some (.int (zI sq)), some (.int (zI kd)), some (.int (zI sd))], [.int (zI 1), .ref 143], es1)
                refine x_ifT i_196_50 (by unfold i32 iLO iHI; omega) rfl (by simp only [zC, cR]; omega) ?_
                refine x0 (r := (58, [some (.ref 143), some (.int (zI sq)), some (.int (zI kd)), some (.int (zI sd))], [.int (zI 0), .ref 143], es1)) i_196_57 (by rfl) ?_
                refine x0 (r := (59, [some (.ref 143), some (.int (zI sq)), some (.int (zI kd)), some (.int (zI sd))], [.int (zI 2), .int (zI 0), .ref 143], es1)) i_196_58 (by rfl) ?_
                refine x_call (vs := [.ref 143, .int (zI 0), .int (zI 2)]) (rs := []) i_196_59 rfl (fun _ => rfl) rfl rfl rfl rfl rfl (pCall_v (p := 79) hs_es1 rfl rfl rfl rfl rfl (by decide) rfl rfl rfl rfl rfl) ?_
                show aW _ _ _ _ _ _ (0, [some (.ref 143), some (.int (zI 0)), some (.int (zI 2))], [], es1)
                refine x0 (r := (1, [some (.ref 143), some (.int (zI 0)), some (.int (zI 2))], [.int (zI 0)], es1)) i_194_0 rfl ?_
                refine x_ifT i_194_1 (by unfold i32 iLO iHI; omega) rfl (by simp only [zC, cR]; omega) ?_
                refine x0 (r := (10, [some (.ref 143), some (.int (zI 0)), some (.int (zI 2))], [.int (zI 0)], es1)) i_194_9 rfl ?_
                refine x_ret (v := some (.int (zI 0))) i_194_10 rfl (fun _ => rfl) rfl rfl (pFin_b (by omega)) ?_
                show aW _ _ _ _ _ _ (62, [some (.ref 143), some (.int (zI sq)), some (.int (zI kd)), some (.int (zI sd))], [.int (zI 0)], es1)
                refine x_ifT i_196_62 (by unfold i32 iLO iHI; omega) rfl (by simp only [zC, cR]; omega) ?_
                refine x0 (r := (67, [some (.ref 143), some (.int (zI sq)), some (.int (zI kd)), some (.int (zI sd))], [.ref 143], es1)) i_196_66 rfl ?_
                refine x_getr (p := 79) (k := 144) i_196_67 hs_es1 rfl rfl ?_
                show aW _ _ _ _ _ _ (70, [some (.ref 143), some (.int (zI sq)), some (.int (zI kd)), some (.int (zI sd))], [.ref 144], es1)
                refine x0 (r := (72, [some (.ref 143), some (.int (zI sq)), some (.int (zI kd)), some (.int (zI sd))], [.int (zI 13), .ref 144], es1)) i_196_70 (by rfl) ?_
                refine x0 (r := (73, [some (.ref 143), some (.int (zI sq)), some (.int (zI kd)), some (.int (zI sd))], [.int (zI sq), .int (zI 13), .ref 144], es1)) i_196_72 rfl ?_
                refine x_iadd i_196_73 ?_
                refine x0 (r := (75, [some (.ref 143), some (.int (zI sq)), some (.int (zI kd)), some (.int (zI sd))], [.int (zI kd), .int (zI (13 + sq)), .ref 144], es1)) i_196_74 rfl ?_
                refine x0 (r := (76, [some (.ref 143), some (.int (zI sq)), some (.int (zI kd)), some (.int (zI sd))], [.int (zI sd), .int (zI kd), .int (zI (13 + sq)), .ref 144], es1)) i_196_75 rfl ?_
                refine x_call (vs := [.int (zI kd), .int (zI sd)]) (rs := [.int (zI (13 + sq)), .ref 144]) i_196_76 rfl (fun _ => rfl) rfl rfl rfl rfl rfl rfl ?_
                show aW _ _ _ _ _ _ (0, [some (.int (zI kd)), some (.int (zI sd))], [], es1)
                refine x0 (r := (1, [some (.int (zI kd)), some (.int (zI sd))], [.int (zI kd)], es1)) i_200_0 rfl ?_
                refine x_ifT i_200_1 (by unfold i32 iLO iHI; omega) rfl (by simp only [zC, cR]; omega) ?_
                refine x0 (r := (9, [some (.int (zI kd)), some (.int (zI sd))], [.int (zI 2)], es1)) i_200_8 (by rfl) ?_
                refine x0 (r := (10, [some (.int (zI kd)), some (.int (zI sd))], [.int (zI kd), .int (zI 2)], es1)) i_200_9 rfl ?_
                refine x_imul i_200_10 ?_
                refine x0 (r := (12, [some (.int (zI kd)), some (.int (zI sd))], [.int (zI sd), .int (zI (2 * kd))], es1)) i_200_11 rfl ?_
                refine x_iadd i_200_12 ?_
                refine x_ret (v := some (.int (zI ((2 * kd) + sd)))) i_200_13 rfl (fun _ => rfl) rfl rfl rfl ?_
                show aW _ _ _ _ _ _ (79, [some (.ref 143), some (.int (zI sq)), some (.int (zI kd)), some (.int (zI sd))], [.int (zI ((2 * kd) + sd)), .int (zI (13 + sq)), .ref 144], es1)
                refine x_iast (p := 80) i_196_79 hs_es1 rfl (by unfold i32 iLO iHI; omega) (by omega) (by omega) ?_
                obtain ⟨es17, e_es17⟩ : ∃ z : PH, z = sA es1 80 (13 + sq).toNat (zI ((2 * kd) + sd)) := ⟨_, rfl⟩
                have hs_es17 : sh es17 := by rw [e_es17]; exact sh_sA hs_es1
                rw [← e_es17]
                refine x_ret (v := none) i_196_80 rfl (fun _ => rfl) rfl rfl rfl ?_
                exact K8 es1 e_es1 c2 c4 c6 v8 e_v8 c9 c11 c13 c15 es17 e_es17
