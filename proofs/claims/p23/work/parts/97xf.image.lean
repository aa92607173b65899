/-! THE IMAGE, and back, of both sides; printed by wip/rel/image.py -/
theorem i_15_0 : iRow 15 0 = some (.iload_n 1, 0, 0, 0, (some (Jvm.ClassFile.FieldType.boolean))) := rfl
theorem i_15_1 : iRow 15 1 = some (.ifCond .lt 14, 0, 0, 0, (some (Jvm.ClassFile.FieldType.boolean))) := rfl
theorem i_15_4 : iRow 15 4 = some (.iload_n 1, 0, 0, 0, (some (Jvm.ClassFile.FieldType.boolean))) := rfl
theorem i_15_5 : iRow 15 5 = some (.aload_n 0, 0, 0, 0, (some (Jvm.ClassFile.FieldType.boolean))) := rfl
theorem i_15_6 : iRow 15 6 = some (.getfield 12, 137, 11, 0, (some (Jvm.ClassFile.FieldType.boolean))) := rfl
theorem i_15_9 : iRow 15 9 = some (.getfield 75, 3, 8, 1, (some (Jvm.ClassFile.FieldType.boolean))) := rfl
theorem i_15_12 : iRow 15 12 = some (.if_icmp .le 5, 0, 0, 0, (some (Jvm.ClassFile.FieldType.boolean))) := rfl
theorem i_15_15 : iRow 15 15 = some (.iconst 0, 0, 0, 0, (some (Jvm.ClassFile.FieldType.boolean))) := rfl
theorem i_15_16 : iRow 15 16 = some (.ireturn, 0, 0, 0, (some (Jvm.ClassFile.FieldType.boolean))) := rfl
theorem i_15_17 : iRow 15 17 = some (.aload_n 0, 0, 0, 0, (some (Jvm.ClassFile.FieldType.boolean))) := rfl
theorem i_15_18 : iRow 15 18 = some (.getfield 12, 137, 11, 0, (some (Jvm.ClassFile.FieldType.boolean))) := rfl
theorem i_15_21 : iRow 15 21 = some (.iload_n 1, 0, 0, 0, (some (Jvm.ClassFile.FieldType.boolean))) := rfl
theorem i_15_22 : iRow 15 22 = some (.putfield 75, 3, 8, 1, (some (Jvm.ClassFile.FieldType.boolean))) := rfl
theorem i_15_25 : iRow 15 25 = some (.iconst 1, 0, 0, 0, (some (Jvm.ClassFile.FieldType.boolean))) := rfl
theorem i_15_26 : iRow 15 26 = some (.ireturn, 0, 0, 0, (some (Jvm.ClassFile.FieldType.boolean))) := rfl
theorem i_70_0 : iRow 70 0 = some (.aload_n 0, 0, 0, 0, none) := rfl
theorem i_70_1 : iRow 70 1 = some (.getfield 32, 140, 11, 3, none) := rfl
theorem i_70_4 : iRow 70 4 = some (.aload_n 0, 0, 0, 0, none) := rfl
theorem i_70_5 : iRow 70 5 = some (.getfield 28, 139, 11, 2, none) := rfl
theorem i_70_8 : iRow 70 8 = some (.invokevirtual 373, 76, 71, 1, none) := rfl
theorem i_70_11 : iRow 70 11 = some (.aload_n 0, 0, 0, 0, none) := rfl
theorem i_70_12 : iRow 70 12 = some (.iconst 1, 0, 0, 0, none) := rfl
theorem i_70_13 : iRow 70 13 = some (.putfield 376, 146, 11, 9, none) := rfl
theorem i_70_16 : iRow 70 16 = some (.return_, 0, 0, 0, none) := rfl
theorem i_71_0 : iRow 71 0 = some (.aload_n 0, 0, 0, 0, none) := rfl
theorem i_71_1 : iRow 71 1 = some (.aload_n 1, 0, 0, 0, none) := rfl
theorem i_71_2 : iRow 71 2 = some (.getfield 46, 19, 1, 0, none) := rfl
theorem i_71_5 : iRow 71 5 = some (.putfield 46, 19, 1, 0, none) := rfl
theorem i_71_8 : iRow 71 8 = some (.aload_n 1, 0, 0, 0, none) := rfl
theorem i_71_9 : iRow 71 9 = some (.getfield 9, 22, 1, 1, none) := rfl
theorem i_71_12 : iRow 71 12 = some (.aload_n 0, 0, 0, 0, none) := rfl
theorem i_71_13 : iRow 71 13 = some (.getfield 9, 22, 1, 1, none) := rfl
theorem i_71_16 : iRow 71 16 = some (.invokestatic 49, 25, 20, 3, none) := rfl
theorem i_71_19 : iRow 71 19 = some (.aload_n 1, 0, 0, 0, none) := rfl
theorem i_71_20 : iRow 71 20 = some (.getfield 15, 23, 1, 2, none) := rfl
theorem i_71_23 : iRow 71 23 = some (.aload_n 0, 0, 0, 0, none) := rfl
theorem i_71_24 : iRow 71 24 = some (.getfield 15, 23, 1, 2, none) := rfl
theorem i_71_27 : iRow 71 27 = some (.invokestatic 49, 25, 20, 3, none) := rfl
theorem i_71_30 : iRow 71 30 = some (.aload_n 1, 0, 0, 0, none) := rfl
theorem i_71_31 : iRow 71 31 = some (.getfield 18, 25, 1, 3, none) := rfl
theorem i_71_34 : iRow 71 34 = some (.aload_n 0, 0, 0, 0, none) := rfl
theorem i_71_35 : iRow 71 35 = some (.getfield 18, 25, 1, 3, none) := rfl
theorem i_71_38 : iRow 71 38 = some (.invokestatic 49, 25, 20, 3, none) := rfl
theorem i_71_41 : iRow 71 41 = some (.aload_n 1, 0, 0, 0, none) := rfl
theorem i_71_42 : iRow 71 42 = some (.getfield 21, 26, 1, 4, none) := rfl
theorem i_71_45 : iRow 71 45 = some (.aload_n 0, 0, 0, 0, none) := rfl
theorem i_71_46 : iRow 71 46 = some (.getfield 21, 26, 1, 4, none) := rfl
theorem i_71_49 : iRow 71 49 = some (.invokestatic 49, 25, 20, 3, none) := rfl
theorem i_71_52 : iRow 71 52 = some (.aload_n 0, 0, 0, 0, none) := rfl
theorem i_71_53 : iRow 71 53 = some (.aload_n 1, 0, 0, 0, none) := rfl
theorem i_71_54 : iRow 71 54 = some (.getfield 53, 30, 1, 5, none) := rfl
theorem i_71_57 : iRow 71 57 = some (.putfield 53, 30, 1, 5, none) := rfl
theorem i_71_60 : iRow 71 60 = some (.aload_n 1, 0, 0, 0, none) := rfl
theorem i_71_61 : iRow 71 61 = some (.getfield 24, 33, 1, 6, none) := rfl
theorem i_71_64 : iRow 71 64 = some (.aload_n 0, 0, 0, 0, none) := rfl
theorem i_71_65 : iRow 71 65 = some (.getfield 24, 33, 1, 6, none) := rfl
theorem i_71_68 : iRow 71 68 = some (.invokestatic 49, 25, 20, 3, none) := rfl
theorem i_71_71 : iRow 71 71 = some (.aload_n 1, 0, 0, 0, none) := rfl
theorem i_71_72 : iRow 71 72 = some (.getfield 27, 36, 1, 7, none) := rfl
theorem i_71_75 : iRow 71 75 = some (.aload_n 0, 0, 0, 0, none) := rfl
theorem i_71_76 : iRow 71 76 = some (.getfield 27, 36, 1, 7, none) := rfl
theorem i_71_79 : iRow 71 79 = some (.invokestatic 49, 25, 20, 3, none) := rfl
theorem i_71_82 : iRow 71 82 = some (.aload_n 1, 0, 0, 0, none) := rfl
theorem i_71_83 : iRow 71 83 = some (.getfield 30, 37, 1, 8, none) := rfl
theorem i_71_86 : iRow 71 86 = some (.aload_n 0, 0, 0, 0, none) := rfl
theorem i_71_87 : iRow 71 87 = some (.getfield 30, 37, 1, 8, none) := rfl
theorem i_71_90 : iRow 71 90 = some (.invokestatic 49, 25, 20, 3, none) := rfl
theorem i_71_93 : iRow 71 93 = some (.aload_n 1, 0, 0, 0, none) := rfl
theorem i_71_94 : iRow 71 94 = some (.getfield 33, 38, 1, 9, none) := rfl
theorem i_71_97 : iRow 71 97 = some (.aload_n 0, 0, 0, 0, none) := rfl
theorem i_71_98 : iRow 71 98 = some (.getfield 33, 38, 1, 9, none) := rfl
theorem i_71_101 : iRow 71 101 = some (.invokestatic 49, 25, 20, 3, none) := rfl
theorem i_71_104 : iRow 71 104 = some (.aload_n 0, 0, 0, 0, none) := rfl
theorem i_71_105 : iRow 71 105 = some (.aload_n 1, 0, 0, 0, none) := rfl
theorem i_71_106 : iRow 71 106 = some (.getfield 36, 41, 1, 10, none) := rfl
theorem i_71_109 : iRow 71 109 = some (.putfield 36, 41, 1, 10, none) := rfl
theorem i_71_112 : iRow 71 112 = some (.aload_n 0, 0, 0, 0, none) := rfl
theorem i_71_113 : iRow 71 113 = some (.aload_n 1, 0, 0, 0, none) := rfl
theorem i_71_114 : iRow 71 114 = some (.getfield 56, 44, 1, 11, none) := rfl
theorem i_71_117 : iRow 71 117 = some (.putfield 56, 44, 1, 11, none) := rfl
theorem i_71_120 : iRow 71 120 = some (.aload_n 1, 0, 0, 0, none) := rfl
theorem i_71_121 : iRow 71 121 = some (.getfield 40, 47, 1, 12, none) := rfl
theorem i_71_124 : iRow 71 124 = some (.aload_n 0, 0, 0, 0, none) := rfl
theorem i_71_125 : iRow 71 125 = some (.getfield 40, 47, 1, 12, none) := rfl
theorem i_71_128 : iRow 71 128 = some (.invokestatic 49, 25, 20, 3, none) := rfl
theorem i_71_131 : iRow 71 131 = some (.aload_n 0, 0, 0, 0, none) := rfl
theorem i_71_132 : iRow 71 132 = some (.aload_n 1, 0, 0, 0, none) := rfl
theorem i_71_133 : iRow 71 133 = some (.getfield 59, 49, 1, 13, none) := rfl
theorem i_71_136 : iRow 71 136 = some (.putfield 59, 49, 1, 13, none) := rfl
theorem i_71_139 : iRow 71 139 = some (.aload_n 1, 0, 0, 0, none) := rfl
theorem i_71_140 : iRow 71 140 = some (.getfield 43, 51, 1, 14, none) := rfl
theorem i_71_143 : iRow 71 143 = some (.aload_n 0, 0, 0, 0, none) := rfl
theorem i_71_144 : iRow 71 144 = some (.getfield 43, 51, 1, 14, none) := rfl
theorem i_71_147 : iRow 71 147 = some (.invokestatic 49, 25, 20, 3, none) := rfl
theorem i_71_150 : iRow 71 150 = some (.return_, 0, 0, 0, none) := rfl
theorem i_72_0 : iRow 72 0 = some (.aload_n 0, 0, 0, 0, (some (Jvm.ClassFile.FieldType.boolean))) := rfl
theorem i_72_1 : iRow 72 1 = some (.getfield 376, 146, 11, 9, (some (Jvm.ClassFile.FieldType.boolean))) := rfl
theorem i_72_4 : iRow 72 4 = some (.ifCond .ne 5, 0, 0, 0, (some (Jvm.ClassFile.FieldType.boolean))) := rfl
theorem i_72_7 : iRow 72 7 = some (.iconst 0, 0, 0, 0, (some (Jvm.ClassFile.FieldType.boolean))) := rfl
theorem i_72_8 : iRow 72 8 = some (.ireturn, 0, 0, 0, (some (Jvm.ClassFile.FieldType.boolean))) := rfl
theorem i_72_9 : iRow 72 9 = some (.aload_n 0, 0, 0, 0, (some (Jvm.ClassFile.FieldType.boolean))) := rfl
theorem i_72_10 : iRow 72 10 = some (.getfield 28, 139, 11, 2, (some (Jvm.ClassFile.FieldType.boolean))) := rfl
theorem i_72_13 : iRow 72 13 = some (.aload_n 0, 0, 0, 0, (some (Jvm.ClassFile.FieldType.boolean))) := rfl
theorem i_72_14 : iRow 72 14 = some (.getfield 32, 140, 11, 3, (some (Jvm.ClassFile.FieldType.boolean))) := rfl
theorem i_72_17 : iRow 72 17 = some (.invokevirtual 373, 76, 71, 1, (some (Jvm.ClassFile.FieldType.boolean))) := rfl
theorem i_72_20 : iRow 72 20 = some (.aload_n 0, 0, 0, 0, (some (Jvm.ClassFile.FieldType.boolean))) := rfl
theorem i_72_21 : iRow 72 21 = some (.invokevirtual 104, 78, 73, 1, (some (Jvm.ClassFile.FieldType.boolean))) := rfl
theorem i_72_24 : iRow 72 24 = some (.iconst 1, 0, 0, 0, (some (Jvm.ClassFile.FieldType.boolean))) := rfl
theorem i_72_25 : iRow 72 25 = some (.ireturn, 0, 0, 0, (some (Jvm.ClassFile.FieldType.boolean))) := rfl
theorem i_172_0 : iRow 172 0 = some (.aload_n 0, 0, 0, 0, (some (Jvm.ClassFile.FieldType.boolean))) := rfl
theorem i_172_1 : iRow 172 1 = some (.iconst 0, 0, 0, 0, (some (Jvm.ClassFile.FieldType.boolean))) := rfl
theorem i_172_2 : iRow 172 2 = some (.putfield 3, 164, 12, 0, (some (Jvm.ClassFile.FieldType.boolean))) := rfl
theorem i_172_5 : iRow 172 5 = some (.iload_n 1, 0, 0, 0, (some (Jvm.ClassFile.FieldType.boolean))) := rfl
theorem i_172_6 : iRow 172 6 = some (.ifCond .lt 11, 0, 0, 0, (some (Jvm.ClassFile.FieldType.boolean))) := rfl
theorem i_172_9 : iRow 172 9 = some (.iload_n 1, 0, 0, 0, (some (Jvm.ClassFile.FieldType.boolean))) := rfl
theorem i_172_10 : iRow 172 10 = some (.aload_n 0, 0, 0, 0, (some (Jvm.ClassFile.FieldType.boolean))) := rfl
theorem i_172_11 : iRow 172 11 = some (.getfield 118, 169, 12, 5, (some (Jvm.ClassFile.FieldType.boolean))) := rfl
theorem i_172_14 : iRow 172 14 = some (.if_icmp .le 5, 0, 0, 0, (some (Jvm.ClassFile.FieldType.boolean))) := rfl
theorem i_172_17 : iRow 172 17 = some (.iconst 0, 0, 0, 0, (some (Jvm.ClassFile.FieldType.boolean))) := rfl
theorem i_172_18 : iRow 172 18 = some (.ireturn, 0, 0, 0, (some (Jvm.ClassFile.FieldType.boolean))) := rfl
theorem i_172_19 : iRow 172 19 = some (.aload_n 0, 0, 0, 0, (some (Jvm.ClassFile.FieldType.boolean))) := rfl
theorem i_172_20 : iRow 172 20 = some (.iload_n 1, 0, 0, 0, (some (Jvm.ClassFile.FieldType.boolean))) := rfl
theorem i_172_21 : iRow 172 21 = some (.putfield 118, 169, 12, 5, (some (Jvm.ClassFile.FieldType.boolean))) := rfl
theorem i_172_24 : iRow 172 24 = some (.iconst 1, 0, 0, 0, (some (Jvm.ClassFile.FieldType.boolean))) := rfl
theorem i_172_25 : iRow 172 25 = some (.ireturn, 0, 0, 0, (some (Jvm.ClassFile.FieldType.boolean))) := rfl
theorem s_xim {O : pOut} {d kc ks : Nat} {Q : pRes → Prop} {es : PH} (hs_es : sh es)
    (K1 : ∀ v1 : Int, v1 = (gI es 7 0).toInt → ∀ es2 : PH, es2 = sI es 18 0 (.int (zI v1)) → ∀ es3 : PH, es3 = sR es2 19 (va_cpy (gA es2 8) (gA es2 19) 0 0 5) → ∀ es4 : PH, es4 = sR es3 20 (va_cpy (gA es3 9) (gA es3 20) 0 0 5) → ∀ es5 : PH, es5 = sR es4 21 (va_cpy (gA es4 10) (gA es4 21) 0 0 60) → ∀ es6 : PH, es6 = sR es5 22 (va_cpy (gA es5 11) (gA es5 22) 0 0 36) → ∀ v7 : Int, v7 = (gI es6 7 5).toInt → ∀ es8 : PH, es8 = sI es6 18 5 (.int (zI v7)) → ∀ es9 : PH, es9 = sR es8 23 (va_cpy (gA es8 12) (gA es8 23) 0 0 3) → ∀ es10 : PH, es10 = sR es9 24 (va_cpy (gA es9 13) (gA es9 24) 0 0 3) → ∀ es11 : PH, es11 = sR es10 25 (va_cpy (gA es10 14) (gA es10 25) 0 0 288) → ∀ es12 : PH, es12 = sR es11 26 (va_cpy (gA es11 15) (gA es11 26) 0 0 8) → ∀ v13 : Int, v13 = (gI es12 7 10).toInt → ∀ es14 : PH, es14 = sI es12 18 10 (.int (zI v13)) → ∀ v15 : Int, v15 = (gI es14 7 11).toInt → ∀ es16 : PH, es16 = sI es14 18 11 (.int (zI v15)) → ∀ es17 : PH, es17 = sR es16 27 (va_cpy (gA es16 16) (gA es16 27) 0 0 30) → ∀ v18 : Int, v18 = (gI es17 7 13).toInt → ∀ es19 : PH, es19 = sI es17 18 13 (.int (zI v18)) → ∀ es20 : PH, es20 = sR es19 28 (va_cpy (gA es19 17) (gA es19 28) 0 0 400) → ∀ es21 : PH, es21 = sI es20 0 9 (.int (zI 1)) → Q (.inl (none), es21, kc, ks)) :
    aW O (d + 3) 70 kc ks Q (0, [some (.ref 64)], [], es) := by
  refine x0 (r := (1, [some (.ref 64)], [.ref 64], es)) i_70_0 rfl ?_
  refine x_getr (p := 0) (k := 82) i_70_1 hs_es rfl rfl ?_
  show aW _ _ _ _ _ _ (4, [some (.ref 64)], [.ref 82], es)
  refine x0 (r := (5, [some (.ref 64)], [.ref 64, .ref 82], es)) i_70_4 rfl ?_
  refine x_getr (p := 0) (k := 71) i_70_5 hs_es rfl rfl ?_
  show aW _ _ _ _ _ _ (8, [some (.ref 64)], [.ref 71, .ref 82], es)
  refine x_call (vs := [.ref 82, .ref 71]) (rs := []) i_70_8 rfl (fun _ => rfl) rfl rfl rfl rfl rfl (pCall_v (p := 18) hs_es rfl rfl rfl rfl rfl (by decide) rfl rfl rfl rfl rfl) ?_
  show aW _ _ _ _ _ _ (0, [some (.ref 82), some (.ref 71)], [], es)
  refine x0 (r := (1, [some (.ref 82), some (.ref 71)], [.ref 82], es)) i_71_0 rfl ?_
  refine x0 (r := (2, [some (.ref 82), some (.ref 71)], [.ref 71, .ref 82], es)) i_71_1 rfl ?_
  refine x_geti (p := 7) i_71_2 hs_es rfl rfl ?_
  obtain ⟨v1, e_v1⟩ : ∃ z : Int, z = (gI es 7 0).toInt := ⟨_, rfl⟩
  rw [← e_v1]
  have r_v1 : iLO ≤ v1 ∧ v1 ≤ iHI := by rw [e_v1]; exact i32_rng _
  unfold iLO iHI at r_v1
  refine x_puti (p := 18) (ty := .int) i_71_5 hs_es rfl rfl rfl (Or.inl rfl) ?_
  obtain ⟨es2, e_es2⟩ : ∃ z : PH, z = sI es 18 0 (.int (zI v1)) := ⟨_, rfl⟩
  have hs_es2 : sh es2 := by rw [e_es2]; exact sh_sI hs_es (p := 18) (b := 0) rfl rfl
  rw [← e_es2]
  refine x0 (r := (9, [some (.ref 82), some (.ref 71)], [.ref 71], es2)) i_71_8 rfl ?_
  refine x_getr (p := 7) (k := 72) i_71_9 hs_es2 rfl rfl ?_
  show aW _ _ _ _ _ _ (12, [some (.ref 82), some (.ref 71)], [.ref 72], es2)
  refine x0 (r := (13, [some (.ref 82), some (.ref 71)], [.ref 82, .ref 72], es2)) i_71_12 rfl ?_
  refine x_getr (p := 18) (k := 83) i_71_13 hs_es2 rfl rfl ?_
  show aW _ _ _ _ _ _ (16, [some (.ref 82), some (.ref 71)], [.ref 83, .ref 72], es2)
  refine x_call (vs := [.ref 72, .ref 83]) (rs := []) i_71_16 rfl (fun _ => rfl) rfl rfl rfl rfl rfl rfl ?_
  show aW _ _ _ _ _ _ (0, [some (.ref 72), some (.ref 83)], [], es2)
  refine x0 (r := (1, [some (.ref 72), some (.ref 83)], [.ref 72], es2)) i_20_0 rfl ?_
  refine x0 (r := (2, [some (.ref 72), some (.ref 83)], [.int (zI 0), .ref 72], es2)) i_20_1 (by rfl) ?_
  refine x0 (r := (3, [some (.ref 72), some (.ref 83)], [.ref 83, .int (zI 0), .ref 72], es2)) i_20_2 rfl ?_
  refine x0 (r := (4, [some (.ref 72), some (.ref 83)], [.int (zI 0), .ref 83, .int (zI 0), .ref 72], es2)) i_20_3 (by rfl) ?_
  refine x0 (r := (5, [some (.ref 72), some (.ref 83)], [.ref 72, .int (zI 0), .ref 83, .int (zI 0), .ref 72], es2)) i_20_4 rfl ?_
  refine x_alen (p := 8) (n := 5) i_20_5 hs_es2 rfl ?_
  refine x0 (r := (7, [some (.ref 72), some (.ref 83)], [.ref 83, .int (zI 5), .int (zI 0), .ref 83, .int (zI 0), .ref 72], es2)) i_20_6 rfl ?_
  refine x_alen (p := 19) (n := 5) i_20_7 hs_es2 rfl ?_
  refine x_min i_20_8 (by unfold i32 iLO iHI; omega) (by unfold i32 iLO iHI; omega) (Nat.le_of_ble_eq_true rfl) ?_
  show aW _ _ _ _ _ _ (11, [some (.ref 72), some (.ref 83)], [.int (zI 5), .int (zI 0), .ref 83, .int (zI 0), .ref 72], es2)
  refine x_acp (p := 8) (p2 := 19) (n := 5) i_20_11 hs_es2 rfl rfl (by decide) (Nat.le_of_ble_eq_true rfl) ?_
  obtain ⟨es3, e_es3⟩ : ∃ z : PH, z = sR es2 19 (va_cpy (gA es2 8) (gA es2 19) 0 0 5) := ⟨_, rfl⟩
  have hs_es3 : sh es3 := by rw [e_es3]; exact sh_sR hs_es2
  rw [← e_es3]
  refine x_ret (v := none) i_20_14 rfl (fun _ => rfl) rfl rfl rfl ?_
  show aW _ _ _ _ _ _ (19, [some (.ref 82), some (.ref 71)], [], es3)
  refine x0 (r := (20, [some (.ref 82), some (.ref 71)], [.ref 71], es3)) i_71_19 rfl ?_
  refine x_getr (p := 7) (k := 73) i_71_20 hs_es3 rfl rfl ?_
  show aW _ _ _ _ _ _ (23, [some (.ref 82), some (.ref 71)], [.ref 73], es3)
  refine x0 (r := (24, [some (.ref 82), some (.ref 71)], [.ref 82, .ref 73], es3)) i_71_23 rfl ?_
  refine x_getr (p := 18) (k := 84) i_71_24 hs_es3 rfl rfl ?_
  show aW _ _ _ _ _ _ (27, [some (.ref 82), some (.ref 71)], [.ref 84, .ref 73], es3)
  refine x_call (vs := [.ref 73, .ref 84]) (rs := []) i_71_27 rfl (fun _ => rfl) rfl rfl rfl rfl rfl rfl ?_
  show aW _ _ _ _ _ _ (0, [some (.ref 73), some (.ref 84)], [], es3)
  refine x0 (r := (1, [some (.ref 73), some (.ref 84)], [.ref 73], es3)) i_20_0 rfl ?_
  refine x0 (r := (2, [some (.ref 73), some (.ref 84)], [.int (zI 0), .ref 73], es3)) i_20_1 (by rfl) ?_
  refine x0 (r := (3, [some (.ref 73), some (.ref 84)], [.ref 84, .int (zI 0), .ref 73], es3)) i_20_2 rfl ?_
  refine x0 (r := (4, [some (.ref 73), some (.ref 84)], [.int (zI 0), .ref 84, .int (zI 0), .ref 73], es3)) i_20_3 (by rfl) ?_
  refine x0 (r := (5, [some (.ref 73), some (.ref 84)], [.ref 73, .int (zI 0), .ref 84, .int (zI 0), .ref 73], es3)) i_20_4 rfl ?_
  refine x_alen (p := 9) (n := 5) i_20_5 hs_es3 rfl ?_
  refine x0 (r := (7, [some (.ref 73), some (.ref 84)], [.ref 84, .int (zI 5), .int (zI 0), .ref 84, .int (zI 0), .ref 73], es3)) i_20_6 rfl ?_
  refine x_alen (p := 20) (n := 5) i_20_7 hs_es3 rfl ?_
  refine x_min i_20_8 (by unfold i32 iLO iHI; omega) (by unfold i32 iLO iHI; omega) (Nat.le_of_ble_eq_true rfl) ?_
  show aW _ _ _ _ _ _ (11, [some (.ref 73), some (.ref 84)], [.int (zI 5), .int (zI 0), .ref 84, .int (zI 0), .ref 73], es3)
  refine x_acp (p := 9) (p2 := 20) (n := 5) i_20_11 hs_es3 rfl rfl (by decide) (Nat.le_of_ble_eq_true rfl) ?_
  obtain ⟨es4, e_es4⟩ : ∃ z : PH, z = sR es3 20 (va_cpy (gA es3 9) (gA es3 20) 0 0 5) := ⟨_, rfl⟩
  have hs_es4 : sh es4 := by rw [e_es4]; exact sh_sR hs_es3
  rw [← e_es4]
  refine x_ret (v := none) i_20_14 rfl (fun _ => rfl) rfl rfl rfl ?_
  show aW _ _ _ _ _ _ (30, [some (.ref 82), some (.ref 71)], [], es4)
  refine x0 (r := (31, [some (.ref 82), some (.ref 71)], [.ref 71], es4)) i_71_30 rfl ?_
  refine x_getr (p := 7) (k := 74) i_71_31 hs_es4 rfl rfl ?_
  show aW _ _ _ _ _ _ (34, [some (.ref 82), some (.ref 71)], [.ref 74], es4)
  refine x0 (r := (35, [some (.ref 82), some (.ref 71)], [.ref 82, .ref 74], es4)) i_71_34 rfl ?_
  refine x_getr (p := 18) (k := 85) i_71_35 hs_es4 rfl rfl ?_
  show aW _ _ _ _ _ _ (38, [some (.ref 82), some (.ref 71)], [.ref 85, .ref 74], es4)
  refine x_call (vs := [.ref 74, .ref 85]) (rs := []) i_71_38 rfl (fun _ => rfl) rfl rfl rfl rfl rfl rfl ?_
  show aW _ _ _ _ _ _ (0, [some (.ref 74), some (.ref 85)], [], es4)
  refine x0 (r := (1, [some (.ref 74), some (.ref 85)], [.ref 74], es4)) i_20_0 rfl ?_
  refine x0 (r := (2, [some (.ref 74), some (.ref 85)], [.int (zI 0), .ref 74], es4)) i_20_1 (by rfl) ?_
  refine x0 (r := (3, [some (.ref 74), some (.ref 85)], [.ref 85, .int (zI 0), .ref 74], es4)) i_20_2 rfl ?_
  refine x0 (r := (4, [some (.ref 74), some (.ref 85)], [.int (zI 0), .ref 85, .int (zI 0), .ref 74], es4)) i_20_3 (by rfl) ?_
  refine x0 (r := (5, [some (.ref 74), some (.ref 85)], [.ref 74, .int (zI 0), .ref 85, .int (zI 0), .ref 74], es4)) i_20_4 rfl ?_
  refine x_alen (p := 10) (n := 60) i_20_5 hs_es4 rfl ?_
  refine x0 (r := (7, [some (.ref 74), some (.ref 85)], [.ref 85, .int (zI 60), .int (zI 0), .ref 85, .int (zI 0), .ref 74], es4)) i_20_6 rfl ?_
  refine x_alen (p := 21) (n := 60) i_20_7 hs_es4 rfl ?_
  refine x_min i_20_8 (by unfold i32 iLO iHI; omega) (by unfold i32 iLO iHI; omega) (Nat.le_of_ble_eq_true rfl) ?_
  show aW _ _ _ _ _ _ (11, [some (.ref 74), some (.ref 85)], [.int (zI 60), .int (zI 0), .ref 85, .int (zI 0), .ref 74], es4)
  refine x_acp (p := 10) (p2 := 21) (n := 60) i_20_11 hs_es4 rfl rfl (by decide) (Nat.le_of_ble_eq_true rfl) ?_
  obtain ⟨es5, e_es5⟩ : ∃ z : PH, z = sR es4 21 (va_cpy (gA es4 10) (gA es4 21) 0 0 60) := ⟨_, rfl⟩
  have hs_es5 : sh es5 := by rw [e_es5]; exact sh_sR hs_es4
  rw [← e_es5]
  refine x_ret (v := none) i_20_14 rfl (fun _ => rfl) rfl rfl rfl ?_
  show aW _ _ _ _ _ _ (41, [some (.ref 82), some (.ref 71)], [], es5)
  refine x0 (r := (42, [some (.ref 82), some (.ref 71)], [.ref 71], es5)) i_71_41 rfl ?_
  refine x_getr (p := 7) (k := 75) i_71_42 hs_es5 rfl rfl ?_
  show aW _ _ _ _ _ _ (45, [some (.ref 82), some (.ref 71)], [.ref 75], es5)
  refine x0 (r := (46, [some (.ref 82), some (.ref 71)], [.ref 82, .ref 75], es5)) i_71_45 rfl ?_
  refine x_getr (p := 18) (k := 86) i_71_46 hs_es5 rfl rfl ?_
  show aW _ _ _ _ _ _ (49, [some (.ref 82), some (.ref 71)], [.ref 86, .ref 75], es5)
  refine x_call (vs := [.ref 75, .ref 86]) (rs := []) i_71_49 rfl (fun _ => rfl) rfl rfl rfl rfl rfl rfl ?_
  show aW _ _ _ _ _ _ (0, [some (.ref 75), some (.ref 86)], [], es5)
  refine x0 (r := (1, [some (.ref 75), some (.ref 86)], [.ref 75], es5)) i_20_0 rfl ?_
  refine x0 (r := (2, [some (.ref 75), some (.ref 86)], [.int (zI 0), .ref 75], es5)) i_20_1 (by rfl) ?_
  refine x0 (r := (3, [some (.ref 75), some (.ref 86)], [.ref 86, .int (zI 0), .ref 75], es5)) i_20_2 rfl ?_
  refine x0 (r := (4, [some (.ref 75), some (.ref 86)], [.int (zI 0), .ref 86, .int (zI 0), .ref 75], es5)) i_20_3 (by rfl) ?_
  refine x0 (r := (5, [some (.ref 75), some (.ref 86)], [.ref 75, .int (zI 0), .ref 86, .int (zI 0), .ref 75], es5)) i_20_4 rfl ?_
  refine x_alen (p := 11) (n := 36) i_20_5 hs_es5 rfl ?_
  refine x0 (r := (7, [some (.ref 75), some (.ref 86)], [.ref 86, .int (zI 36), .int (zI 0), .ref 86, .int (zI 0), .ref 75], es5)) i_20_6 rfl ?_
  refine x_alen (p := 22) (n := 36) i_20_7 hs_es5 rfl ?_
  refine x_min i_20_8 (by unfold i32 iLO iHI; omega) (by unfold i32 iLO iHI; omega) (Nat.le_of_ble_eq_true rfl) ?_
  show aW _ _ _ _ _ _ (11, [some (.ref 75), some (.ref 86)], [.int (zI 36), .int (zI 0), .ref 86, .int (zI 0), .ref 75], es5)
  refine x_acp (p := 11) (p2 := 22) (n := 36) i_20_11 hs_es5 rfl rfl (by decide) (Nat.le_of_ble_eq_true rfl) ?_
  obtain ⟨es6, e_es6⟩ : ∃ z : PH, z = sR es5 22 (va_cpy (gA es5 11) (gA es5 22) 0 0 36) := ⟨_, rfl⟩
  have hs_es6 : sh es6 := by rw [e_es6]; exact sh_sR hs_es5
  rw [← e_es6]
  refine x_ret (v := none) i_20_14 rfl (fun _ => rfl) rfl rfl rfl ?_
  show aW _ _ _ _ _ _ (52, [some (.ref 82), some (.ref 71)], [], es6)
  refine x0 (r := (53, [some (.ref 82), some (.ref 71)], [.ref 82], es6)) i_71_52 rfl ?_
  refine x0 (r := (54, [some (.ref 82), some (.ref 71)], [.ref 71, .ref 82], es6)) i_71_53 rfl ?_
  refine x_geti (p := 7) i_71_54 hs_es6 rfl rfl ?_
  obtain ⟨v7, e_v7⟩ : ∃ z : Int, z = (gI es6 7 5).toInt := ⟨_, rfl⟩
  rw [← e_v7]
  have r_v7 : iLO ≤ v7 ∧ v7 ≤ iHI := by rw [e_v7]; exact i32_rng _
  unfold iLO iHI at r_v7
  refine x_puti (p := 18) (ty := .int) i_71_57 hs_es6 rfl rfl rfl (Or.inl rfl) ?_
  obtain ⟨es8, e_es8⟩ : ∃ z : PH, z = sI es6 18 5 (.int (zI v7)) := ⟨_, rfl⟩
  have hs_es8 : sh es8 := by rw [e_es8]; exact sh_sI hs_es6 (p := 18) (b := 5) rfl rfl
  rw [← e_es8]
  refine x0 (r := (61, [some (.ref 82), some (.ref 71)], [.ref 71], es8)) i_71_60 rfl ?_
  refine x_getr (p := 7) (k := 76) i_71_61 hs_es8 rfl rfl ?_
  show aW _ _ _ _ _ _ (64, [some (.ref 82), some (.ref 71)], [.ref 76], es8)
  refine x0 (r := (65, [some (.ref 82), some (.ref 71)], [.ref 82, .ref 76], es8)) i_71_64 rfl ?_
  refine x_getr (p := 18) (k := 87) i_71_65 hs_es8 rfl rfl ?_
  show aW _ _ _ _ _ _ (68, [some (.ref 82), some (.ref 71)], [.ref 87, .ref 76], es8)
  refine x_call (vs := [.ref 76, .ref 87]) (rs := []) i_71_68 rfl (fun _ => rfl) rfl rfl rfl rfl rfl rfl ?_
  show aW _ _ _ _ _ _ (0, [some (.ref 76), some (.ref 87)], [], es8)
  refine x0 (r := (1, [some (.ref 76), some (.ref 87)], [.ref 76], es8)) i_20_0 rfl ?_
  refine x0 (r := (2, [some (.ref 76), some (.ref 87)], [.int (zI 0), .ref 76], es8)) i_20_1 (by rfl) ?_
  refine x0 (r := (3, [some (.ref 76), some (.ref 87)], [.ref 87, .int (zI 0), .ref 76], es8)) i_20_2 rfl ?_
  refine x0 (r := (4, [some (.ref 76), some (.ref 87)], [.int (zI 0), .ref 87, .int (zI 0), .ref 76], es8)) i_20_3 (by rfl) ?_
  refine x0 (r := (5, [some (.ref 76), some (.ref 87)], [.ref 76, .int (zI 0), .ref 87, .int (zI 0), .ref 76], es8)) i_20_4 rfl ?_
  refine x_alen (p := 12) (n := 3) i_20_5 hs_es8 rfl ?_
  refine x0 (r := (7, [some (.ref 76), some (.ref 87)], [.ref 87, .int (zI 3), .int (zI 0), .ref 87, .int (zI 0), .ref 76], es8)) i_20_6 rfl ?_
  refine x_alen (p := 23) (n := 3) i_20_7 hs_es8 rfl ?_
  refine x_min i_20_8 (by unfold i32 iLO iHI; omega) (by unfold i32 iLO iHI; omega) (Nat.le_of_ble_eq_true rfl) ?_
  show aW _ _ _ _ _ _ (11, [some (.ref 76), some (.ref 87)], [.int (zI 3), .int (zI 0), .ref 87, .int (zI 0), .ref 76], es8)
  refine x_acp (p := 12) (p2 := 23) (n := 3) i_20_11 hs_es8 rfl rfl (by decide) (Nat.le_of_ble_eq_true rfl) ?_
  obtain ⟨es9, e_es9⟩ : ∃ z : PH, z = sR es8 23 (va_cpy (gA es8 12) (gA es8 23) 0 0 3) := ⟨_, rfl⟩
  have hs_es9 : sh es9 := by rw [e_es9]; exact sh_sR hs_es8
  rw [← e_es9]
  refine x_ret (v := none) i_20_14 rfl (fun _ => rfl) rfl rfl rfl ?_
  show aW _ _ _ _ _ _ (71, [some (.ref 82), some (.ref 71)], [], es9)
  refine x0 (r := (72, [some (.ref 82), some (.ref 71)], [.ref 71], es9)) i_71_71 rfl ?_
  refine x_getr (p := 7) (k := 77) i_71_72 hs_es9 rfl rfl ?_
  show aW _ _ _ _ _ _ (75, [some (.ref 82), some (.ref 71)], [.ref 77], es9)
  refine x0 (r := (76, [some (.ref 82), some (.ref 71)], [.ref 82, .ref 77], es9)) i_71_75 rfl ?_
  refine x_getr (p := 18) (k := 88) i_71_76 hs_es9 rfl rfl ?_
  show aW _ _ _ _ _ _ (79, [some (.ref 82), some (.ref 71)], [.ref 88, .ref 77], es9)
  refine x_call (vs := [.ref 77, .ref 88]) (rs := []) i_71_79 rfl (fun _ => rfl) rfl rfl rfl rfl rfl rfl ?_
  show aW _ _ _ _ _ _ (0, [some (.ref 77), some (.ref 88)], [], es9)
  refine x0 (r := (1, [some (.ref 77), some (.ref 88)], [.ref 77], es9)) i_20_0 rfl ?_
  refine x0 (r := (2, [some (.ref 77), some (.ref 88)], [.int (zI 0), .ref 77], es9)) i_20_1 (by rfl) ?_
  refine x0 (r := (3, [some (.ref 77), some (.ref 88)], [.ref 88, .int (zI 0), .ref 77], es9)) i_20_2 rfl ?_
  refine x0 (r := (4, [some (.ref 77), some (.ref 88)], [.int (zI 0), .ref 88, .int (zI 0), .ref 77], es9)) i_20_3 (by rfl) ?_
  refine x0 (r := (5, [some (.ref 77), some (.ref 88)], [.ref 77, .int (zI 0), .ref 88, .int (zI 0), .ref 77], es9)) i_20_4 rfl ?_
  refine x_alen (p := 13) (n := 3) i_20_5 hs_es9 rfl ?_
  refine x0 (r := (7, [some (.ref 77), some (.ref 88)], [.ref 88, .int (zI 3), .int (zI 0), .ref 88, .int (zI 0), .ref 77], es9)) i_20_6 rfl ?_
  refine x_alen (p := 24) (n := 3) i_20_7 hs_es9 rfl ?_
  refine x_min i_20_8 (by unfold i32 iLO iHI; omega) (by unfold i32 iLO iHI; omega) (Nat.le_of_ble_eq_true rfl) ?_
  show aW _ _ _ _ _ _ (11, [some (.ref 77), some (.ref 88)], [.int (zI 3), .int (zI 0), .ref 88, .int (zI 0), .ref 77], es9)
  refine x_acp (p := 13) (p2 := 24) (n := 3) i_20_11 hs_es9 rfl rfl (by decide) (Nat.le_of_ble_eq_true rfl) ?_
  obtain ⟨es10, e_es10⟩ : ∃ z : PH, z = sR es9 24 (va_cpy (gA es9 13) (gA es9 24) 0 0 3) := ⟨_, rfl⟩
  have hs_es10 : sh es10 := by rw [e_es10]; exact sh_sR hs_es9
  rw [← e_es10]
  refine x_ret (v := none) i_20_14 rfl (fun _ => rfl) rfl rfl rfl ?_
  show aW _ _ _ _ _ _ (82, [some (.ref 82), some (.ref 71)], [], es10)
  refine x0 (r := (83, [some (.ref 82), some (.ref 71)], [.ref 71], es10)) i_71_82 rfl ?_
  refine x_getr (p := 7) (k := 78) i_71_83 hs_es10 rfl rfl ?_
  show aW _ _ _ _ _ _ (86, [some (.ref 82), some (.ref 71)], [.ref 78], es10)
  refine x0 (r := (87, [some (.ref 82), some (.ref 71)], [.ref 82, .ref 78], es10)) i_71_86 rfl ?_
  refine x_getr (p := 18) (k := 89) i_71_87 hs_es10 rfl rfl ?_
  show aW _ _ _ _ _ _ (90, [some (.ref 82), some (.ref 71)], [.ref 89, .ref 78], es10)
  refine x_call (vs := [.ref 78, .ref 89]) (rs := []) i_71_90 rfl (fun _ => rfl) rfl rfl rfl rfl rfl rfl ?_
  show aW _ _ _ _ _ _ (0, [some (.ref 78), some (.ref 89)], [], es10)
  refine x0 (r := (1, [some (.ref 78), some (.ref 89)], [.ref 78], es10)) i_20_0 rfl ?_
  refine x0 (r := (2, [some (.ref 78), some (.ref 89)], [.int (zI 0), .ref 78], es10)) i_20_1 (by rfl) ?_
  refine x0 (r := (3, [some (.ref 78), some (.ref 89)], [.ref 89, .int (zI 0), .ref 78], es10)) i_20_2 rfl ?_
  refine x0 (r := (4, [some (.ref 78), some (.ref 89)], [.int (zI 0), .ref 89, .int (zI 0), .ref 78], es10)) i_20_3 (by rfl) ?_
  refine x0 (r := (5, [some (.ref 78), some (.ref 89)], [.ref 78, .int (zI 0), .ref 89, .int (zI 0), .ref 78], es10)) i_20_4 rfl ?_
  refine x_alen (p := 14) (n := 288) i_20_5 hs_es10 rfl ?_
  refine x0 (r := (7, [some (.ref 78), some (.ref 89)], [.ref 89, .int (zI 288), .int (zI 0), .ref 89, .int (zI 0), .ref 78], es10)) i_20_6 rfl ?_
  refine x_alen (p := 25) (n := 288) i_20_7 hs_es10 rfl ?_
  refine x_min i_20_8 (by unfold i32 iLO iHI; omega) (by unfold i32 iLO iHI; omega) (Nat.le_of_ble_eq_true rfl) ?_
  show aW _ _ _ _ _ _ (11, [some (.ref 78), some (.ref 89)], [.int (zI 288), .int (zI 0), .ref 89, .int (zI 0), .ref 78], es10)
  refine x_acp (p := 14) (p2 := 25) (n := 288) i_20_11 hs_es10 rfl rfl (by decide) (Nat.le_of_ble_eq_true rfl) ?_
  obtain ⟨es11, e_es11⟩ : ∃ z : PH, z = sR es10 25 (va_cpy (gA es10 14) (gA es10 25) 0 0 288) := ⟨_, rfl⟩
  have hs_es11 : sh es11 := by rw [e_es11]; exact sh_sR hs_es10
  rw [← e_es11]
  refine x_ret (v := none) i_20_14 rfl (fun _ => rfl) rfl rfl rfl ?_
  show aW _ _ _ _ _ _ (93, [some (.ref 82), some (.ref 71)], [], es11)
  refine x0 (r := (94, [some (.ref 82), some (.ref 71)], [.ref 71], es11)) i_71_93 rfl ?_
  refine x_getr (p := 7) (k := 79) i_71_94 hs_es11 rfl rfl ?_
  show aW _ _ _ _ _ _ (97, [some (.ref 82), some (.ref 71)], [.ref 79], es11)
  refine x0 (r := (98, [some (.ref 82), some (.ref 71)], [.ref 82, .ref 79], es11)) i_71_97 rfl ?_
  refine x_getr (p := 18) (k := 90) i_71_98 hs_es11 rfl rfl ?_
  show aW _ _ _ _ _ _ (101, [some (.ref 82), some (.ref 71)], [.ref 90, .ref 79], es11)
  refine x_call (vs := [.ref 79, .ref 90]) (rs := []) i_71_101 rfl (fun _ => rfl) rfl rfl rfl rfl rfl rfl ?_
  show aW _ _ _ _ _ _ (0, [some (.ref 79), some (.ref 90)], [], es11)
  refine x0 (r := (1, [some (.ref 79), some (.ref 90)], [.ref 79], es11)) i_20_0 rfl ?_
  refine x0 (r := (2, [some (.ref 79), some (.ref 90)], [.int (zI 0), .ref 79], es11)) i_20_1 (by rfl) ?_
  refine x0 (r := (3, [some (.ref 79), some (.ref 90)], [.ref 90, .int (zI 0), .ref 79], es11)) i_20_2 rfl ?_
  refine x0 (r := (4, [some (.ref 79), some (.ref 90)], [.int (zI 0), .ref 90, .int (zI 0), .ref 79], es11)) i_20_3 (by rfl) ?_
  refine x0 (r := (5, [some (.ref 79), some (.ref 90)], [.ref 79, .int (zI 0), .ref 90, .int (zI 0), .ref 79], es11)) i_20_4 rfl ?_
  refine x_alen (p := 15) (n := 8) i_20_5 hs_es11 rfl ?_
  refine x0 (r := (7, [some (.ref 79), some (.ref 90)], [.ref 90, .int (zI 8), .int (zI 0), .ref 90, .int (zI 0), .ref 79], es11)) i_20_6 rfl ?_
  refine x_alen (p := 26) (n := 8) i_20_7 hs_es11 rfl ?_
  refine x_min i_20_8 (by unfold i32 iLO iHI; omega) (by unfold i32 iLO iHI; omega) (Nat.le_of_ble_eq_true rfl) ?_
  show aW _ _ _ _ _ _ (11, [some (.ref 79), some (.ref 90)], [.int (zI 8), .int (zI 0), .ref 90, .int (zI 0), .ref 79], es11)
  refine x_acp (p := 15) (p2 := 26) (n := 8) i_20_11 hs_es11 rfl rfl (by decide) (Nat.le_of_ble_eq_true rfl) ?_
  obtain ⟨es12, e_es12⟩ : ∃ z : PH, z = sR es11 26 (va_cpy (gA es11 15) (gA es11 26) 0 0 8) := ⟨_, rfl⟩
  have hs_es12 : sh es12 := by rw [e_es12]; exact sh_sR hs_es11
  rw [← e_es12]
  refine x_ret (v := none) i_20_14 rfl (fun _ => rfl) rfl rfl rfl ?_
  show aW _ _ _ _ _ _ (104, [some (.ref 82), some (.ref 71)], [], es12)
  refine x0 (r := (105, [some (.ref 82), some (.ref 71)], [.ref 82], es12)) i_71_104 rfl ?_
  refine x0 (r := (106, [some (.ref 82), some (.ref 71)], [.ref 71, .ref 82], es12)) i_71_105 rfl ?_
  refine x_geti (p := 7) i_71_106 hs_es12 rfl rfl ?_
  obtain ⟨v13, e_v13⟩ : ∃ z : Int, z = (gI es12 7 10).toInt := ⟨_, rfl⟩
  rw [← e_v13]
  have r_v13 : iLO ≤ v13 ∧ v13 ≤ iHI := by rw [e_v13]; exact i32_rng _
  unfold iLO iHI at r_v13
  refine x_puti (p := 18) (ty := .int) i_71_109 hs_es12 rfl rfl rfl (Or.inl rfl) ?_
  obtain ⟨es14, e_es14⟩ : ∃ z : PH, z = sI es12 18 10 (.int (zI v13)) := ⟨_, rfl⟩
  have hs_es14 : sh es14 := by rw [e_es14]; exact sh_sI hs_es12 (p := 18) (b := 10) rfl rfl
  rw [← e_es14]
  refine x0 (r := (113, [some (.ref 82), some (.ref 71)], [.ref 82], es14)) i_71_112 rfl ?_
  refine x0 (r := (114, [some (.ref 82), some (.ref 71)], [.ref 71, .ref 82], es14)) i_71_113 rfl ?_
  refine x_geti (p := 7) i_71_114 hs_es14 rfl rfl ?_
  obtain ⟨v15, e_v15⟩ : ∃ z : Int, z = (gI es14 7 11).toInt := ⟨_, rfl⟩
  rw [← e_v15]
  have r_v15 : iLO ≤ v15 ∧ v15 ≤ iHI := by rw [e_v15]; exact i32_rng _
  unfold iLO iHI at r_v15
  refine x_puti (p := 18) (ty := .int) i_71_117 hs_es14 rfl rfl rfl (Or.inl rfl) ?_
  obtain ⟨es16, e_es16⟩ : ∃ z : PH, z = sI es14 18 11 (.int (zI v15)) := ⟨_, rfl⟩
  have hs_es16 : sh es16 := by rw [e_es16]; exact sh_sI hs_es14 (p := 18) (b := 11) rfl rfl
  rw [← e_es16]
  refine x0 (r := (121, [some (.ref 82), some (.ref 71)], [.ref 71], es16)) i_71_120 rfl ?_
  refine x_getr (p := 7) (k := 80) i_71_121 hs_es16 rfl rfl ?_
  show aW _ _ _ _ _ _ (124, [some (.ref 82), some (.ref 71)], [.ref 80], es16)
  refine x0 (r := (125, [some (.ref 82), some (.ref 71)], [.ref 82, .ref 80], es16)) i_71_124 rfl ?_
  refine x_getr (p := 18) (k := 91) i_71_125 hs_es16 rfl rfl ?_
  show aW _ _ _ _ _ _ (128, [some (.ref 82), some (.ref 71)], [.ref 91, .ref 80], es16)
  refine x_call (vs := [.ref 80, .ref 91]) (rs := []) i_71_128 rfl (fun _ => rfl) rfl rfl rfl rfl rfl rfl ?_
  show aW _ _ _ _ _ _ (0, [some (.ref 80), some (.ref 91)], [], es16)
  refine x0 (r := (1, [some (.ref 80), some (.ref 91)], [.ref 80], es16)) i_20_0 rfl ?_
  refine x0 (r := (2, [some (.ref 80), some (.ref 91)], [.int (zI 0), .ref 80], es16)) i_20_1 (by rfl) ?_
  refine x0 (r := (3, [some (.ref 80), some (.ref 91)], [.ref 91, .int (zI 0), .ref 80], es16)) i_20_2 rfl ?_
  refine x0 (r := (4, [some (.ref 80), some (.ref 91)], [.int (zI 0), .ref 91, .int (zI 0), .ref 80], es16)) i_20_3 (by rfl) ?_
  refine x0 (r := (5, [some (.ref 80), some (.ref 91)], [.ref 80, .int (zI 0), .ref 91, .int (zI 0), .ref 80], es16)) i_20_4 rfl ?_
  refine x_alen (p := 16) (n := 30) i_20_5 hs_es16 rfl ?_
  refine x0 (r := (7, [some (.ref 80), some (.ref 91)], [.ref 91, .int (zI 30), .int (zI 0), .ref 91, .int (zI 0), .ref 80], es16)) i_20_6 rfl ?_
  refine x_alen (p := 27) (n := 30) i_20_7 hs_es16 rfl ?_
  refine x_min i_20_8 (by unfold i32 iLO iHI; omega) (by unfold i32 iLO iHI; omega) (Nat.le_of_ble_eq_true rfl) ?_
  show aW _ _ _ _ _ _ (11, [some (.ref 80), some (.ref 91)], [.int (zI 30), .int (zI 0), .ref 91, .int (zI 0), .ref 80], es16)
  refine x_acp (p := 16) (p2 := 27) (n := 30) i_20_11 hs_es16 rfl rfl (by decide) (Nat.le_of_ble_eq_true rfl) ?_
  obtain ⟨es17, e_es17⟩ : ∃ z : PH, z = sR es16 27 (va_cpy (gA es16 16) (gA es16 27) 0 0 30) := ⟨_, rfl⟩
  have hs_es17 : sh es17 := by rw [e_es17]; exact sh_sR hs_es16
  rw [← e_es17]
  refine x_ret (v := none) i_20_14 rfl (fun _ => rfl) rfl rfl rfl ?_
  show aW _ _ _ _ _ _ (131, [some (.ref 82), some (.ref 71)], [], es17)
  refine x0 (r := (132, [some (.ref 82), some (.ref 71)], [.ref 82], es17)) i_71_131 rfl ?_
  refine x0 (r := (133, [some (.ref 82), some (.ref 71)], [.ref 71, .ref 82], es17)) i_71_132 rfl ?_
  refine x_geti (p := 7) i_71_133 hs_es17 rfl rfl ?_
  obtain ⟨v18, e_v18⟩ : ∃ z : Int, z = (gI es17 7 13).toInt := ⟨_, rfl⟩
  rw [← e_v18]
  have r_v18 : iLO ≤ v18 ∧ v18 ≤ iHI := by rw [e_v18]; exact i32_rng _
  unfold iLO iHI at r_v18
  refine x_puti (p := 18) (ty := .int) i_71_136 hs_es17 rfl rfl rfl (Or.inl rfl) ?_
  obtain ⟨es19, e_es19⟩ : ∃ z : PH, z = sI es17 18 13 (.int (zI v18)) := ⟨_, rfl⟩
  have hs_es19 : sh es19 := by rw [e_es19]; exact sh_sI hs_es17 (p := 18) (b := 13) rfl rfl
  rw [← e_es19]
  refine x0 (r := (140, [some (.ref 82), some (.ref 71)], [.ref 71], es19)) i_71_139 rfl ?_
  refine x_getr (p := 7) (k := 81) i_71_140 hs_es19 rfl rfl ?_
  show aW _ _ _ _ _ _ (143, [some (.ref 82), some (.ref 71)], [.ref 81], es19)
  refine x0 (r := (144, [some (.ref 82), some (.ref 71)], [.ref 82, .ref 81], es19)) i_71_143 rfl ?_
  refine x_getr (p := 18) (k := 92) i_71_144 hs_es19 rfl rfl ?_
  show aW _ _ _ _ _ _ (147, [some (.ref 82), some (.ref 71)], [.ref 92, .ref 81], es19)
  refine x_call (vs := [.ref 81, .ref 92]) (rs := []) i_71_147 rfl (fun _ => rfl) rfl rfl rfl rfl rfl rfl ?_
  show aW _ _ _ _ _ _ (0, [some (.ref 81), some (.ref 92)], [], es19)
  refine x0 (r := (1, [some (.ref 81), some (.ref 92)], [.ref 81], es19)) i_20_0 rfl ?_
  refine x0 (r := (2, [some (.ref 81), some (.ref 92)], [.int (zI 0), .ref 81], es19)) i_20_1 (by rfl) ?_
  refine x0 (r := (3, [some (.ref 81), some (.ref 92)], [.ref 92, .int (zI 0), .ref 81], es19)) i_20_2 rfl ?_
  refine x0 (r := (4, [some (.ref 81), some (.ref 92)], [.int (zI 0), .ref 92, .int (zI 0), .ref 81], es19)) i_20_3 (by rfl) ?_
  refine x0 (r := (5, [some (.ref 81), some (.ref 92)], [.ref 81, .int (zI 0), .ref 92, .int (zI 0), .ref 81], es19)) i_20_4 rfl ?_
  refine x_alen (p := 17) (n := 400) i_20_5 hs_es19 rfl ?_
  refine x0 (r := (7, [some (.ref 81), some (.ref 92)], [.ref 92, .int (zI 400), .int (zI 0), .ref 92, .int (zI 0), .ref 81], es19)) i_20_6 rfl ?_
  refine x_alen (p := 28) (n := 400) i_20_7 hs_es19 rfl ?_
  refine x_min i_20_8 (by unfold i32 iLO iHI; omega) (by unfold i32 iLO iHI; omega) (Nat.le_of_ble_eq_true rfl) ?_
  show aW _ _ _ _ _ _ (11, [some (.ref 81), some (.ref 92)], [.int (zI 400), .int (zI 0), .ref 92, .int (zI 0), .ref 81], es19)
  refine x_acp (p := 17) (p2 := 28) (n := 400) i_20_11 hs_es19 rfl rfl (by decide) (Nat.le_of_ble_eq_true rfl) ?_
  obtain ⟨es20, e_es20⟩ : ∃ z : PH, z = sR es19 28 (va_cpy (gA es19 17) (gA es19 28) 0 0 400) := ⟨_, rfl⟩
  have hs_es20 : sh es20 := by rw [e_es20]; exact sh_sR hs_es19
  rw [← e_es20]
  refine x_ret (v := none) i_20_14 rfl (fun _ => rfl) rfl rfl rfl ?_
  show aW _ _ _ _ _ _ (150, [some (.ref 82), some (.ref 71)], [], es20)
  refine x_ret (v := none) i_71_150 rfl (fun _ => rfl) rfl rfl rfl ?_
  show aW _ _ _ _ _ _ (11, [some (.ref 64)], [], es20)
  refine x0 (r := (12, [some (.ref 64)], [.ref 64], es20)) i_70_11 rfl ?_
  refine x0 (r := (13, [some (.ref 64)], [.int (zI 1), .ref 64], es20)) i_70_12 (by rfl) ?_
  refine x_puti (p := 0) (ty := .boolean) i_70_13 hs_es20 rfl rfl rfl (Or.inr ⟨rfl, by omega⟩) ?_
  obtain ⟨es21, e_es21⟩ : ∃ z : PH, z = sI es20 0 9 (.int (zI 1)) := ⟨_, rfl⟩
  have hs_es21 : sh es21 := by rw [e_es21]; exact sh_sI hs_es20 (p := 0) (b := 9) rfl rfl
  rw [← e_es21]
  refine x_ret (v := none) i_70_16 rfl (fun _ => rfl) rfl rfl rfl ?_
  exact K1 v1 e_v1 es2 e_es2 es3 e_es3 es4 e_es4 es5 e_es5 es6 e_es6 v7 e_v7 es8 e_es8 es9 e_es9 es10 e_es10 es11 e_es11 es12 e_es12 v13 e_v13 es14 e_es14 v15 e_v15 es16 e_es16 es17 e_es17 v18 e_v18 es19 e_es19 es20 e_es20 es21 e_es21
def ximP (es es1 : PH) : Prop := sh es1 ∧ gI es1 18 0 = gI es 7 0 ∧ gI es1 18 5 = gI es 7 5 ∧ (∀ k, k < 5 → gA es1 19 k = gA es 8 k) ∧ (∀ k, k < 5 → gA es1 20 k = gA es 9 k) ∧ (∀ k, k < 60 → gA es1 21 k = gA es 10 k) ∧ (∀ k, k < 36 → gA es1 22 k = gA es 11 k) ∧ (∀ k, k < 3 → gA es1 23 k = gA es 12 k) ∧ (∀ k, k < 3 → gA es1 24 k = gA es 13 k) ∧ (∀ k, k < 288 → gA es1 25 k = gA es 14 k) ∧ (∀ k, k < 8 → gA es1 26 k = gA es 15 k) ∧ gI es1 0 9 = zI 1
theorem fn_ximage {O : pOut} {d : Nat} {es : PH} (hs_es : sh es) : aW O (d + 3) 70 0 0 (fun o => o.1 = .inl none ∧ ximP es o.2.1) (0, [some (.ref 64)], [], es) := by
  refine s_xim (d := d) (kc := 0) (ks := 0) hs_es (fun v1 e_v1 es2 e_es2 es3 e_es3 es4 e_es4 es5 e_es5 es6 e_es6 v7 e_v7 es8 e_es8 es9 e_es9 es10 e_es10 es11 e_es11 es12 e_es12 v13 e_v13 es14 e_es14 v15 e_v15 es16 e_es16 es17 e_es17 v18 e_v18 es19 e_es19 es20 e_es20 es21 e_es21 => ?_)
  have hs_es2 : sh es2 := by rw [e_es2]; exact sh_sI hs_es (p := 18) (b := 0) rfl rfl
  have hs_es3 : sh es3 := by rw [e_es3]; exact sh_sR hs_es2
  have hs_es4 : sh es4 := by rw [e_es4]; exact sh_sR hs_es3
  have hs_es5 : sh es5 := by rw [e_es5]; exact sh_sR hs_es4
  have hs_es6 : sh es6 := by rw [e_es6]; exact sh_sR hs_es5
  have hs_es8 : sh es8 := by rw [e_es8]; exact sh_sI hs_es6 (p := 18) (b := 5) rfl rfl
  have hs_es9 : sh es9 := by rw [e_es9]; exact sh_sR hs_es8
  have hs_es10 : sh es10 := by rw [e_es10]; exact sh_sR hs_es9
  have hs_es11 : sh es11 := by rw [e_es11]; exact sh_sR hs_es10
  have hs_es12 : sh es12 := by rw [e_es12]; exact sh_sR hs_es11
  have hs_es14 : sh es14 := by rw [e_es14]; exact sh_sI hs_es12 (p := 18) (b := 10) rfl rfl
  have hs_es16 : sh es16 := by rw [e_es16]; exact sh_sI hs_es14 (p := 18) (b := 11) rfl rfl
  have hs_es17 : sh es17 := by rw [e_es17]; exact sh_sR hs_es16
  have hs_es19 : sh es19 := by rw [e_es19]; exact sh_sI hs_es17 (p := 18) (b := 13) rfl rfl
  have hs_es20 : sh es20 := by rw [e_es20]; exact sh_sR hs_es19
  have hs_es21 : sh es21 := by rw [e_es21]; exact sh_sI hs_es20 (p := 0) (b := 9) rfl rfl
  have hP : ximP es es21 := ⟨hs_es21,
    by rw [e_es21, gI_sI_ne (Or.inl (by decide)), e_es20, gI_sR, e_es19, gI_sI_ne (Or.inr (by decide)), e_es17, gI_sR, e_es16, gI_sI_ne (Or.inr (by decide)), e_es14, gI_sI_ne (Or.inr (by decide)), e_es12, gI_sR, e_es11, gI_sR, e_es10, gI_sR, e_es9, gI_sR, e_es8, gI_sI_ne (Or.inr (by decide)), e_es6, gI_sR, e_es5, gI_sR, e_es4, gI_sR, e_es3, gI_sR, e_es2, gI_sI hs_es (p := 18) (b := 0) rfl (by decide), e_v1, zI_id],
    by rw [e_es21, gI_sI_ne (Or.inl (by decide)), e_es20, gI_sR, e_es19, gI_sI_ne (Or.inr (by decide)), e_es17, gI_sR, e_es16, gI_sI_ne (Or.inr (by decide)), e_es14, gI_sI_ne (Or.inr (by decide)), e_es12, gI_sR, e_es11, gI_sR, e_es10, gI_sR, e_es9, gI_sR, e_es8, gI_sI hs_es6 (p := 18) (b := 5) rfl (by decide), e_v7, zI_id, e_es6, gI_sR, e_es5, gI_sR, e_es4, gI_sR, e_es3, gI_sR, e_es2, gI_sI_ne (Or.inl (by decide))],
    fun k hk => by rw [e_es21, gA_sI, e_es20, gA_sR_ne (by decide), e_es19, gA_sI, e_es17, gA_sR_ne (by decide), e_es16, gA_sI, e_es14, gA_sI, e_es12, gA_sR_ne (by decide), e_es11, gA_sR_ne (by decide), e_es10, gA_sR_ne (by decide), e_es9, gA_sR_ne (by decide), e_es8, gA_sI, e_es6, gA_sR_ne (by decide), e_es5, gA_sR_ne (by decide), e_es4, gA_sR_ne (by decide), e_es3, gA_sR hs_es2 (p := 19) (t := 0) (n := 5) rfl (by decide), cpy_at hk, e_es2, gA_sI],
    fun k hk => by rw [e_es21, gA_sI, e_es20, gA_sR_ne (by decide), e_es19, gA_sI, e_es17, gA_sR_ne (by decide), e_es16, gA_sI, e_es14, gA_sI, e_es12, gA_sR_ne (by decide), e_es11, gA_sR_ne (by decide), e_es10, gA_sR_ne (by decide), e_es9, gA_sR_ne (by decide), e_es8, gA_sI, e_es6, gA_sR_ne (by decide), e_es5, gA_sR_ne (by decide), e_es4, gA_sR hs_es3 (p := 20) (t := 0) (n := 5) rfl (by decide), cpy_at hk, e_es3, gA_sR_ne (by decide), e_es2, gA_sI],
    fun k hk => by rw [e_es21, gA_sI, e_es20, gA_sR_ne (by decide), e_es19, gA_sI, e_es17, gA_sR_ne (by decide), e_es16, gA_sI, e_es14, gA_sI, e_es12, gA_sR_ne (by decide), e_es11, gA_sR_ne (by decide), e_es10, gA_sR_ne (by decide), e_es9, gA_sR_ne (by decide), e_es8, gA_sI, e_es6, gA_sR_ne (by decide), e_es5, gA_sR hs_es4 (p := 21) (t := 0) (n := 60) rfl (by decide), cpy_at hk, e_es4, gA_sR_ne (by decide), e_es3, gA_sR_ne (by decide), e_es2, gA_sI],
    fun k hk => by rw [e_es21, gA_sI, e_es20, gA_sR_ne (by decide), e_es19, gA_sI, e_es17, gA_sR_ne (by decide), e_es16, gA_sI, e_es14, gA_sI, e_es12, gA_sR_ne (by decide), e_es11, gA_sR_ne (by decide), e_es10, gA_sR_ne (by decide), e_es9, gA_sR_ne (by decide), e_es8, gA_sI, e_es6, gA_sR hs_es5 (p := 22) (t := 0) (n := 36) rfl (by decide), cpy_at hk, e_es5, gA_sR_ne (by decide), e_es4, gA_sR_ne (by decide), e_es3, gA_sR_ne (by decide), e_es2, gA_sI],
    fun k hk => by rw [e_es21, gA_sI, e_es20, gA_sR_ne (by decide), e_es19, gA_sI, e_es17, gA_sR_ne (by decide), e_es16, gA_sI, e_es14, gA_sI, e_es12, gA_sR_ne (by decide), e_es11, gA_sR_ne (by decide), e_es10, gA_sR_ne (by decide), e_es9, gA_sR hs_es8 (p := 23) (t := 0) (n := 3) rfl (by decide), cpy_at hk, e_es8, gA_sI, e_es6, gA_sR_ne (by decide), e_es5, gA_sR_ne (by decide), e_es4, gA_sR_ne (by decide), e_es3, gA_sR_ne (by decide), e_es2, gA_sI],
    fun k hk => by rw [e_es21, gA_sI, e_es20, gA_sR_ne (by decide), e_es19, gA_sI, e_es17, gA_sR_ne (by decide), e_es16, gA_sI, e_es14, gA_sI, e_es12, gA_sR_ne (by decide), e_es11, gA_sR_ne (by decide), e_es10, gA_sR hs_es9 (p := 24) (t := 0) (n := 3) rfl (by decide), cpy_at hk, e_es9, gA_sR_ne (by decide), e_es8, gA_sI, e_es6, gA_sR_ne (by decide), e_es5, gA_sR_ne (by decide), e_es4, gA_sR_ne (by decide), e_es3, gA_sR_ne (by decide), e_es2, gA_sI],
    fun k hk => by rw [e_es21, gA_sI, e_es20, gA_sR_ne (by decide), e_es19, gA_sI, e_es17, gA_sR_ne (by decide), e_es16, gA_sI, e_es14, gA_sI, e_es12, gA_sR_ne (by decide), e_es11, gA_sR hs_es10 (p := 25) (t := 0) (n := 288) rfl (by decide), cpy_at hk, e_es10, gA_sR_ne (by decide), e_es9, gA_sR_ne (by decide), e_es8, gA_sI, e_es6, gA_sR_ne (by decide), e_es5, gA_sR_ne (by decide), e_es4, gA_sR_ne (by decide), e_es3, gA_sR_ne (by decide), e_es2, gA_sI],
    fun k hk => by rw [e_es21, gA_sI, e_es20, gA_sR_ne (by decide), e_es19, gA_sI, e_es17, gA_sR_ne (by decide), e_es16, gA_sI, e_es14, gA_sI, e_es12, gA_sR hs_es11 (p := 26) (t := 0) (n := 8) rfl (by decide), cpy_at hk, e_es11, gA_sR_ne (by decide), e_es10, gA_sR_ne (by decide), e_es9, gA_sR_ne (by decide), e_es8, gA_sI, e_es6, gA_sR_ne (by decide), e_es5, gA_sR_ne (by decide), e_es4, gA_sR_ne (by decide), e_es3, gA_sR_ne (by decide), e_es2, gA_sI],
    by rw [e_es21, gI_sI hs_es20 (p := 0) (b := 9) rfl (by decide)]⟩
  exact ⟨rfl, hP⟩
theorem s_xba {O : pOut} {d kc ks : Nat} {Q : pRes → Prop} {es : PH} (hs_es : sh es) (hT_es : hOK tT es)
    (K1 : ∀ v1 : Int, v1 = (gI es 0 9).toInt → v1 ≠ 0 → ∀ v3 : Int, v3 = (gI es 18 0).toInt → ∀ es4 : PH, es4 = sI es 7 0 (.int (zI v3)) → ∀ es5 : PH, es5 = sR es4 8 (va_cpy (gA es4 19) (gA es4 8) 0 0 5) → ∀ es6 : PH, es6 = sR es5 9 (va_cpy (gA es5 20) (gA es5 9) 0 0 5) → ∀ es7 : PH, es7 = sR es6 10 (va_cpy (gA es6 21) (gA es6 10) 0 0 60) → ∀ es8 : PH, es8 = sR es7 11 (va_cpy (gA es7 22) (gA es7 11) 0 0 36) → ∀ v9 : Int, v9 = (gI es8 18 5).toInt → ∀ es10 : PH, es10 = sI es8 7 5 (.int (zI v9)) → ∀ es11 : PH, es11 = sR es10 12 (va_cpy (gA es10 23) (gA es10 12) 0 0 3) → ∀ es12 : PH, es12 = sR es11 13 (va_cpy (gA es11 24) (gA es11 13) 0 0 3) → ∀ es13 : PH, es13 = sR es12 14 (va_cpy (gA es12 25) (gA es12 14) 0 0 288) → ∀ es14 : PH, es14 = sR es13 15 (va_cpy (gA es13 26) (gA es13 15) 0 0 8) → ∀ v15 : Int, v15 = (gI es14 18 10).toInt → ∀ es16 : PH, es16 = sI es14 7 10 (.int (zI v15)) → ∀ v17 : Int, v17 = (gI es16 18 11).toInt → ∀ es18 : PH, es18 = sI es16 7 11 (.int (zI v17)) → ∀ es19 : PH, es19 = sR es18 16 (va_cpy (gA es18 27) (gA es18 16) 0 0 30) → ∀ v20 : Int, v20 = (gI es19 18 13).toInt → ∀ es21 : PH, es21 = sI es19 7 13 (.int (zI v20)) → ∀ es22 : PH, es22 = sR es21 17 (va_cpy (gA es21 28) (gA es21 17) 0 0 400) → ∀ es23 : PH, es23 = sI es22 0 10 (.int (zI 0)) → ∀ es24 : PH, es24 = sI es23 73 3 (.int (zI 0)) → Q (.inl (some (.int (zI 1))), es24, kc, ks))
    (K2 : ∀ v1 : Int, v1 = (gI es 0 9).toInt → ¬ (v1 ≠ 0) → Q (.inl (some (.int (zI 0))), es, kc, ks)) :
    aW O (d + 3) 72 kc ks Q (0, [some (.ref 64)], [], es) := by
  refine x0 (r := (1, [some (.ref 64)], [.ref 64], es)) i_72_0 rfl ?_
  refine x_geti (p := 0) i_72_1 hs_es rfl rfl ?_
  obtain ⟨v1, e_v1⟩ : ∃ z : Int, z = (gI es 0 9).toInt := ⟨_, rfl⟩
  rw [← e_v1]
  have r_v1 : iLO ≤ v1 ∧ v1 ≤ iHI := by rw [e_v1]; exact i32_rng _
  unfold iLO iHI at r_v1
  have b_v1 : (0 : Int) ≤ v1 ∧ v1 ≤ (1 : Int) := by rw [e_v1]; exact gI_bd hT_es (p := 0) (b := 9) rfl rfl
  by_cases c2 : v1 ≠ 0
  · refine x_ifT i_72_4 (by unfold i32 iLO iHI; omega) rfl (by simp only [zC, cR]; omega) ?_
    refine x0 (r := (10, [some (.ref 64)], [.ref 64], es)) i_72_9 rfl ?_
    refine x_getr (p := 0) (k := 71) i_72_10 hs_es rfl rfl ?_
    show aW _ _ _ _ _ _ (13, [some (.ref 64)], [.ref 71], es)
    refine x0 (r := (14, [some (.ref 64)], [.ref 64, .ref 71], es)) i_72_13 rfl ?_
    refine x_getr (p := 0) (k := 82) i_72_14 hs_es rfl rfl ?_
    show aW _ _ _ _ _ _ (17, [some (.ref 64)], [.ref 82, .ref 71], es)
    refine x_call (vs := [.ref 71, .ref 82]) (rs := []) i_72_17 rfl (fun _ => rfl) rfl rfl rfl rfl rfl (pCall_v (p := 7) hs_es rfl rfl rfl rfl rfl (by decide) rfl rfl rfl rfl rfl) ?_
    show aW _ _ _ _ _ _ (0, [some (.ref 71), some (.ref 82)], [], es)
    refine x0 (r := (1, [some (.ref 71), some (.ref 82)], [.ref 71], es)) i_71_0 rfl ?_
    refine x0 (r := (2, [some (.ref 71), some (.ref 82)], [.ref 82, .ref 71], es)) i_71_1 rfl ?_
    refine x_geti (p := 18) i_71_2 hs_es rfl rfl ?_
    obtain ⟨v3, e_v3⟩ : ∃ z : Int, z = (gI es 18 0).toInt := ⟨_, rfl⟩
    rw [← e_v3]
    have r_v3 : iLO ≤ v3 ∧ v3 ≤ iHI := by rw [e_v3]; exact i32_rng _
    unfold iLO iHI at r_v3
    refine x_puti (p := 7) (ty := .int) i_71_5 hs_es rfl rfl rfl (Or.inl rfl) ?_
    obtain ⟨es4, e_es4⟩ : ∃ z : PH, z = sI es 7 0 (.int (zI v3)) := ⟨_, rfl⟩
    have hs_es4 : sh es4 := by rw [e_es4]; exact sh_sI hs_es (p := 7) (b := 0) rfl rfl
    have hT_es4 : hOK tT es4 := by rw [e_es4]; exact hOK_sI hT_es (p := 7) (b := 0) (lo := iLO) (hi := iHI) rfl rfl (i32_rng _)
    rw [← e_es4]
    refine x0 (r := (9, [some (.ref 71), some (.ref 82)], [.ref 82], es4)) i_71_8 rfl ?_
    refine x_getr (p := 18) (k := 83) i_71_9 hs_es4 rfl rfl ?_
    show aW _ _ _ _ _ _ (12, [some (.ref 71), some (.ref 82)], [.ref 83], es4)
    refine x0 (r := (13, [some (.ref 71), some (.ref 82)], [.ref 71, .ref 83], es4)) i_71_12 rfl ?_
    refine x_getr (p := 7) (k := 72) i_71_13 hs_es4 rfl rfl ?_
    show aW _ _ _ _ _ _ (16, [some (.ref 71), some (.ref 82)], [.ref 72, .ref 83], es4)
    refine x_call (vs := [.ref 83, .ref 72]) (rs := []) i_71_16 rfl (fun _ => rfl) rfl rfl rfl rfl rfl rfl ?_
    show aW _ _ _ _ _ _ (0, [some (.ref 83), some (.ref 72)], [], es4)
    refine x0 (r := (1, [some (.ref 83), some (.ref 72)], [.ref 83], es4)) i_20_0 rfl ?_
    refine x0 (r := (2, [some (.ref 83), some (.ref 72)], [.int (zI 0), .ref 83], es4)) i_20_1 (by rfl) ?_
    refine x0 (r := (3, [some (.ref 83), some (.ref 72)], [.ref 72, .int (zI 0), .ref 83], es4)) i_20_2 rfl ?_
    refine x0 (r := (4, [some (.ref 83), some (.ref 72)], [.int (zI 0), .ref 72, .int (zI 0), .ref 83], es4)) i_20_3 (by rfl) ?_
    refine x0 (r := (5, [some (.ref 83), some (.ref 72)], [.ref 83, .int (zI 0), .ref 72, .int (zI 0), .ref 83], es4)) i_20_4 rfl ?_
    refine x_alen (p := 19) (n := 5) i_20_5 hs_es4 rfl ?_
    refine x0 (r := (7, [some (.ref 83), some (.ref 72)], [.ref 72, .int (zI 5), .int (zI 0), .ref 72, .int (zI 0), .ref 83], es4)) i_20_6 rfl ?_
    refine x_alen (p := 8) (n := 5) i_20_7 hs_es4 rfl ?_
    refine x_min i_20_8 (by unfold i32 iLO iHI; omega) (by unfold i32 iLO iHI; omega) (Nat.le_of_ble_eq_true rfl) ?_
    show aW _ _ _ _ _ _ (11, [some (.ref 83), some (.ref 72)], [.int (zI 5), .int (zI 0), .ref 72, .int (zI 0), .ref 83], es4)
    refine x_acp (p := 19) (p2 := 8) (n := 5) i_20_11 hs_es4 rfl rfl (by decide) (Nat.le_of_ble_eq_true rfl) ?_
    obtain ⟨es5, e_es5⟩ : ∃ z : PH, z = sR es4 8 (va_cpy (gA es4 19) (gA es4 8) 0 0 5) := ⟨_, rfl⟩
    have hs_es5 : sh es5 := by rw [e_es5]; exact sh_sR hs_es4
    rw [← e_es5]
    refine x_ret (v := none) i_20_14 rfl (fun _ => rfl) rfl rfl rfl ?_
    show aW _ _ _ _ _ _ (19, [some (.ref 71), some (.ref 82)], [], es5)
    refine x0 (r := (20, [some (.ref 71), some (.ref 82)], [.ref 82], es5)) i_71_19 rfl ?_
    refine x_getr (p := 18) (k := 84) i_71_20 hs_es5 rfl rfl ?_
    show aW _ _ _ _ _ _ (23, [some (.ref 71), some (.ref 82)], [.ref 84], es5)
    refine x0 (r := (24, [some (.ref 71), some (.ref 82)], [.ref 71, .ref 84], es5)) i_71_23 rfl ?_
    refine x_getr (p := 7) (k := 73) i_71_24 hs_es5 rfl rfl ?_
    show aW _ _ _ _ _ _ (27, [some (.ref 71), some (.ref 82)], [.ref 73, .ref 84], es5)
    refine x_call (vs := [.ref 84, .ref 73]) (rs := []) i_71_27 rfl (fun _ => rfl) rfl rfl rfl rfl rfl rfl ?_
    show aW _ _ _ _ _ _ (0, [some (.ref 84), some (.ref 73)], [], es5)
    refine x0 (r := (1, [some (.ref 84), some (.ref 73)], [.ref 84], es5)) i_20_0 rfl ?_
    refine x0 (r := (2, [some (.ref 84), some (.ref 73)], [.int (zI 0), .ref 84], es5)) i_20_1 (by rfl) ?_
    refine x0 (r := (3, [some (.ref 84), some (.ref 73)], [.ref 73, .int (zI 0), .ref 84], es5)) i_20_2 rfl ?_
    refine x0 (r := (4, [some (.ref 84), some (.ref 73)], [.int (zI 0), .ref 73, .int (zI 0), .ref 84], es5)) i_20_3 (by rfl) ?_
    refine x0 (r := (5, [some (.ref 84), some (.ref 73)], [.ref 84, .int (zI 0), .ref 73, .int (zI 0), .ref 84], es5)) i_20_4 rfl ?_
    refine x_alen (p := 20) (n := 5) i_20_5 hs_es5 rfl ?_
    refine x0 (r := (7, [some (.ref 84), some (.ref 73)], [.ref 73, .int (zI 5), .int (zI 0), .ref 73, .int (zI 0), .ref 84], es5)) i_20_6 rfl ?_
    refine x_alen (p := 9) (n := 5) i_20_7 hs_es5 rfl ?_
    refine x_min i_20_8 (by unfold i32 iLO iHI; omega) (by unfold i32 iLO iHI; omega) (Nat.le_of_ble_eq_true rfl) ?_
    show aW _ _ _ _ _ _ (11, [some (.ref 84), some (.ref 73)], [.int (zI 5), .int (zI 0), .ref 73, .int (zI 0), .ref 84], es5)
    refine x_acp (p := 20) (p2 := 9) (n := 5) i_20_11 hs_es5 rfl rfl (by decide) (Nat.le_of_ble_eq_true rfl) ?_
    obtain ⟨es6, e_es6⟩ : ∃ z : PH, z = sR es5 9 (va_cpy (gA es5 20) (gA es5 9) 0 0 5) := ⟨_, rfl⟩
    have hs_es6 : sh es6 := by rw [e_es6]; exact sh_sR hs_es5
    rw [← e_es6]
    refine x_ret (v := none) i_20_14 rfl (fun _ => rfl) rfl rfl rfl ?_
    show aW _ _ _ _ _ _ (30, [some (.ref 71), some (.ref 82)], [], es6)
    refine x0 (r := (31, [some (.ref 71), some (.ref 82)], [.ref 82], es6)) i_71_30 rfl ?_
    refine x_getr (p := 18) (k := 85) i_71_31 hs_es6 rfl rfl ?_
    show aW _ _ _ _ _ _ (34, [some (.ref 71), some (.ref 82)], [.ref 85], es6)
    refine x0 (r := (35, [some (.ref 71), some (.ref 82)], [.ref 71, .ref 85], es6)) i_71_34 rfl ?_
    refine x_getr (p := 7) (k := 74) i_71_35 hs_es6 rfl rfl ?_
    show aW _ _ _ _ _ _ (38, [some (.ref 71), some (.ref 82)], [.ref 74, .ref 85], es6)
    refine x_call (vs := [.ref 85, .ref 74]) (rs := []) i_71_38 rfl (fun _ => rfl) rfl rfl rfl rfl rfl rfl ?_
    show aW _ _ _ _ _ _ (0, [some (.ref 85), some (.ref 74)], [], es6)
    refine x0 (r := (1, [some (.ref 85), some (.ref 74)], [.ref 85], es6)) i_20_0 rfl ?_
    refine x0 (r := (2, [some (.ref 85), some (.ref 74)], [.int (zI 0), .ref 85], es6)) i_20_1 (by rfl) ?_
    refine x0 (r := (3, [some (.ref 85), some (.ref 74)], [.ref 74, .int (zI 0), .ref 85], es6)) i_20_2 rfl ?_
    refine x0 (r := (4, [some (.ref 85), some (.ref 74)], [.int (zI 0), .ref 74, .int (zI 0), .ref 85], es6)) i_20_3 (by rfl) ?_
    refine x0 (r := (5, [some (.ref 85), some (.ref 74)], [.ref 85, .int (zI 0), .ref 74, .int (zI 0), .ref 85], es6)) i_20_4 rfl ?_
    refine x_alen (p := 21) (n := 60) i_20_5 hs_es6 rfl ?_
    refine x0 (r := (7, [some (.ref 85), some (.ref 74)], [.ref 74, .int (zI 60), .int (zI 0), .ref 74, .int (zI 0), .ref 85], es6)) i_20_6 rfl ?_
    refine x_alen (p := 10) (n := 60) i_20_7 hs_es6 rfl ?_
    refine x_min i_20_8 (by unfold i32 iLO iHI; omega) (by unfold i32 iLO iHI; omega) (Nat.le_of_ble_eq_true rfl) ?_
    show aW _ _ _ _ _ _ (11, [some (.ref 85), some (.ref 74)], [.int (zI 60), .int (zI 0), .ref 74, .int (zI 0), .ref 85], es6)
    refine x_acp (p := 21) (p2 := 10) (n := 60) i_20_11 hs_es6 rfl rfl (by decide) (Nat.le_of_ble_eq_true rfl) ?_
    obtain ⟨es7, e_es7⟩ : ∃ z : PH, z = sR es6 10 (va_cpy (gA es6 21) (gA es6 10) 0 0 60) := ⟨_, rfl⟩
    have hs_es7 : sh es7 := by rw [e_es7]; exact sh_sR hs_es6
    rw [← e_es7]
    refine x_ret (v := none) i_20_14 rfl (fun _ => rfl) rfl rfl rfl ?_
    show aW _ _ _ _ _ _ (41, [some (.ref 71), some (.ref 82)], [], es7)
    refine x0 (r := (42, [some (.ref 71), some (.ref 82)], [.ref 82], es7)) i_71_41 rfl ?_
    refine x_getr (p := 18) (k := 86) i_71_42 hs_es7 rfl rfl ?_
    show aW _ _ _ _ _ _ (45, [some (.ref 71), some (.ref 82)], [.ref 86], es7)
    refine x0 (r := (46, [some (.ref 71), some (.ref 82)], [.ref 71, .ref 86], es7)) i_71_45 rfl ?_
    refine x_getr (p := 7) (k := 75) i_71_46 hs_es7 rfl rfl ?_
    show aW _ _ _ _ _ _ (49, [some (.ref 71), some (.ref 82)], [.ref 75, .ref 86], es7)
    refine x_call (vs := [.ref 86, .ref 75]) (rs := []) i_71_49 rfl (fun _ => rfl) rfl rfl rfl rfl rfl rfl ?_
    show aW _ _ _ _ _ _ (0, [some (.ref 86), some (.ref 75)], [], es7)
    refine x0 (r := (1, [some (.ref 86), some (.ref 75)], [.ref 86], es7)) i_20_0 rfl ?_
    refine x0 (r := (2, [some (.ref 86), some (.ref 75)], [.int (zI 0), .ref 86], es7)) i_20_1 (by rfl) ?_
    refine x0 (r := (3, [some (.ref 86), some (.ref 75)], [.ref 75, .int (zI 0), .ref 86], es7)) i_20_2 rfl ?_
    refine x0 (r := (4, [some (.ref 86), some (.ref 75)], [.int (zI 0), .ref 75, .int (zI 0), .ref 86], es7)) i_20_3 (by rfl) ?_
    refine x0 (r := (5, [some (.ref 86), some (.ref 75)], [.ref 86, .int (zI 0), .ref 75, .int (zI 0), .ref 86], es7)) i_20_4 rfl ?_
    refine x_alen (p := 22) (n := 36) i_20_5 hs_es7 rfl ?_
    refine x0 (r := (7, [some (.ref 86), some (.ref 75)], [.ref 75, .int (zI 36), .int (zI 0), .ref 75, .int (zI 0), .ref 86], es7)) i_20_6 rfl ?_
    refine x_alen (p := 11) (n := 36) i_20_7 hs_es7 rfl ?_
    refine x_min i_20_8 (by unfold i32 iLO iHI; omega) (by unfold i32 iLO iHI; omega) (Nat.le_of_ble_eq_true rfl) ?_
    show aW _ _ _ _ _ _ (11, [some (.ref 86), some (.ref 75)], [.int (zI 36), .int (zI 0), .ref 75, .int (zI 0), .ref 86], es7)
    refine x_acp (p := 22) (p2 := 11) (n := 36) i_20_11 hs_es7 rfl rfl (by decide) (Nat.le_of_ble_eq_true rfl) ?_
    obtain ⟨es8, e_es8⟩ : ∃ z : PH, z = sR es7 11 (va_cpy (gA es7 22) (gA es7 11) 0 0 36) := ⟨_, rfl⟩
    have hs_es8 : sh es8 := by rw [e_es8]; exact sh_sR hs_es7
    rw [← e_es8]
    refine x_ret (v := none) i_20_14 rfl (fun _ => rfl) rfl rfl rfl ?_
    show aW _ _ _ _ _ _ (52, [some (.ref 71), some (.ref 82)], [], es8)
    refine x0 (r := (53, [some (.ref 71), some (.ref 82)], [.ref 71], es8)) i_71_52 rfl ?_
    refine x0 (r := (54, [some (.ref 71), some (.ref 82)], [.ref 82, .ref 71], es8)) i_71_53 rfl ?_
    refine x_geti (p := 18) i_71_54 hs_es8 rfl rfl ?_
    obtain ⟨v9, e_v9⟩ : ∃ z : Int, z = (gI es8 18 5).toInt := ⟨_, rfl⟩
    rw [← e_v9]
    have r_v9 : iLO ≤ v9 ∧ v9 ≤ iHI := by rw [e_v9]; exact i32_rng _
    unfold iLO iHI at r_v9
    refine x_puti (p := 7) (ty := .int) i_71_57 hs_es8 rfl rfl rfl (Or.inl rfl) ?_
    obtain ⟨es10, e_es10⟩ : ∃ z : PH, z = sI es8 7 5 (.int (zI v9)) := ⟨_, rfl⟩
    have hs_es10 : sh es10 := by rw [e_es10]; exact sh_sI hs_es8 (p := 7) (b := 5) rfl rfl
    rw [← e_es10]
    refine x0 (r := (61, [some (.ref 71), some (.ref 82)], [.ref 82], es10)) i_71_60 rfl ?_
    refine x_getr (p := 18) (k := 87) i_71_61 hs_es10 rfl rfl ?_
    show aW _ _ _ _ _ _ (64, [some (.ref 71), some (.ref 82)], [.ref 87], es10)
    refine x0 (r := (65, [some (.ref 71), some (.ref 82)], [.ref 71, .ref 87], es10)) i_71_64 rfl ?_
    refine x_getr (p := 7) (k := 76) i_71_65 hs_es10 rfl rfl ?_
    show aW _ _ _ _ _ _ (68, [some (.ref 71), some (.ref 82)], [.ref 76, .ref 87], es10)
    refine x_call (vs := [.ref 87, .ref 76]) (rs := []) i_71_68 rfl (fun _ => rfl) rfl rfl rfl rfl rfl rfl ?_
    show aW _ _ _ _ _ _ (0, [some (.ref 87), some (.ref 76)], [], es10)
    refine x0 (r := (1, [some (.ref 87), some (.ref 76)], [.ref 87], es10)) i_20_0 rfl ?_
    refine x0 (r := (2, [some (.ref 87), some (.ref 76)], [.int (zI 0), .ref 87], es10)) i_20_1 (by rfl) ?_
    refine x0 (r := (3, [some (.ref 87), some (.ref 76)], [.ref 76, .int (zI 0), .ref 87], es10)) i_20_2 rfl ?_
    refine x0 (r := (4, [some (.ref 87), some (.ref 76)], [.int (zI 0), .ref 76, .int (zI 0), .ref 87], es10)) i_20_3 (by rfl) ?_
    refine x0 (r := (5, [some (.ref 87), some (.ref 76)], [.ref 87, .int (zI 0), .ref 76, .int (zI 0), .ref 87], es10)) i_20_4 rfl ?_
    refine x_alen (p := 23) (n := 3) i_20_5 hs_es10 rfl ?_
    refine x0 (r := (7, [some (.ref 87), some (.ref 76)], [.ref 76, .int (zI 3), .int (zI 0), .ref 76, .int (zI 0), .ref 87], es10)) i_20_6 rfl ?_
    refine x_alen (p := 12) (n := 3) i_20_7 hs_es10 rfl ?_
    refine x_min i_20_8 (by unfold i32 iLO iHI; omega) (by unfold i32 iLO iHI; omega) (Nat.le_of_ble_eq_true rfl) ?_
    show aW _ _ _ _ _ _ (11, [some (.ref 87), some (.ref 76)], [.int (zI 3), .int (zI 0), .ref 76, .int (zI 0), .ref 87], es10)
    refine x_acp (p := 23) (p2 := 12) (n := 3) i_20_11 hs_es10 rfl rfl (by decide) (Nat.le_of_ble_eq_true rfl) ?_
    obtain ⟨es11, e_es11⟩ : ∃ z : PH, z = sR es10 12 (va_cpy (gA es10 23) (gA es10 12) 0 0 3) := ⟨_, rfl⟩
    have hs_es11 : sh es11 := by rw [e_es11]; exact sh_sR hs_es10
    rw [← e_es11]
    refine x_ret (v := none) i_20_14 rfl (fun _ => rfl) rfl rfl rfl ?_
    show aW _ _ _ _ _ _ (71, [some (.ref 71), some (.ref 82)], [], es11)
    refine x0 (r := (72, [some (.ref 71), some (.ref 82)], [.ref 82], es11)) i_71_71 rfl ?_
    refine x_getr (p := 18) (k := 88) i_71_72 hs_es11 rfl rfl ?_
    show aW _ _ _ _ _ _ (75, [some (.ref 71), some (.ref 82)], [.ref 88], es11)
    refine x0 (r := (76, [some (.ref 71), some (.ref 82)], [.ref 71, .ref 88], es11)) i_71_75 rfl ?_
    refine x_getr (p := 7) (k := 77) i_71_76 hs_es11 rfl rfl ?_
    show aW _ _ _ _ _ _ (79, [some (.ref 71), some (.ref 82)], [.ref 77, .ref 88], es11)
    refine x_call (vs := [.ref 88, .ref 77]) (rs := []) i_71_79 rfl (fun _ => rfl) rfl rfl rfl rfl rfl rfl ?_
    show aW _ _ _ _ _ _ (0, [some (.ref 88), some (.ref 77)], [], es11)
    refine x0 (r := (1, [some (.ref 88), some (.ref 77)], [.ref 88], es11)) i_20_0 rfl ?_
    refine x0 (r := (2, [some (.ref 88), some (.ref 77)], [.int (zI 0), .ref 88], es11)) i_20_1 (by rfl) ?_
    refine x0 (r := (3, [some (.ref 88), some (.ref 77)], [.ref 77, .int (zI 0), .ref 88], es11)) i_20_2 rfl ?_
    refine x0 (r := (4, [some (.ref 88), some (.ref 77)], [.int (zI 0), .ref 77, .int (zI 0), .ref 88], es11)) i_20_3 (by rfl) ?_
    refine x0 (r := (5, [some (.ref 88), some (.ref 77)], [.ref 88, .int (zI 0), .ref 77, .int (zI 0), .ref 88], es11)) i_20_4 rfl ?_
    refine x_alen (p := 24) (n := 3) i_20_5 hs_es11 rfl ?_
    refine x0 (r := (7, [some (.ref 88), some (.ref 77)], [.ref 77, .int (zI 3), .int (zI 0), .ref 77, .int (zI 0), .ref 88], es11)) i_20_6 rfl ?_
    refine x_alen (p := 13) (n := 3) i_20_7 hs_es11 rfl ?_
    refine x_min i_20_8 (by unfold i32 iLO iHI; omega) (by unfold i32 iLO iHI; omega) (Nat.le_of_ble_eq_true rfl) ?_
    show aW _ _ _ _ _ _ (11, [some (.ref 88), some (.ref 77)], [.int (zI 3), .int (zI 0), .ref 77, .int (zI 0), .ref 88], es11)
    refine x_acp (p := 24) (p2 := 13) (n := 3) i_20_11 hs_es11 rfl rfl (by decide) (Nat.le_of_ble_eq_true rfl) ?_
    obtain ⟨es12, e_es12⟩ : ∃ z : PH, z = sR es11 13 (va_cpy (gA es11 24) (gA es11 13) 0 0 3) := ⟨_, rfl⟩
    have hs_es12 : sh es12 := by rw [e_es12]; exact sh_sR hs_es11
    rw [← e_es12]
    refine x_ret (v := none) i_20_14 rfl (fun _ => rfl) rfl rfl rfl ?_
    show aW _ _ _ _ _ _ (82, [some (.ref 71), some (.ref 82)], [], es12)
    refine x0 (r := (83, [some (.ref 71), some (.ref 82)], [.ref 82], es12)) i_71_82 rfl ?_
    refine x_getr (p := 18) (k := 89) i_71_83 hs_es12 rfl rfl ?_
    show aW _ _ _ _ _ _ (86, [some (.ref 71), some (.ref 82)], [.ref 89], es12)
    refine x0 (r := (87, [some (.ref 71), some (.ref 82)], [.ref 71, .ref 89], es12)) i_71_86 rfl ?_
    refine x_getr (p := 7) (k := 78) i_71_87 hs_es12 rfl rfl ?_
    show aW _ _ _ _ _ _ (90, [some (.ref 71), some (.ref 82)], [.ref 78, .ref 89], es12)
    refine x_call (vs := [.ref 89, .ref 78]) (rs := []) i_71_90 rfl (fun _ => rfl) rfl rfl rfl rfl rfl rfl ?_
    show aW _ _ _ _ _ _ (0, [some (.ref 89), some (.ref 78)], [], es12)
    refine x0 (r := (1, [some (.ref 89), some (.ref 78)], [.ref 89], es12)) i_20_0 rfl ?_
    refine x0 (r := (2, [some (.ref 89), some (.ref 78)], [.int (zI 0), .ref 89], es12)) i_20_1 (by rfl) ?_
    refine x0 (r := (3, [some (.ref 89), some (.ref 78)], [.ref 78, .int (zI 0), .ref 89], es12)) i_20_2 rfl ?_
    refine x0 (r := (4, [some (.ref 89), some (.ref 78)], [.int (zI 0), .ref 78, .int (zI 0), .ref 89], es12)) i_20_3 (by rfl) ?_
    refine x0 (r := (5, [some (.ref 89), some (.ref 78)], [.ref 89, .int (zI 0), .ref 78, .int (zI 0), .ref 89], es12)) i_20_4 rfl ?_
    refine x_alen (p := 25) (n := 288) i_20_5 hs_es12 rfl ?_
    refine x0 (r := (7, [some (.ref 89), some (.ref 78)], [.ref 78, .int (zI 288), .int (zI 0), .ref 78, .int (zI 0), .ref 89], es12)) i_20_6 rfl ?_
    refine x_alen (p := 14) (n := 288) i_20_7 hs_es12 rfl ?_
    refine x_min i_20_8 (by unfold i32 iLO iHI; omega) (by unfold i32 iLO iHI; omega) (Nat.le_of_ble_eq_true rfl) ?_
    show aW _ _ _ _ _ _ (11, [some (.ref 89), some (.ref 78)], [.int (zI 288), .int (zI 0), .ref 78, .int (zI 0), .ref 89], es12)
    refine x_acp (p := 25) (p2 := 14) (n := 288) i_20_11 hs_es12 rfl rfl (by decide) (Nat.le_of_ble_eq_true rfl) ?_
    obtain ⟨es13, e_es13⟩ : ∃ z : PH, z = sR es12 14 (va_cpy (gA es12 25) (gA es12 14) 0 0 288) := ⟨_, rfl⟩
    have hs_es13 : sh es13 := by rw [e_es13]; exact sh_sR hs_es12
    rw [← e_es13]
    refine x_ret (v := none) i_20_14 rfl (fun _ => rfl) rfl rfl rfl ?_
    show aW _ _ _ _ _ _ (93, [some (.ref 71), some (.ref 82)], [], es13)
    refine x0 (r := (94, [some (.ref 71), some (.ref 82)], [.ref 82], es13)) i_71_93 rfl ?_
    refine x_getr (p := 18) (k := 90) i_71_94 hs_es13 rfl rfl ?_
    show aW _ _ _ _ _ _ (97, [some (.ref 71), some (.ref 82)], [.ref 90], es13)
    refine x0 (r := (98, [some (.ref 71), some (.ref 82)], [.ref 71, .ref 90], es13)) i_71_97 rfl ?_
    refine x_getr (p := 7) (k := 79) i_71_98 hs_es13 rfl rfl ?_
    show aW _ _ _ _ _ _ (101, [some (.ref 71), some (.ref 82)], [.ref 79, .ref 90], es13)
    refine x_call (vs := [.ref 90, .ref 79]) (rs := []) i_71_101 rfl (fun _ => rfl) rfl rfl rfl rfl rfl rfl ?_
    show aW _ _ _ _ _ _ (0, [some (.ref 90), some (.ref 79)], [], es13)
    refine x0 (r := (1, [some (.ref 90), some (.ref 79)], [.ref 90], es13)) i_20_0 rfl ?_
    refine x0 (r := (2, [some (.ref 90), some (.ref 79)], [.int (zI 0), .ref 90], es13)) i_20_1 (by rfl) ?_
    refine x0 (r := (3, [some (.ref 90), some (.ref 79)], [.ref 79, .int (zI 0), .ref 90], es13)) i_20_2 rfl ?_
    refine x0 (r := (4, [some (.ref 90), some (.ref 79)], [.int (zI 0), .ref 79, .int (zI 0), .ref 90], es13)) i_20_3 (by rfl) ?_
    refine x0 (r := (5, [some (.ref 90), some (.ref 79)], [.ref 90, .int (zI 0), .ref 79, .int (zI 0), .ref 90], es13)) i_20_4 rfl ?_
    refine x_alen (p := 26) (n := 8) i_20_5 hs_es13 rfl ?_
    refine x0 (r := (7, [some (.ref 90), some (.ref 79)], [.ref 79, .int (zI 8), .int (zI 0), .ref 79, .int (zI 0), .ref 90], es13)) i_20_6 rfl ?_
    refine x_alen (p := 15) (n := 8) i_20_7 hs_es13 rfl ?_
    refine x_min i_20_8 (by unfold i32 iLO iHI; omega) (by unfold i32 iLO iHI; omega) (Nat.le_of_ble_eq_true rfl) ?_
    show aW _ _ _ _ _ _ (11, [some (.ref 90), some (.ref 79)], [.int (zI 8), .int (zI 0), .ref 79, .int (zI 0), .ref 90], es13)
    refine x_acp (p := 26) (p2 := 15) (n := 8) i_20_11 hs_es13 rfl rfl (by decide) (Nat.le_of_ble_eq_true rfl) ?_
    obtain ⟨es14, e_es14⟩ : ∃ z : PH, z = sR es13 15 (va_cpy (gA es13 26) (gA es13 15) 0 0 8) := ⟨_, rfl⟩
    have hs_es14 : sh es14 := by rw [e_es14]; exact sh_sR hs_es13
    rw [← e_es14]
    refine x_ret (v := none) i_20_14 rfl (fun _ => rfl) rfl rfl rfl ?_
    show aW _ _ _ _ _ _ (104, [some (.ref 71), some (.ref 82)], [], es14)
    refine x0 (r := (105, [some (.ref 71), some (.ref 82)], [.ref 71], es14)) i_71_104 rfl ?_
    refine x0 (r := (106, [some (.ref 71), some (.ref 82)], [.ref 82, .ref 71], es14)) i_71_105 rfl ?_
    refine x_geti (p := 18) i_71_106 hs_es14 rfl rfl ?_
    obtain ⟨v15, e_v15⟩ : ∃ z : Int, z = (gI es14 18 10).toInt := ⟨_, rfl⟩
    rw [← e_v15]
    have r_v15 : iLO ≤ v15 ∧ v15 ≤ iHI := by rw [e_v15]; exact i32_rng _
    unfold iLO iHI at r_v15
    refine x_puti (p := 7) (ty := .int) i_71_109 hs_es14 rfl rfl rfl (Or.inl rfl) ?_
    obtain ⟨es16, e_es16⟩ : ∃ z : PH, z = sI es14 7 10 (.int (zI v15)) := ⟨_, rfl⟩
    have hs_es16 : sh es16 := by rw [e_es16]; exact sh_sI hs_es14 (p := 7) (b := 10) rfl rfl
    rw [← e_es16]
    refine x0 (r := (113, [some (.ref 71), some (.ref 82)], [.ref 71], es16)) i_71_112 rfl ?_
    refine x0 (r := (114, [some (.ref 71), some (.ref 82)], [.ref 82, .ref 71], es16)) i_71_113 rfl ?_
    refine x_geti (p := 18) i_71_114 hs_es16 rfl rfl ?_
    obtain ⟨v17, e_v17⟩ : ∃ z : Int, z = (gI es16 18 11).toInt := ⟨_, rfl⟩
    rw [← e_v17]
    have r_v17 : iLO ≤ v17 ∧ v17 ≤ iHI := by rw [e_v17]; exact i32_rng _
    unfold iLO iHI at r_v17
    refine x_puti (p := 7) (ty := .int) i_71_117 hs_es16 rfl rfl rfl (Or.inl rfl) ?_
    obtain ⟨es18, e_es18⟩ : ∃ z : PH, z = sI es16 7 11 (.int (zI v17)) := ⟨_, rfl⟩
    have hs_es18 : sh es18 := by rw [e_es18]; exact sh_sI hs_es16 (p := 7) (b := 11) rfl rfl
    rw [← e_es18]
    refine x0 (r := (121, [some (.ref 71), some (.ref 82)], [.ref 82], es18)) i_71_120 rfl ?_
    refine x_getr (p := 18) (k := 91) i_71_121 hs_es18 rfl rfl ?_
    show aW _ _ _ _ _ _ (124, [some (.ref 71), some (.ref 82)], [.ref 91], es18)
    refine x0 (r := (125, [some (.ref 71), some (.ref 82)], [.ref 71, .ref 91], es18)) i_71_124 rfl ?_
    refine x_getr (p := 7) (k := 80) i_71_125 hs_es18 rfl rfl ?_
    show aW _ _ _ _ _ _ (128, [some (.ref 71), some (.ref 82)], [.ref 80, .ref 91], es18)
    refine x_call (vs := [.ref 91, .ref 80]) (rs := []) i_71_128 rfl (fun _ => rfl) rfl rfl rfl rfl rfl rfl ?_
    show aW _ _ _ _ _ _ (0, [some (.ref 91), some (.ref 80)], [], es18)
    refine x0 (r := (1, [some (.ref 91), some (.ref 80)], [.ref 91], es18)) i_20_0 rfl ?_
    refine x0 (r := (2, [some (.ref 91), some (.ref 80)], [.int (zI 0), .ref 91], es18)) i_20_1 (by rfl) ?_
    refine x0 (r := (3, [some (.ref 91), some (.ref 80)], [.ref 80, .int (zI 0), .ref 91], es18)) i_20_2 rfl ?_
    refine x0 (r := (4, [some (.ref 91), some (.ref 80)], [.int (zI 0), .ref 80, .int (zI 0), .ref 91], es18)) i_20_3 (by rfl) ?_
    refine x0 (r := (5, [some (.ref 91), some (.ref 80)], [.ref 91, .int (zI 0), .ref 80, .int (zI 0), .ref 91], es18)) i_20_4 rfl ?_
    refine x_alen (p := 27) (n := 30) i_20_5 hs_es18 rfl ?_
    refine x0 (r := (7, [some (.ref 91), some (.ref 80)], [.ref 80, .int (zI 30), .int (zI 0), .ref 80, .int (zI 0), .ref 91], es18)) i_20_6 rfl ?_
    refine x_alen (p := 16) (n := 30) i_20_7 hs_es18 rfl ?_
    refine x_min i_20_8 (by unfold i32 iLO iHI; omega) (by unfold i32 iLO iHI; omega) (Nat.le_of_ble_eq_true rfl) ?_
    show aW _ _ _ _ _ _ (11, [some (.ref 91), some (.ref 80)], [.int (zI 30), .int (zI 0), .ref 80, .int (zI 0), .ref 91], es18)
    refine x_acp (p := 27) (p2 := 16) (n := 30) i_20_11 hs_es18 rfl rfl (by decide) (Nat.le_of_ble_eq_true rfl) ?_
    obtain ⟨es19, e_es19⟩ : ∃ z : PH, z = sR es18 16 (va_cpy (gA es18 27) (gA es18 16) 0 0 30) := ⟨_, rfl⟩
    have hs_es19 : sh es19 := by rw [e_es19]; exact sh_sR hs_es18
    rw [← e_es19]
    refine x_ret (v := none) i_20_14 rfl (fun _ => rfl) rfl rfl rfl ?_
    show aW _ _ _ _ _ _ (131, [some (.ref 71), some (.ref 82)], [], es19)
    refine x0 (r := (132, [some (.ref 71), some (.ref 82)], [.ref 71], es19)) i_71_131 rfl ?_
    refine x0 (r := (133, [some (.ref 71), some (.ref 82)], [.ref 82, .ref 71], es19)) i_71_132 rfl ?_
    refine x_geti (p := 18) i_71_133 hs_es19 rfl rfl ?_
    obtain ⟨v20, e_v20⟩ : ∃ z : Int, z = (gI es19 18 13).toInt := ⟨_, rfl⟩
    rw [← e_v20]
    have r_v20 : iLO ≤ v20 ∧ v20 ≤ iHI := by rw [e_v20]; exact i32_rng _
    unfold iLO iHI at r_v20
    refine x_puti (p := 7) (ty := .int) i_71_136 hs_es19 rfl rfl rfl (Or.inl rfl) ?_
    obtain ⟨es21, e_es21⟩ : ∃ z : PH, z = sI es19 7 13 (.int (zI v20)) := ⟨_, rfl⟩
    have hs_es21 : sh es21 := by rw [e_es21]; exact sh_sI hs_es19 (p := 7) (b := 13) rfl rfl
    rw [← e_es21]
    refine x0 (r := (140, [some (.ref 71), some (.ref 82)], [.ref 82], es21)) i_71_139 rfl ?_
    refine x_getr (p := 18) (k := 92) i_71_140 hs_es21 rfl rfl ?_
    show aW _ _ _ _ _ _ (143, [some (.ref 71), some (.ref 82)], [.ref 92], es21)
    refine x0 (r := (144, [some (.ref 71), some (.ref 82)], [.ref 71, .ref 92], es21)) i_71_143 rfl ?_
    refine x_getr (p := 7) (k := 81) i_71_144 hs_es21 rfl rfl ?_
    show aW _ _ _ _ _ _ (147, [some (.ref 71), some (.ref 82)], [.ref 81, .ref 92], es21)
    refine x_call (vs := [.ref 92, .ref 81]) (rs := []) i_71_147 rfl (fun _ => rfl) rfl rfl rfl rfl rfl rfl ?_
    show aW _ _ _ _ _ _ (0, [some (.ref 92), some (.ref 81)], [], es21)
    refine x0 (r := (1, [some (.ref 92), some (.ref 81)], [.ref 92], es21)) i_20_0 rfl ?_
    refine x0 (r := (2, [some (.ref 92), some (.ref 81)], [.int (zI 0), .ref 92], es21)) i_20_1 (by rfl) ?_
    refine x0 (r := (3, [some (.ref 92), some (.ref 81)], [.ref 81, .int (zI 0), .ref 92], es21)) i_20_2 rfl ?_
    refine x0 (r := (4, [some (.ref 92), some (.ref 81)], [.int (zI 0), .ref 81, .int (zI 0), .ref 92], es21)) i_20_3 (by rfl) ?_
    refine x0 (r := (5, [some (.ref 92), some (.ref 81)], [.ref 92, .int (zI 0), .ref 81, .int (zI 0), .ref 92], es21)) i_20_4 rfl ?_
    refine x_alen (p := 28) (n := 400) i_20_5 hs_es21 rfl ?_
    refine x0 (r := (7, [some (.ref 92), some (.ref 81)], [.ref 81, .int (zI 400), .int (zI 0), .ref 81, .int (zI 0), .ref 92], es21)) i_20_6 rfl ?_
    refine x_alen (p := 17) (n := 400) i_20_7 hs_es21 rfl ?_
    refine x_min i_20_8 (by unfold i32 iLO iHI; omega) (by unfold i32 iLO iHI; omega) (Nat.le_of_ble_eq_true rfl) ?_
    show aW _ _ _ _ _ _ (11, [some (.ref 92), some (.ref 81)], [.int (zI 400), .int (zI 0), .ref 81, .int (zI 0), .ref 92], es21)
    refine x_acp (p := 28) (p2 := 17) (n := 400) i_20_11 hs_es21 rfl rfl (by decide) (Nat.le_of_ble_eq_true rfl) ?_
    obtain ⟨es22, e_es22⟩ : ∃ z : PH, z = sR es21 17 (va_cpy (gA es21 28) (gA es21 17) 0 0 400) := ⟨_, rfl⟩
    have hs_es22 : sh es22 := by rw [e_es22]; exact sh_sR hs_es21
    rw [← e_es22]
    refine x_ret (v := none) i_20_14 rfl (fun _ => rfl) rfl rfl rfl ?_
    show aW _ _ _ _ _ _ (150, [some (.ref 71), some (.ref 82)], [], es22)
    refine x_ret (v := none) i_71_150 rfl (fun _ => rfl) rfl rfl rfl ?_
    show aW _ _ _ _ _ _ (20, [some (.ref 64)], [], es22)
    refine x0 (r := (21, [some (.ref 64)], [.ref 64], es22)) i_72_20 rfl ?_
    refine x_call (vs := [.ref 64]) (rs := []) i_72_21 rfl (fun _ => rfl) rfl rfl rfl rfl rfl (pCall_v (p := 0) hs_es22 rfl rfl rfl rfl rfl (by decide) rfl rfl rfl rfl rfl) ?_
    show aW _ _ _ _ _ _ (0, [some (.ref 64)], [], es22)
    refine x0 (r := (1, [some (.ref 64)], [.ref 64], es22)) i_73_0 rfl ?_
    refine x0 (r := (2, [some (.ref 64)], [.int (zI 0), .ref 64], es22)) i_73_1 (by rfl) ?_
    refine x_puti (p := 0) (ty := .boolean) i_73_2 hs_es22 rfl rfl rfl (Or.inr ⟨rfl, by omega⟩) ?_
    obtain ⟨es23, e_es23⟩ : ∃ z : PH, z = sI es22 0 10 (.int (zI 0)) := ⟨_, rfl⟩
    have hs_es23 : sh es23 := by rw [e_es23]; exact sh_sI hs_es22 (p := 0) (b := 10) rfl rfl
    rw [← e_es23]
    refine x0 (r := (6, [some (.ref 64)], [.ref 64], es23)) i_73_5 rfl ?_
    refine x_getr (p := 0) (k := 137) i_73_6 hs_es23 rfl rfl ?_
    show aW _ _ _ _ _ _ (9, [some (.ref 64)], [.ref 137], es23)
    refine x0 (r := (10, [some (.ref 64)], [.int (zI 0), .ref 137], es23)) i_73_9 (by rfl) ?_
    refine x_puti (p := 73) (ty := .boolean) i_73_10 hs_es23 rfl rfl rfl (Or.inr ⟨rfl, by omega⟩) ?_
    obtain ⟨es24, e_es24⟩ : ∃ z : PH, z = sI es23 73 3 (.int (zI 0)) := ⟨_, rfl⟩
    have hs_es24 : sh es24 := by rw [e_es24]; exact sh_sI hs_es23 (p := 73) (b := 3) rfl rfl
    rw [← e_es24]
    refine x_ret (v := none) i_73_13 rfl (fun _ => rfl) rfl rfl rfl ?_
    show aW _ _ _ _ _ _ (24, [some (.ref 64)], [], es24)
    refine x0 (r := (25, [some (.ref 64)], [.int (zI 1)], es24)) i_72_24 (by rfl) ?_
    refine x_ret (v := some (.int (zI 1))) i_72_25 rfl (fun _ => rfl) rfl rfl (pFin_b (by omega)) ?_
    exact K1 v1 e_v1 c2 v3 e_v3 es4 e_es4 es5 e_es5 es6 e_es6 es7 e_es7 es8 e_es8 v9 e_v9 es10 e_es10 es11 e_es11 es12 e_es12 es13 e_es13 es14 e_es14 v15 e_v15 es16 e_es16 v17 e_v17 es18 e_es18 es19 e_es19 v20 e_v20 es21 e_es21 es22 e_es22 es23 e_es23 es24 e_es24
  · refine x_ifF i_72_4 (by unfold i32 iLO iHI; omega) rfl (by simp only [zC, cR]; omega) ?_
    refine x0 (r := (8, [some (.ref 64)], [.int (zI 0)], es)) i_72_7 (by rfl) ?_
    refine x_ret (v := some (.int (zI 0))) i_72_8 rfl (fun _ => rfl) rfl rfl (pFin_b (by omega)) ?_
    exact K2 v1 e_v1 c2
def xbaP (es es1 : PH) : Prop := sh es1 ∧ gI es1 7 0 = gI es 18 0 ∧ gI es1 7 5 = gI es 18 5 ∧ (∀ k, k < 5 → gA es1 8 k = gA es 19 k) ∧ (∀ k, k < 5 → gA es1 9 k = gA es 20 k) ∧ (∀ k, k < 60 → gA es1 10 k = gA es 21 k) ∧ (∀ k, k < 36 → gA es1 11 k = gA es 22 k) ∧ (∀ k, k < 3 → gA es1 12 k = gA es 23 k) ∧ (∀ k, k < 3 → gA es1 13 k = gA es 24 k) ∧ (∀ k, k < 288 → gA es1 14 k = gA es 25 k) ∧ (∀ k, k < 8 → gA es1 15 k = gA es 26 k)
theorem fn_xback {O : pOut} {d : Nat} {es : PH} (hT : hOK tT es) : aW O (d + 3) 72 0 0 (fun o => (o.1 = .inl (some (.int (zI 0))) ∧ (gI es 0 9).toInt = 0 ∧ o.2.1 = es) ∨ (o.1 = .inl (some (.int (zI 1))) ∧ ¬ (gI es 0 9).toInt = 0 ∧ xbaP es o.2.1)) (0, [some (.ref 64)], [], es) := by
  have hs_es := sh_of hT
  refine s_xba (d := d) (kc := 0) (ks := 0) hs_es hT (fun v1 e_v1 c2 v3 e_v3 es4 e_es4 es5 e_es5 es6 e_es6 es7 e_es7 es8 e_es8 v9 e_v9 es10 e_es10 es11 e_es11 es12 e_es12 es13 e_es13 es14 e_es14 v15 e_v15 es16 e_es16 v17 e_v17 es18 e_es18 es19 e_es19 v20 e_v20 es21 e_es21 es22 e_es22 es23 e_es23 es24 e_es24 => ?_) (fun v1 e_v1 c2 => ?_)
  · refine Or.inr ⟨rfl, (show ¬ (gI es 0 9).toInt = 0 by omega), ?_⟩
    have hs_es4 : sh es4 := by rw [e_es4]; exact sh_sI hs_es (p := 7) (b := 0) rfl rfl
    have hs_es5 : sh es5 := by rw [e_es5]; exact sh_sR hs_es4
    have hs_es6 : sh es6 := by rw [e_es6]; exact sh_sR hs_es5
    have hs_es7 : sh es7 := by rw [e_es7]; exact sh_sR hs_es6
    have hs_es8 : sh es8 := by rw [e_es8]; exact sh_sR hs_es7
    have hs_es10 : sh es10 := by rw [e_es10]; exact sh_sI hs_es8 (p := 7) (b := 5) rfl rfl
    have hs_es11 : sh es11 := by rw [e_es11]; exact sh_sR hs_es10
    have hs_es12 : sh es12 := by rw [e_es12]; exact sh_sR hs_es11
    have hs_es13 : sh es13 := by rw [e_es13]; exact sh_sR hs_es12
    have hs_es14 : sh es14 := by rw [e_es14]; exact sh_sR hs_es13
    have hs_es16 : sh es16 := by rw [e_es16]; exact sh_sI hs_es14 (p := 7) (b := 10) rfl rfl
    have hs_es18 : sh es18 := by rw [e_es18]; exact sh_sI hs_es16 (p := 7) (b := 11) rfl rfl
    have hs_es19 : sh es19 := by rw [e_es19]; exact sh_sR hs_es18
    have hs_es21 : sh es21 := by rw [e_es21]; exact sh_sI hs_es19 (p := 7) (b := 13) rfl rfl
    have hs_es22 : sh es22 := by rw [e_es22]; exact sh_sR hs_es21
    have hs_es23 : sh es23 := by rw [e_es23]; exact sh_sI hs_es22 (p := 0) (b := 10) rfl rfl
    have hs_es24 : sh es24 := by rw [e_es24]; exact sh_sI hs_es23 (p := 73) (b := 3) rfl rfl
    have hP : xbaP es es24 := ⟨hs_es24,
      by rw [e_es24, gI_sI_ne (Or.inl (by decide)), e_es23, gI_sI_ne (Or.inl (by decide)), e_es22, gI_sR, e_es21, gI_sI_ne (Or.inr (by decide)), e_es19, gI_sR, e_es18, gI_sI_ne (Or.inr (by decide)), e_es16, gI_sI_ne (Or.inr (by decide)), e_es14, gI_sR, e_es13, gI_sR, e_es12, gI_sR, e_es11, gI_sR, e_es10, gI_sI_ne (Or.inr (by decide)), e_es8, gI_sR, e_es7, gI_sR, e_es6, gI_sR, e_es5, gI_sR, e_es4, gI_sI hs_es (p := 7) (b := 0) rfl (by decide), e_v3, zI_id],
      by rw [e_es24, gI_sI_ne (Or.inl (by decide)), e_es23, gI_sI_ne (Or.inl (by decide)), e_es22, gI_sR, e_es21, gI_sI_ne (Or.inr (by decide)), e_es19, gI_sR, e_es18, gI_sI_ne (Or.inr (by decide)), e_es16, gI_sI_ne (Or.inr (by decide)), e_es14, gI_sR, e_es13, gI_sR, e_es12, gI_sR, e_es11, gI_sR, e_es10, gI_sI hs_es8 (p := 7) (b := 5) rfl (by decide), e_v9, zI_id, e_es8, gI_sR, e_es7, gI_sR, e_es6, gI_sR, e_es5, gI_sR, e_es4, gI_sI_ne (Or.inl (by decide))],
      fun k hk => by rw [e_es24, gA_sI, e_es23, gA_sI, e_es22, gA_sR_ne (by decide), e_es21, gA_sI, e_es19, gA_sR_ne (by decide), e_es18, gA_sI, e_es16, gA_sI, e_es14, gA_sR_ne (by decide), e_es13, gA_sR_ne (by decide), e_es12, gA_sR_ne (by decide), e_es11, gA_sR_ne (by decide), e_es10, gA_sI, e_es8, gA_sR_ne (by decide), e_es7, gA_sR_ne (by decide), e_es6, gA_sR_ne (by decide), e_es5, gA_sR hs_es4 (p := 8) (t := 0) (n := 5) rfl (by decide), cpy_at hk, e_es4, gA_sI],
      fun k hk => by rw [e_es24, gA_sI, e_es23, gA_sI, e_es22, gA_sR_ne (by decide), e_es21, gA_sI, e_es19, gA_sR_ne (by decide), e_es18, gA_sI, e_es16, gA_sI, e_es14, gA_sR_ne (by decide), e_es13, gA_sR_ne (by decide), e_es12, gA_sR_ne (by decide), e_es11, gA_sR_ne (by decide), e_es10, gA_sI, e_es8, gA_sR_ne (by decide), e_es7, gA_sR_ne (by decide), e_es6, gA_sR hs_es5 (p := 9) (t := 0) (n := 5) rfl (by decide), cpy_at hk, e_es5, gA_sR_ne (by decide), e_es4, gA_sI],
      fun k hk => by rw [e_es24, gA_sI, e_es23, gA_sI, e_es22, gA_sR_ne (by decide), e_es21, gA_sI, e_es19, gA_sR_ne (by decide), e_es18, gA_sI, e_es16, gA_sI, e_es14, gA_sR_ne (by decide), e_es13, gA_sR_ne (by decide), e_es12, gA_sR_ne (by decide), e_es11, gA_sR_ne (by decide), e_es10, gA_sI, e_es8, gA_sR_ne (by decide), e_es7, gA_sR hs_es6 (p := 10) (t := 0) (n := 60) rfl (by decide), cpy_at hk, e_es6, gA_sR_ne (by decide), e_es5, gA_sR_ne (by decide), e_es4, gA_sI],
      fun k hk => by rw [e_es24, gA_sI, e_es23, gA_sI, e_es22, gA_sR_ne (by decide), e_es21, gA_sI, e_es19, gA_sR_ne (by decide), e_es18, gA_sI, e_es16, gA_sI, e_es14, gA_sR_ne (by decide), e_es13, gA_sR_ne (by decide), e_es12, gA_sR_ne (by decide), e_es11, gA_sR_ne (by decide), e_es10, gA_sI, e_es8, gA_sR hs_es7 (p := 11) (t := 0) (n := 36) rfl (by decide), cpy_at hk, e_es7, gA_sR_ne (by decide), e_es6, gA_sR_ne (by decide), e_es5, gA_sR_ne (by decide), e_es4, gA_sI],
      fun k hk => by rw [e_es24, gA_sI, e_es23, gA_sI, e_es22, gA_sR_ne (by decide), e_es21, gA_sI, e_es19, gA_sR_ne (by decide), e_es18, gA_sI, e_es16, gA_sI, e_es14, gA_sR_ne (by decide), e_es13, gA_sR_ne (by decide), e_es12, gA_sR_ne (by decide), e_es11, gA_sR hs_es10 (p := 12) (t := 0) (n := 3) rfl (by decide), cpy_at hk, e_es10, gA_sI, e_es8, gA_sR_ne (by decide), e_es7, gA_sR_ne (by decide), e_es6, gA_sR_ne (by decide), e_es5, gA_sR_ne (by decide), e_es4, gA_sI],
      fun k hk => by rw [e_es24, gA_sI, e_es23, gA_sI, e_es22, gA_sR_ne (by decide), e_es21, gA_sI, e_es19, gA_sR_ne (by decide), e_es18, gA_sI, e_es16, gA_sI, e_es14, gA_sR_ne (by decide), e_es13, gA_sR_ne (by decide), e_es12, gA_sR hs_es11 (p := 13) (t := 0) (n := 3) rfl (by decide), cpy_at hk, e_es11, gA_sR_ne (by decide), e_es10, gA_sI, e_es8, gA_sR_ne (by decide), e_es7, gA_sR_ne (by decide), e_es6, gA_sR_ne (by decide), e_es5, gA_sR_ne (by decide), e_es4, gA_sI],
      fun k hk => by rw [e_es24, gA_sI, e_es23, gA_sI, e_es22, gA_sR_ne (by decide), e_es21, gA_sI, e_es19, gA_sR_ne (by decide), e_es18, gA_sI, e_es16, gA_sI, e_es14, gA_sR_ne (by decide), e_es13, gA_sR hs_es12 (p := 14) (t := 0) (n := 288) rfl (by decide), cpy_at hk, e_es12, gA_sR_ne (by decide), e_es11, gA_sR_ne (by decide), e_es10, gA_sI, e_es8, gA_sR_ne (by decide), e_es7, gA_sR_ne (by decide), e_es6, gA_sR_ne (by decide), e_es5, gA_sR_ne (by decide), e_es4, gA_sI],
      fun k hk => by rw [e_es24, gA_sI, e_es23, gA_sI, e_es22, gA_sR_ne (by decide), e_es21, gA_sI, e_es19, gA_sR_ne (by decide), e_es18, gA_sI, e_es16, gA_sI, e_es14, gA_sR hs_es13 (p := 15) (t := 0) (n := 8) rfl (by decide), cpy_at hk, e_es13, gA_sR_ne (by decide), e_es12, gA_sR_ne (by decide), e_es11, gA_sR_ne (by decide), e_es10, gA_sI, e_es8, gA_sR_ne (by decide), e_es7, gA_sR_ne (by decide), e_es6, gA_sR_ne (by decide), e_es5, gA_sR_ne (by decide), e_es4, gA_sI]⟩
    exact hP
  · exact Or.inl ⟨rfl, (show (gI es 0 9).toInt = 0 by omega), rfl⟩
section
variable {O : pOut} {d kc ks : Nat} {Q : pRes → Prop} {es0 : PH} {Mo : List aMod}
theorem image_loopR (hm1 : (81, 0, 0, 1284) ∈ Mo) (hm2 : (79, 5, 0, 1) ∈ Mo) (K : ∀ es', hOK tT es' → fr Mo es0 es' → (∀ i, i < 1284 → gA es' 81 i = gA es0 80 i) → gA es' 80 = gA es0 80 → gI es' 79 3 = zI 1 → Q (.inl none, es', kc, ks)) :
    ∀ (m : Nat) (k : Int) (es : PH), k + m = 1284 → 0 ≤ k → hOK tT es → fr Mo es0 es → (∀ i : Nat, (i : Int) < k → gA es 81 i = gA es0 80 i) → gA es 80 = gA es0 80 → aW O d 169 kc ks Q (7, [some (.ref 143), some (.int (zI k))], [], es) := by
  intro m
  induction m with
  | zero =>
    intro k es hk h0 hT hf h1 h2
    refine s_image7 (sh_of hT) ⟨h0, by omega⟩ (fun _ es2 he2 => ?_) (fun h => by omega)
    subst he2
    refine K _ (hOK_sI hT (p := 79) (b := 3) rfl rfl (by show (0 : Int) ≤ (zI 1).toInt ∧ (zI 1).toInt ≤ 1; decide)) (fr_trans hf (fr_sI (mIn_of hm2 (Nat.le_refl _) (by omega)))) (fun i hi => ?_) ?_ (gI_sI (sh_of hT) (p := 79) (b := 3) rfl (by decide))
    · rw [gA_sI]; exact h1 i (by omega)
    · rw [gA_sI]; exact h2
  | succ m ih =>
    intro k es hk h0 hT hf h1 h2
    refine s_image7 (sh_of hT) ⟨h0, by omega⟩ (fun h => by omega) (fun _ v hv es4 he4 => ?_)
    have hzv : zI v = gA es 80 k.toNat := by rw [hv, zI_id]
    rw [hzv] at he4
    have hb := gA_bd hT (p := 80) (t := 0) (n := 2125) (sp := tS80) (k := k.toNat) rfl (by omega) (by decide)
    have hT4 : hOK tT es4 := by rw [he4]; exact hOK_sA hT (p := 81) (t := 0) (n := 1284) (sp := tS81) rfl (fun _ => hb)
    have hf4 : fr Mo es0 es4 := by rw [he4]; exact fr_trans hf (fr_sA (mIn_of hm1 (by omega) (by omega)))
    refine ih (k + 1) es4 (by omega) (by omega) hT4 hf4 (fun i hi => ?_) ?_
    · rw [he4, gA_sA (sh_of hT) (p := 81) (t := 0) (n := 1284) (sp := tS81) rfl (by decide)]
      unfold upd
      split
      · rename_i hik; rw [h2, hik]
      · exact h1 i (by omega)
    · rw [he4, gA_sA_ne (by decide)]; exact h2
end
def frIm : List aMod := [(79, 2, 0, 1), (79, 5, 0, 1), (81, 0, 0, 1284)]
def frBa : List aMod := [(79, 2, 0, 1), (80, 0, 0, 1284)]
theorem fn_mimage {O : pOut} {d : Nat} {es : PH} (hT : hOK tT es) : aW O d 169 0 0 (fun o => o.1 = .inl none ∧ hOK tT o.2.1 ∧ fr frIm es o.2.1 ∧ (∀ k, k < 1284 → gA o.2.1 81 k = gA es 80 k) ∧ gA o.2.1 80 = gA es 80 ∧ gI o.2.1 79 3 = zI 1) (0, [some (.ref 143), none], [], es) := by
  refine s_image0 (d := d) (kc := 0) (ks := 0) (sh_of hT) (fun es1 he1 => ?_)
  have hT1 : hOK tT es1 := by rw [he1]; exact thr_sI hT _
  have hf1 : fr frIm es es1 := by rw [he1]; exact fr_sI rfl
  have e80 : gA es1 80 = gA es 80 := by rw [he1, gA_sI]
  exact image_loopR (Mo := frIm) (es0 := es) (by decide) (by decide) (fun es' q1 q2 q3 q4 q5 => ⟨rfl, q1, q2, q3, q4, q5⟩) 1284 0 es1 (by omega) (by omega) hT1 hf1 (fun i hi => by omega) e80
theorem fn_mback {O : pOut} {d : Nat} {es : PH} (hT : hOK tT es) : aW O d 170 0 0 (fun o => hOK tT o.2.1 ∧ fr frBa es o.2.1 ∧ gA o.2.1 81 = gA es 81 ∧ ((o.1 = .inl (some (.int (zI 0))) ∧ (gI es 79 3).toInt = 0 ∧ gA o.2.1 80 = gA es 80) ∨ (o.1 = .inl (some (.int (zI 1))) ∧ ¬ (gI es 79 3).toInt = 0 ∧ ∀ k, k < 1284 → gA o.2.1 80 k = gA es 81 k))) (0, [some (.ref 143), none], [], es) := by
  have cells : ∀ es1 : PH, es1 = sI es 79 0 (.int (zI 0)) → hOK tT es1 ∧ fr frBa es es1 ∧ gA es1 81 = gA es 81 ∧ gA es1 80 = gA es 80 ∧ gI es1 79 3 = gI es 79 3 := fun es1 he1 => by
    rw [he1]; exact ⟨thr_sI hT _, fr_sI rfl, gA_sI, gA_sI, gI_sI_ne (Or.inr (by decide))⟩
  refine s_back0 (d := d) (kc := 0) (ks := 0) (sh_of hT) (fun es1 he1 v hv hv0 => ?_) (fun es1 he1 v hv hv0 => ?_)
  · obtain ⟨hT1, hf1, e81, e80, e3⟩ := cells es1 he1
    rw [e3] at hv
    exact back_loop (Mo := frBa) (es0 := es) (by decide) (fun es' q1 q2 q3 q4 => ⟨q1, q2, q4, Or.inr ⟨rfl, by omega, q3⟩⟩) 1284 0 es1 (by omega) (by omega) hT1 hf1 (fun i hi => by omega) e81
  · obtain ⟨hT1, hf1, e81, e80, e3⟩ := cells es1 he1
    rw [e3] at hv
    exact ⟨hT1, hf1, e81, Or.inl ⟨rfl, by omega, e80⟩⟩
/-! END of both sides; printed by wip/rel/ends.py -/
theorem s_xend {O : pOut} {d kc ks : Nat} {Q : pRes → Prop} {es : PH} {n : Int} (hs_es : sh es) (h_n : -2147483648 ≤ n ∧ n ≤ 2147483647) (hT_es : hOK tT es)
    (K1 : n < 0 → Q (.inl (some (.int (zI 0))), es, kc, ks))
    (K2 : ¬ (n < 0) → ∀ v2 : Int, v2 = (gI es 1 1).toInt → n ≤ v2 → ∀ es4 : PH, es4 = sI es 1 1 (.int (zI n)) → Q (.inl (some (.int (zI 1))), es4, kc, ks))
    (K3 : ¬ (n < 0) → ∀ v2 : Int, v2 = (gI es 1 1).toInt → ¬ (n ≤ v2) → Q (.inl (some (.int (zI 0))), es, kc, ks)) :
    aW O d 15 kc ks Q (0, [some (.ref 64), some (.int (zI n))], [], es) := by
  refine x0 (r := (1, [some (.ref 64), some (.int (zI n))], [.int (zI n)], es)) i_15_0 rfl ?_
  by_cases c1 : n < 0
  · refine x_ifT i_15_1 (by unfold i32 iLO iHI; omega) rfl (by simp only [zC, cR]; omega) ?_
    refine x0 (r := (16, [some (.ref 64), some (.int (zI n))], [.int (zI 0)], es)) i_15_15 (by rfl) ?_
    refine x_ret (v := some (.int (zI 0))) i_15_16 rfl (fun _ => rfl) rfl rfl (pFin_b (by omega)) ?_
    exact K1 c1
  · refine x_ifF i_15_1 (by unfold i32 iLO iHI; omega) rfl (by simp only [zC, cR]; omega) ?_
    refine x0 (r := (5, [some (.ref 64), some (.int (zI n))], [.int (zI n)], es)) i_15_4 rfl ?_
    refine x0 (r := (6, [some (.ref 64), some (.int (zI n))], [.ref 64, .int (zI n)], es)) i_15_5 rfl ?_
    refine x_getr (p := 0) (k := 65) i_15_6 hs_es rfl rfl ?_
    show aW _ _ _ _ _ _ (9, [some (.ref 64), some (.int (zI n))], [.ref 65, .int (zI n)], es)
    refine x_geti (p := 1) i_15_9 hs_es rfl rfl ?_
    obtain ⟨v2, e_v2⟩ : ∃ z : Int, z = (gI es 1 1).toInt := ⟨_, rfl⟩
    rw [← e_v2]
    have r_v2 : iLO ≤ v2 ∧ v2 ≤ iHI := by rw [e_v2]; exact i32_rng _
    unfold iLO iHI at r_v2
    by_cases c3 : n ≤ v2
    · refine x_cmpT i_15_12 (by unfold i32 iLO iHI; omega) (by unfold i32 iLO iHI; omega) rfl (by simp only [zC, cR]; omega) ?_
      refine x0 (r := (18, [some (.ref 64), some (.int (zI n))], [.ref 64], es)) i_15_17 rfl ?_
      refine x_getr (p := 0) (k := 65) i_15_18 hs_es rfl rfl ?_
      show aW _ _ _ _ _ _ (21, [some (.ref 64), some (.int (zI n))], [.ref 65], es)
      refine x0 (r := (22, [some (.ref 64), some (.int (zI n))], [.int (zI n), .ref 65], es)) i_15_21 rfl ?_
      refine x_puti (p := 1) (ty := .int) i_15_22 hs_es rfl rfl rfl (Or.inl rfl) ?_
      obtain ⟨es4, e_es4⟩ : ∃ z : PH, z = sI es 1 1 (.int (zI n)) := ⟨_, rfl⟩
      have hs_es4 : sh es4 := by rw [e_es4]; exact sh_sI hs_es (p := 1) (b := 1) rfl rfl
      have hT_es4 : hOK tT es4 := by rw [e_es4]; exact hOK_sI hT_es (p := 1) (b := 1) (lo := iLO) (hi := iHI) rfl rfl (i32_rng _)
      rw [← e_es4]
      refine x0 (r := (26, [some (.ref 64), some (.int (zI n))], [.int (zI 1)], es4)) i_15_25 (by rfl) ?_
      refine x_ret (v := some (.int (zI 1))) i_15_26 rfl (fun _ => rfl) rfl rfl (pFin_b (by omega)) ?_
      exact K2 c1 v2 e_v2 c3 es4 e_es4
    · refine x_cmpF i_15_12 (by unfold i32 iLO iHI; omega) (by unfold i32 iLO iHI; omega) rfl (by simp only [zC, cR]; omega) ?_
      refine x0 (r := (16, [some (.ref 64), some (.int (zI n))], [.int (zI 0)], es)) i_15_15 (by rfl) ?_
      refine x_ret (v := some (.int (zI 0))) i_15_16 rfl (fun _ => rfl) rfl rfl (pFin_b (by omega)) ?_
      exact K3 c1 v2 e_v2 c3
def endxP (n : Int) (es : PH) (r : Option Value ⊕ Nat) (es1 : PH) : Prop := sh es1 ∧ True ∧ ((r = .inl (some (.int (zI 0))) ∧ (n < 0 ∨ (gI es 1 1).toInt < n) ∧ gI es1 1 1 = gI es 1 1) ∨ (r = .inl (some (.int (zI 1))) ∧ (0 ≤ n ∧ n ≤ (gI es 1 1).toInt) ∧ (gI es1 1 1).toInt = n))
theorem fn_endx {O : pOut} {d : Nat} {es : PH} {n : Int} (hn : i32 n) (hT : hOK tT es) : aW O (d + 0) 15 0 0 (fun o => endxP n es o.1 o.2.1) (0, [some (.ref 64), some (.int (zI n))], [], es) := by
  have hs_es := sh_of hT
  refine s_xend (d := d) (kc := 0) (ks := 0) hs_es hn hT (fun c1 => ?_) (fun c1 v2 e_v2 c3 es4 e_es4 => ?_) (fun c1 v2 e_v2 c3 => ?_)
  · exact ⟨hs_es, trivial, Or.inl ⟨rfl, by omega, by show gI es 1 1 = _; rfl⟩⟩
  · have hs_es4 : sh es4 := by rw [e_es4]; exact sh_sI hs_es (p := 1) (b := 1) rfl rfl
    exact ⟨hs_es4, trivial, Or.inr (⟨rfl, by omega, by show (gI es4 1 1).toInt = _; rw [e_es4, gI_sI hs_es (p := 1) (b := 1) rfl (by decide)]; exact zI_toInt hn⟩)⟩
  · exact ⟨hs_es, trivial, Or.inl ⟨rfl, by omega, by show gI es 1 1 = _; rfl⟩⟩
theorem s_mend {O : pOut} {d kc ks : Nat} {Q : pRes → Prop} {es : PH} {n : Int} (hs_es : sh es) (h_n : -2147483648 ≤ n ∧ n ≤ 2147483647) (hT_es : hOK tT es)
    (K1 : ∀ es1 : PH, es1 = sI es 79 0 (.int (zI 0)) → n < 0 → Q (.inl (some (.int (zI 0))), es1, kc, ks))
    (K2 : ∀ es1 : PH, es1 = sI es 79 0 (.int (zI 0)) → ¬ (n < 0) → ∀ v3 : Int, v3 = (gI es1 79 5).toInt → n ≤ v3 → ∀ es5 : PH, es5 = sI es1 79 5 (.int (zI n)) → Q (.inl (some (.int (zI 1))), es5, kc, ks))
    (K3 : ∀ es1 : PH, es1 = sI es 79 0 (.int (zI 0)) → ¬ (n < 0) → ∀ v3 : Int, v3 = (gI es1 79 5).toInt → ¬ (n ≤ v3) → Q (.inl (some (.int (zI 0))), es1, kc, ks)) :
    aW O d 172 kc ks Q (0, [some (.ref 143), some (.int (zI n))], [], es) := by
  refine x0 (r := (1, [some (.ref 143), some (.int (zI n))], [.ref 143], es)) i_172_0 rfl ?_
  refine x0 (r := (2, [some (.ref 143), some (.int (zI n))], [.int (zI 0), .ref 143], es)) i_172_1 (by rfl) ?_
  refine x_puti (p := 79) (ty := .int) i_172_2 hs_es rfl rfl rfl (Or.inl rfl) ?_
  obtain ⟨es1, e_es1⟩ : ∃ z : PH, z = sI es 79 0 (.int (zI 0)) := ⟨_, rfl⟩
  have hs_es1 : sh es1 := by rw [e_es1]; exact sh_sI hs_es (p := 79) (b := 0) rfl rfl
  have hT_es1 : hOK tT es1 := by rw [e_es1]; exact hOK_sI hT_es (p := 79) (b := 0) (lo := iLO) (hi := iHI) rfl rfl (i32_rng _)
  rw [← e_es1]
  refine x0 (r := (6, [some (.ref 143), some (.int (zI n))], [.int (zI n)], es1)) i_172_5 rfl ?_
  by_cases c2 : n < 0
  · refine x_ifT i_172_6 (by unfold i32 iLO iHI; omega) rfl (by simp only [zC, cR]; omega) ?_
    refine x0 (r := (18, [some (.ref 143), some (.int (zI n))], [.int (zI 0)], es1)) i_172_17 (by rfl) ?_
    refine x_ret (v := some (.int (zI 0))) i_172_18 rfl (fun _ => rfl) rfl rfl (pFin_b (by omega)) ?_
    exact K1 es1 e_es1 c2
  · refine x_ifF i_172_6 (by unfold i32 iLO iHI; omega) rfl (by simp only [zC, cR]; omega) ?_
    refine x0 (r := (10, [some (.ref 143), some (.int (zI n))], [.int (zI n)], es1)) i_172_9 rfl ?_
    refine x0 (r := (11, [some (.ref 143), some (.int (zI n))], [.ref 143, .int (zI n)], es1)) i_172_10 rfl ?_
    refine x_geti (p := 79) i_172_11 hs_es1 rfl rfl ?_
    obtain ⟨v3, e_v3⟩ : ∃ z : Int, z = (gI es1 79 5).toInt := ⟨_, rfl⟩
    rw [← e_v3]
    have r_v3 : iLO ≤ v3 ∧ v3 ≤ iHI := by rw [e_v3]; exact i32_rng _
    unfold iLO iHI at r_v3
    have b_v3 : (0 : Int) ≤ v3 ∧ v3 ≤ (400 : Int) := by rw [e_v3]; exact gI_bd hT_es1 (p := 79) (b := 5) rfl rfl
    by_cases c4 : n ≤ v3
    · refine x_cmpT i_172_14 (by unfold i32 iLO iHI; omega) (by unfold i32 iLO iHI; omega) rfl (by simp only [zC, cR]; omega) ?_
      refine x0 (r := (20, [some (.ref 143), some (.int (zI n))], [.ref 143], es1)) i_172_19 rfl ?_
      refine x0 (r := (21, [some (.ref 143), some (.int (zI n))], [.int (zI n), .ref 143], es1)) i_172_20 rfl ?_
      refine x_puti (p := 79) (ty := .int) i_172_21 hs_es1 rfl rfl rfl (Or.inl rfl) ?_
      obtain ⟨es5, e_es5⟩ : ∃ z : PH, z = sI es1 79 5 (.int (zI n)) := ⟨_, rfl⟩
      have hs_es5 : sh es5 := by rw [e_es5]; exact sh_sI hs_es1 (p := 79) (b := 5) rfl rfl
      have hT_es5 : hOK tT es5 := by rw [e_es5]; exact hOK_sI hT_es1 (p := 79) (b := 5) rfl rfl (by rw [zI_toInt (by unfold i32 iLO iHI; omega)]; exact ⟨by show (0 : Int) ≤ n; omega, by show n ≤ (400 : Int); omega⟩)
      rw [← e_es5]
      refine x0 (r := (25, [some (.ref 143), some (.int (zI n))], [.int (zI 1)], es5)) i_172_24 (by rfl) ?_
      refine x_ret (v := some (.int (zI 1))) i_172_25 rfl (fun _ => rfl) rfl rfl (pFin_b (by omega)) ?_
      exact K2 es1 e_es1 c2 v3 e_v3 c4 es5 e_es5
    · refine x_cmpF i_172_14 (by unfold i32 iLO iHI; omega) (by unfold i32 iLO iHI; omega) rfl (by simp only [zC, cR]; omega) ?_
      refine x0 (r := (18, [some (.ref 143), some (.int (zI n))], [.int (zI 0)], es1)) i_172_17 (by rfl) ?_
      refine x_ret (v := some (.int (zI 0))) i_172_18 rfl (fun _ => rfl) rfl rfl (pFin_b (by omega)) ?_
      exact K3 es1 e_es1 c2 v3 e_v3 c4
def endmP (n : Int) (es : PH) (r : Option Value ⊕ Nat) (es1 : PH) : Prop := sh es1 ∧ True ∧ ∃ v : Int, r = .inl (some (.int (zI v))) ∧ i32 v ∧ (((gI es1 79 0).toInt = 0 ∧ (n < 0 ∨ (gI es 79 5).toInt < n) ∧ gI es1 79 5 = gI es 79 5 ∧ v = 0) ∨ ((gI es1 79 0).toInt = 0 ∧ (0 ≤ n ∧ n ≤ (gI es 79 5).toInt) ∧ (gI es1 79 5).toInt = n ∧ v = 1))
theorem fn_endm {O : pOut} {d : Nat} {es : PH} {n : Int} (hn : i32 n) (hT : hOK tT es) : aW O (d + 0) 172 0 0 (fun o => endmP n es o.1 o.2.1) (0, [some (.ref 143), some (.int (zI n))], [], es) := by
  have hs_es := sh_of hT
  refine s_mend (d := d) (kc := 0) (ks := 0) hs_es hn hT (fun es1 e_es1 c2 => ?_) (fun es1 e_es1 c2 v3 e_v3 c4 es5 e_es5 => ?_) (fun es1 e_es1 c2 v3 e_v3 c4 => ?_)
  · have hs_es1 : sh es1 := by rw [e_es1]; exact sh_sI hs_es (p := 79) (b := 0) rfl rfl
    exact ⟨hs_es1, trivial, _, rfl, by unfold i32 iLO iHI; omega, Or.inl ⟨by show (gI es1 79 0).toInt = _; rw [e_es1, gI_sI hs_es (p := 79) (b := 0) rfl (by decide)]; rfl, by omega, by show gI es1 79 5 = _; rw [e_es1, gI_sI_ne (Or.inr (by decide))], by omega⟩⟩
  · have hs_es1 : sh es1 := by rw [e_es1]; exact sh_sI hs_es (p := 79) (b := 0) rfl rfl
    have hs_es5 : sh es5 := by rw [e_es5]; exact sh_sI hs_es1 (p := 79) (b := 5) rfl rfl
    have b_v3 : v3 = (gI es 79 5).toInt := by
      have h := e_v3
      rw [e_es1, gI_sI_ne (Or.inr (by decide))] at h
      exact h
    exact ⟨hs_es5, trivial, _, rfl, by unfold i32 iLO iHI; omega, Or.inr (⟨by show (gI es5 79 0).toInt = _; rw [e_es5, gI_sI_ne (Or.inr (by decide)), e_es1, gI_sI hs_es (p := 79) (b := 0) rfl (by decide)]; rfl, by omega, by show (gI es5 79 5).toInt = _; rw [e_es5, gI_sI hs_es1 (p := 79) (b := 5) rfl (by decide)]; exact zI_toInt hn, by omega⟩)⟩
  · have hs_es1 : sh es1 := by rw [e_es1]; exact sh_sI hs_es (p := 79) (b := 0) rfl rfl
    have b_v3 : v3 = (gI es 79 5).toInt := by
      have h := e_v3
      rw [e_es1, gI_sI_ne (Or.inr (by decide))] at h
      exact h
    exact ⟨hs_es1, trivial, _, rfl, by unfold i32 iLO iHI; omega, Or.inl ⟨by show (gI es1 79 0).toInt = _; rw [e_es1, gI_sI hs_es (p := 79) (b := 0) rfl (by decide)]; rfl, by omega, by show gI es1 79 5 = _; rw [e_es1, gI_sI_ne (Or.inr (by decide))], by omega⟩⟩
