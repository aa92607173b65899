/-! BOOK of both sides; printed by wip/rel/book.py -/
theorem i_112_0 : iRow 112 0 = some (.iload_n 1, 0, 0, 0, (some (Jvm.ClassFile.FieldType.int))) := rfl
theorem i_112_1 : iRow 112 1 = some (.invokestatic 159, 151, 113, 0, (some (Jvm.ClassFile.FieldType.int))) := rfl
theorem i_112_4 : iRow 112 4 = some (.ifCond .ne 13, 0, 0, 0, (some (Jvm.ClassFile.FieldType.int))) := rfl
theorem i_112_7 : iRow 112 7 = some (.new 85, 15, 0, 1, (some (Jvm.ClassFile.FieldType.int))) := rfl
theorem i_112_17 : iRow 112 17 = some (.aload_n 0, 0, 0, 0, (some (Jvm.ClassFile.FieldType.int))) := rfl
theorem i_112_18 : iRow 112 18 = some (.getfield 28, 139, 11, 2, (some (Jvm.ClassFile.FieldType.int))) := rfl
theorem i_112_21 : iRow 112 21 = some (.getfield 164, 32, 1, 5, (some (Jvm.ClassFile.FieldType.int))) := rfl
theorem i_112_24 : iRow 112 24 = some (.iconst 3, 0, 0, 0, (some (Jvm.ClassFile.FieldType.int))) := rfl
theorem i_112_25 : iRow 112 25 = some (.if_icmp .lt 13, 0, 0, 0, (some (Jvm.ClassFile.FieldType.int))) := rfl
theorem i_112_28 : iRow 112 28 = some (.new 95, 16, 1, 1, (some (Jvm.ClassFile.FieldType.int))) := rfl
theorem i_112_38 : iRow 112 38 = some (.aload_n 0, 0, 0, 0, (some (Jvm.ClassFile.FieldType.int))) := rfl
theorem i_112_39 : iRow 112 39 = some (.invokevirtual 104, 78, 73, 1, (some (Jvm.ClassFile.FieldType.int))) := rfl
theorem i_112_42 : iRow 112 42 = some (.aload_n 0, 0, 0, 0, (some (Jvm.ClassFile.FieldType.int))) := rfl
theorem i_112_43 : iRow 112 43 = some (.getfield 28, 139, 11, 2, (some (Jvm.ClassFile.FieldType.int))) := rfl
theorem i_112_46 : iRow 112 46 = some (.iload_n 1, 0, 0, 0, (some (Jvm.ClassFile.FieldType.int))) := rfl
theorem i_112_47 : iRow 112 47 = some (.invokevirtual 169, 152, 114, 1, (some (Jvm.ClassFile.FieldType.int))) := rfl
theorem i_112_50 : iRow 112 50 = some (.ireturn, 0, 0, 0, (some (Jvm.ClassFile.FieldType.int))) := rfl
theorem i_201_0 : iRow 201 0 = some (.aload_n 0, 0, 0, 0, (some (Jvm.ClassFile.FieldType.int))) := rfl
theorem i_201_1 : iRow 201 1 = some (.iconst 0, 0, 0, 0, (some (Jvm.ClassFile.FieldType.int))) := rfl
theorem i_201_2 : iRow 201 2 = some (.putfield 3, 164, 12, 0, (some (Jvm.ClassFile.FieldType.int))) := rfl
theorem i_201_5 : iRow 201 5 = some (.aload_n 0, 0, 0, 0, (some (Jvm.ClassFile.FieldType.int))) := rfl
theorem i_201_6 : iRow 201 6 = some (.iload_n 1, 0, 0, 0, (some (Jvm.ClassFile.FieldType.int))) := rfl
theorem i_201_7 : iRow 201 7 = some (.iconst 0, 0, 0, 0, (some (Jvm.ClassFile.FieldType.int))) := rfl
theorem i_201_8 : iRow 201 8 = some (.iconst 1, 0, 0, 0, (some (Jvm.ClassFile.FieldType.int))) := rfl
theorem i_201_9 : iRow 201 9 = some (.invokestatic 106, 282, 193, 0, (some (Jvm.ClassFile.FieldType.int))) := rfl
theorem i_201_12 : iRow 201 12 = some (.ifCond .ne 7, 0, 0, 0, (some (Jvm.ClassFile.FieldType.int))) := rfl
theorem i_201_15 : iRow 201 15 = some (.iconst 1, 0, 0, 0, (some (Jvm.ClassFile.FieldType.int))) := rfl
theorem i_201_16 : iRow 201 16 = some (.goto 4, 0, 0, 0, (some (Jvm.ClassFile.FieldType.int))) := rfl
theorem i_201_19 : iRow 201 19 = some (.iconst 0, 0, 0, 0, (some (Jvm.ClassFile.FieldType.int))) := rfl
theorem i_201_20 : iRow 201 20 = some (.iconst 1, 0, 0, 0, (some (Jvm.ClassFile.FieldType.int))) := rfl
theorem i_201_21 : iRow 201 21 = some (.invokevirtual 235, 283, 194, 1, (some (Jvm.ClassFile.FieldType.int))) := rfl
theorem i_201_24 : iRow 201 24 = some (.ifCond .ne 26, 0, 0, 0, (some (Jvm.ClassFile.FieldType.int))) := rfl
theorem i_201_27 : iRow 201 27 = some (.aload_n 0, 0, 0, 0, (some (Jvm.ClassFile.FieldType.int))) := rfl
theorem i_201_28 : iRow 201 28 = some (.aload_n 0, 0, 0, 0, (some (Jvm.ClassFile.FieldType.int))) := rfl
theorem i_201_29 : iRow 201 29 = some (.getfield 13, 165, 12, 1, (some (Jvm.ClassFile.FieldType.int))) := rfl
theorem i_201_32 : iRow 201 32 = some (.iconst 1, 0, 0, 0, (some (Jvm.ClassFile.FieldType.int))) := rfl
theorem i_201_33 : iRow 201 33 = some (.iaload, 0, 0, 0, (some (Jvm.ClassFile.FieldType.int))) := rfl
theorem i_201_34 : iRow 201 34 = some (.iconst 3, 0, 0, 0, (some (Jvm.ClassFile.FieldType.int))) := rfl
theorem i_201_35 : iRow 201 35 = some (.if_icmp .ne 7, 0, 0, 0, (some (Jvm.ClassFile.FieldType.int))) := rfl
theorem i_201_38 : iRow 201 38 = some (.iconst 1, 0, 0, 0, (some (Jvm.ClassFile.FieldType.int))) := rfl
theorem i_201_39 : iRow 201 39 = some (.goto 4, 0, 0, 0, (some (Jvm.ClassFile.FieldType.int))) := rfl
theorem i_201_42 : iRow 201 42 = some (.iconst 0, 0, 0, 0, (some (Jvm.ClassFile.FieldType.int))) := rfl
theorem i_201_43 : iRow 201 43 = some (.iconst 2, 0, 0, 0, (some (Jvm.ClassFile.FieldType.int))) := rfl
theorem i_201_44 : iRow 201 44 = some (.invokevirtual 235, 283, 194, 1, (some (Jvm.ClassFile.FieldType.int))) := rfl
theorem i_201_47 : iRow 201 47 = some (.ifCond .eq 5, 0, 0, 0, (some (Jvm.ClassFile.FieldType.int))) := rfl
theorem i_201_50 : iRow 201 50 = some (.iconst 0, 0, 0, 0, (some (Jvm.ClassFile.FieldType.int))) := rfl
theorem i_201_51 : iRow 201 51 = some (.ireturn, 0, 0, 0, (some (Jvm.ClassFile.FieldType.int))) := rfl
theorem i_201_52 : iRow 201 52 = some (.aload_n 0, 0, 0, 0, (some (Jvm.ClassFile.FieldType.int))) := rfl
theorem i_201_53 : iRow 201 53 = some (.getfield 13, 165, 12, 1, (some (Jvm.ClassFile.FieldType.int))) := rfl
theorem i_201_56 : iRow 201 56 = some (.iconst 1, 0, 0, 0, (some (Jvm.ClassFile.FieldType.int))) := rfl
theorem i_201_57 : iRow 201 57 = some (.iaload, 0, 0, 0, (some (Jvm.ClassFile.FieldType.int))) := rfl
theorem i_201_58 : iRow 201 58 = some (.istore_n 2, 0, 0, 0, (some (Jvm.ClassFile.FieldType.int))) := rfl
theorem i_201_59 : iRow 201 59 = some (.aload_n 0, 0, 0, 0, (some (Jvm.ClassFile.FieldType.int))) := rfl
theorem i_201_60 : iRow 201 60 = some (.getfield 13, 165, 12, 1, (some (Jvm.ClassFile.FieldType.int))) := rfl
theorem i_201_63 : iRow 201 63 = some (.bipush 119, 0, 0, 0, (some (Jvm.ClassFile.FieldType.int))) := rfl
theorem i_201_65 : iRow 201 65 = some (.bipush 98, 0, 0, 0, (some (Jvm.ClassFile.FieldType.int))) := rfl
theorem i_201_67 : iRow 201 67 = some (.iload_n 2, 0, 0, 0, (some (Jvm.ClassFile.FieldType.int))) := rfl
theorem i_201_68 : iRow 201 68 = some (.imul, 0, 0, 0, (some (Jvm.ClassFile.FieldType.int))) := rfl
theorem i_201_69 : iRow 201 69 = some (.iadd, 0, 0, 0, (some (Jvm.ClassFile.FieldType.int))) := rfl
theorem i_201_70 : iRow 201 70 = some (.iload_n 1, 0, 0, 0, (some (Jvm.ClassFile.FieldType.int))) := rfl
theorem i_201_71 : iRow 201 71 = some (.iastore, 0, 0, 0, (some (Jvm.ClassFile.FieldType.int))) := rfl
theorem i_201_72 : iRow 201 72 = some (.aload_n 0, 0, 0, 0, (some (Jvm.ClassFile.FieldType.int))) := rfl
theorem i_201_73 : iRow 201 73 = some (.getfield 13, 165, 12, 1, (some (Jvm.ClassFile.FieldType.int))) := rfl
theorem i_201_76 : iRow 201 76 = some (.bipush 119, 0, 0, 0, (some (Jvm.ClassFile.FieldType.int))) := rfl
theorem i_201_78 : iRow 201 78 = some (.bipush 98, 0, 0, 0, (some (Jvm.ClassFile.FieldType.int))) := rfl
theorem i_201_80 : iRow 201 80 = some (.iload_n 2, 0, 0, 0, (some (Jvm.ClassFile.FieldType.int))) := rfl
theorem i_201_81 : iRow 201 81 = some (.imul, 0, 0, 0, (some (Jvm.ClassFile.FieldType.int))) := rfl
theorem i_201_82 : iRow 201 82 = some (.iadd, 0, 0, 0, (some (Jvm.ClassFile.FieldType.int))) := rfl
theorem i_201_83 : iRow 201 83 = some (.iconst 1, 0, 0, 0, (some (Jvm.ClassFile.FieldType.int))) := rfl
theorem i_201_84 : iRow 201 84 = some (.iadd, 0, 0, 0, (some (Jvm.ClassFile.FieldType.int))) := rfl
theorem i_201_85 : iRow 201 85 = some (.iconst 0, 0, 0, 0, (some (Jvm.ClassFile.FieldType.int))) := rfl
theorem i_201_86 : iRow 201 86 = some (.iastore, 0, 0, 0, (some (Jvm.ClassFile.FieldType.int))) := rfl
theorem i_201_87 : iRow 201 87 = some (.aload_n 0, 0, 0, 0, (some (Jvm.ClassFile.FieldType.int))) := rfl
theorem i_201_88 : iRow 201 88 = some (.getfield 13, 165, 12, 1, (some (Jvm.ClassFile.FieldType.int))) := rfl
theorem i_201_91 : iRow 201 91 = some (.iconst 1, 0, 0, 0, (some (Jvm.ClassFile.FieldType.int))) := rfl
theorem i_201_92 : iRow 201 92 = some (.dup2, 0, 0, 0, (some (Jvm.ClassFile.FieldType.int))) := rfl
theorem i_201_93 : iRow 201 93 = some (.iaload, 0, 0, 0, (some (Jvm.ClassFile.FieldType.int))) := rfl
theorem i_201_94 : iRow 201 94 = some (.iconst 1, 0, 0, 0, (some (Jvm.ClassFile.FieldType.int))) := rfl
theorem i_201_95 : iRow 201 95 = some (.iadd, 0, 0, 0, (some (Jvm.ClassFile.FieldType.int))) := rfl
theorem i_201_96 : iRow 201 96 = some (.iastore, 0, 0, 0, (some (Jvm.ClassFile.FieldType.int))) := rfl
theorem i_201_97 : iRow 201 97 = some (.iload_n 2, 0, 0, 0, (some (Jvm.ClassFile.FieldType.int))) := rfl
theorem i_201_98 : iRow 201 98 = some (.ireturn, 0, 0, 0, (some (Jvm.ClassFile.FieldType.int))) := rfl
theorem i_281_0 : iRow 281 0 = some (.aload_n 2, 0, 0, 0, (some (Jvm.ClassFile.FieldType.int))) := rfl
theorem i_281_1 : iRow 281 1 = some (.iconst 0, 0, 0, 0, (some (Jvm.ClassFile.FieldType.int))) := rfl
theorem i_281_2 : iRow 281 2 = some (.aload_n 0, 0, 0, 0, (some (Jvm.ClassFile.FieldType.int))) := rfl
theorem i_281_3 : iRow 281 3 = some (.iload_n 1, 0, 0, 0, (some (Jvm.ClassFile.FieldType.int))) := rfl
theorem i_281_4 : iRow 281 4 = some (.invokevirtual 31, 150, 112, 1, (some (Jvm.ClassFile.FieldType.int))) := rfl
theorem i_281_7 : iRow 281 7 = some (.i2l, 0, 0, 0, (some (Jvm.ClassFile.FieldType.int))) := rfl
theorem i_281_8 : iRow 281 8 = some (.lastore, 0, 0, 0, (some (Jvm.ClassFile.FieldType.int))) := rfl
theorem i_281_9 : iRow 281 9 = some (.goto 9, 0, 0, 0, (some (Jvm.ClassFile.FieldType.int))) := rfl
theorem i_281_13 : iRow 281 13 = some (.iconst 1, 0, 0, 0, (some (Jvm.ClassFile.FieldType.int))) := rfl
theorem i_281_14 : iRow 281 14 = some (.ireturn, 0, 0, 0, (some (Jvm.ClassFile.FieldType.int))) := rfl
theorem i_281_16 : iRow 281 16 = some (.iconst 2, 0, 0, 0, (some (Jvm.ClassFile.FieldType.int))) := rfl
theorem i_281_17 : iRow 281 17 = some (.ireturn, 0, 0, 0, (some (Jvm.ClassFile.FieldType.int))) := rfl
theorem i_281_18 : iRow 281 18 = some (.iconst 0, 0, 0, 0, (some (Jvm.ClassFile.FieldType.int))) := rfl
theorem i_281_19 : iRow 281 19 = some (.ireturn, 0, 0, 0, (some (Jvm.ClassFile.FieldType.int))) := rfl
theorem s_xbook {O : pOut} {d kc ks : Nat} {Q : pRes → Prop} {es : PH} {w : Int} (hs_es : sh es) (h_w : -2147483648 ≤ w ∧ w ≤ 2147483647) (hT_es : hOK tT es)
    (K1 : w = 0 → ∀ v2 : Int, v2 = (gI es 7 5).toInt → v2 < 3 → ∀ es4 : PH, es4 = sI es 0 10 (.int (zI 0)) → ∀ es5 : PH, es5 = sI es4 73 3 (.int (zI 0)) → ∀ es6 : PH, es6 = sA es5 12 v2.toNat (zI w) → ∀ es7 : PH, es7 = sA es6 13 v2.toNat (zI 0) → ∀ es8 : PH, es8 = sI es7 7 5 (.int (zI (v2 + 1))) → ∀ v9 : Int, v9 = (gI es8 7 5).toInt → Q (.inl (some (.int (zI (v9 - 1)))), es8, kc, ks))
    (K2 : w = 0 → ∀ v2 : Int, v2 = (gI es 7 5).toInt → ¬ (v2 < 3) → Q (.inr 1, es, kc + 1, ks + 6))
    (K3 : ¬ (w = 0) → w ≠ 1 → Q (.inr 0, es, kc + 1, ks + 6))
    (K4 : ¬ (w = 0) → ¬ (w ≠ 1) → ∀ v11 : Int, v11 = (gI es 7 5).toInt → v11 < 3 → ∀ es13 : PH, es13 = sI es 0 10 (.int (zI 0)) → ∀ es14 : PH, es14 = sI es13 73 3 (.int (zI 0)) → ∀ es15 : PH, es15 = sA es14 12 v11.toNat (zI w) → ∀ es16 : PH, es16 = sA es15 13 v11.toNat (zI 0) → ∀ es17 : PH, es17 = sI es16 7 5 (.int (zI (v11 + 1))) → ∀ v18 : Int, v18 = (gI es17 7 5).toInt → Q (.inl (some (.int (zI (v18 - 1)))), es17, kc, ks))
    (K5 : ¬ (w = 0) → ¬ (w ≠ 1) → ∀ v11 : Int, v11 = (gI es 7 5).toInt → ¬ (v11 < 3) → Q (.inr 1, es, kc + 1, ks + 6)) :
    aW O (d + 2) 112 kc ks Q (0, [some (.ref 64), some (.int (zI w))], [], es) := by
  refine x0 (r := (1, [some (.ref 64), some (.int (zI w))], [.int (zI w)], es)) i_112_0 rfl ?_
  refine x_call (vs := [.int (zI w)]) (rs := []) i_112_1 rfl (fun _ => rfl) rfl rfl rfl rfl rfl rfl ?_
  show aW _ _ _ _ _ _ (0, [some (.int (zI w))], [], es)
  refine x0 (r := (1, [some (.int (zI w))], [.int (zI w)], es)) i_113_0 rfl ?_
  by_cases c1 : w = 0
  · refine x_ifT i_113_1 (by unfold i32 iLO iHI; omega) rfl (by simp only [zC, cR]; omega) ?_
    refine x0 (r := (10, [some (.int (zI w))], [.int (zI 1)], es)) i_113_9 (by rfl) ?_
    refine x0 (r := (14, [some (.int (zI w))], [.int (zI 1)], es)) i_113_10 rfl ?_
    refine x_ret (v := some (.int (zI 1))) i_113_14 rfl (fun _ => rfl) rfl rfl (pFin_b (by omega)) ?_
    show aW _ _ _ _ _ _ (4, [some (.ref 64), some (.int (zI w))], [.int (zI 1)], es)
    refine x_ifT i_112_4 (by unfold i32 iLO iHI; omega) rfl (by simp only [zC, cR]; omega) ?_
    refine x0 (r := (18, [some (.ref 64), some (.int (zI w))], [.ref 64], es)) i_112_17 rfl ?_
    refine x_getr (p := 0) (k := 71) i_112_18 hs_es rfl rfl ?_
    show aW _ _ _ _ _ _ (21, [some (.ref 64), some (.int (zI w))], [.ref 71], es)
    refine x_geti (p := 7) i_112_21 hs_es rfl rfl ?_
    obtain ⟨v2, e_v2⟩ : ∃ z : Int, z = (gI es 7 5).toInt := ⟨_, rfl⟩
    rw [← e_v2]
    have r_v2 : iLO ≤ v2 ∧ v2 ≤ iHI := by rw [e_v2]; exact i32_rng _
    unfold iLO iHI at r_v2
    have b_v2 : (0 : Int) ≤ v2 ∧ v2 ≤ (3 : Int) := by rw [e_v2]; exact gI_bd hT_es (p := 7) (b := 5) rfl rfl
    refine x0 (r := (25, [some (.ref 64), some (.int (zI w))], [.int (zI 3), .int (zI v2)], es)) i_112_24 (by rfl) ?_
    by_cases c3 : v2 < 3
    · refine x_cmpT i_112_25 (by unfold i32 iLO iHI; omega) (by unfold i32 iLO iHI; omega) rfl (by simp only [zC, cR]; omega) ?_
      refine x0 (r := (39, [some (.ref 64), some (.int (zI w))], [.ref 64], es)) i_112_38 rfl ?_
      refine x_call (vs := [.ref 64]) (rs := []) i_112_39 rfl (fun _ => rfl) rfl rfl rfl rfl rfl (pCall_v (p := 0) hs_es rfl rfl rfl rfl rfl (by decide) rfl rfl rfl rfl rfl) ?_
      show aW _ _ _ _ _ _ (0, [some (.ref 64)], [], es)
      refine x0 (r := (1, [some (.ref 64)], [.ref 64], es)) i_73_0 rfl ?_
      refine x0 (r := (2, [some (.ref 64)], [.int (zI 0), .ref 64], es)) i_73_1 (by rfl) ?_
      refine x_puti (p := 0) (ty := .boolean) i_73_2 hs_es rfl rfl rfl (Or.inr ⟨rfl, by omega⟩) ?_
      obtain ⟨es4, e_es4⟩ : ∃ z : PH, z = sI es 0 10 (.int (zI 0)) := ⟨_, rfl⟩
      have hs_es4 : sh es4 := by rw [e_es4]; exact sh_sI hs_es (p := 0) (b := 10) rfl rfl
      have hT_es4 : hOK tT es4 := by rw [e_es4]; exact hOK_sI hT_es (p := 0) (b := 10) rfl rfl (by rw [zI_toInt (by unfold i32 iLO iHI; omega)]; exact ⟨by show (0 : Int) ≤ 0; omega, by show 0 ≤ (1 : Int); omega⟩)
      rw [← e_es4]
      refine x0 (r := (6, [some (.ref 64)], [.ref 64], es4)) i_73_5 rfl ?_
      refine x_getr (p := 0) (k := 137) i_73_6 hs_es4 rfl rfl ?_
      show aW _ _ _ _ _ _ (9, [some (.ref 64)], [.ref 137], es4)
      refine x0 (r := (10, [some (.ref 64)], [.int (zI 0), .ref 137], es4)) i_73_9 (by rfl) ?_
      refine x_puti (p := 73) (ty := .boolean) i_73_10 hs_es4 rfl rfl rfl (Or.inr ⟨rfl, by omega⟩) ?_
      obtain ⟨es5, e_es5⟩ : ∃ z : PH, z = sI es4 73 3 (.int (zI 0)) := ⟨_, rfl⟩
      have hs_es5 : sh es5 := by rw [e_es5]; exact sh_sI hs_es4 (p := 73) (b := 3) rfl rfl
      have hT_es5 : hOK tT es5 := by rw [e_es5]; exact hOK_sI hT_es4 (p := 73) (b := 3) rfl rfl (by rw [zI_toInt (by unfold i32 iLO iHI; omega)]; exact ⟨by show (0 : Int) ≤ 0; omega, by show 0 ≤ (1 : Int); omega⟩)
      rw [← e_es5]
      refine x_ret (v := none) i_73_13 rfl (fun _ => rfl) rfl rfl rfl ?_
      show aW _ _ _ _ _ _ (42, [some (.ref 64), some (.int (zI w))], [], es5)
      refine x0 (r := (43, [some (.ref 64), some (.int (zI w))], [.ref 64], es5)) i_112_42 rfl ?_
      refine x_getr (p := 0) (k := 71) i_112_43 hs_es5 rfl rfl ?_
      show aW _ _ _ _ _ _ (46, [some (.ref 64), some (.int (zI w))], [.ref 71], es5)
      refine x0 (r := (47, [some (.ref 64), some (.int (zI w))], [.int (zI w), .ref 71], es5)) i_112_46 rfl ?_
      refine x_call (vs := [.ref 71, .int (zI w)]) (rs := []) i_112_47 rfl (fun _ => rfl) rfl rfl rfl rfl rfl (pCall_v (p := 7) hs_es5 rfl rfl rfl rfl rfl (by decide) rfl rfl rfl rfl rfl) ?_
      show aW _ _ _ _ _ _ (0, [some (.ref 71), some (.int (zI w))], [], es5)
      refine x0 (r := (1, [some (.ref 71), some (.int (zI w))], [.ref 71], es5)) i_114_0 rfl ?_
      refine x_getr (p := 7) (k := 76) i_114_1 hs_es5 rfl rfl ?_
      show aW _ _ _ _ _ _ (4, [some (.ref 71), some (.int (zI w))], [.ref 76], es5)
      refine x0 (r := (5, [some (.ref 71), some (.int (zI w))], [.ref 71, .ref 76], es5)) i_114_4 rfl ?_
      refine x_geti (p := 7) i_114_5 hs_es5 rfl rfl ?_
      rw [show (gI es5 7 5).toInt = v2 from by rw [e_es5, gI_sI_ne (Or.inl (by decide)), e_es4, gI_sI_ne (Or.inl (by decide))]; exact e_v2.symm]
      refine x0 (r := (9, [some (.ref 71), some (.int (zI w))], [.int (zI w), .int (zI v2), .ref 76], es5)) i_114_8 rfl ?_
      refine x_call (vs := [.ref 76, .int (zI v2), .int (zI w)]) (rs := []) i_114_9 rfl (fun _ => rfl) rfl rfl rfl rfl rfl rfl ?_
      show aW _ _ _ _ _ _ (0, [some (.ref 76), some (.int (zI v2)), some (.int (zI w))], [], es5)
      refine x0 (r := (1, [some (.ref 76), some (.int (zI v2)), some (.int (zI w))], [.int (zI v2)], es5)) i_14_0 rfl ?_
      refine x_ifF i_14_1 (by unfold i32 iLO iHI; omega) rfl (by simp only [zC, cR]; omega) ?_
      refine x0 (r := (5, [some (.ref 76), some (.int (zI v2)), some (.int (zI w))], [.int (zI v2)], es5)) i_14_4 rfl ?_
      refine x0 (r := (6, [some (.ref 76), some (.int (zI v2)), some (.int (zI w))], [.ref 76, .int (zI v2)], es5)) i_14_5 rfl ?_
      refine x_alen (p := 12) (n := 3) i_14_6 hs_es5 rfl ?_
      refine x_cmpF i_14_7 (by unfold i32 iLO iHI; omega) (by unfold i32 iLO iHI; omega) rfl (by simp only [zC, cR]; omega) ?_
      refine x0 (r := (11, [some (.ref 76), some (.int (zI v2)), some (.int (zI w))], [.ref 76], es5)) i_14_10 rfl ?_
      refine x0 (r := (12, [some (.ref 76), some (.int (zI v2)), some (.int (zI w))], [.int (zI v2), .ref 76], es5)) i_14_11 rfl ?_
      refine x0 (r := (13, [some (.ref 76), some (.int (zI v2)), some (.int (zI w))], [.int (zI w), .int (zI v2), .ref 76], es5)) i_14_12 rfl ?_
      refine x_iast (p := 12) i_14_13 hs_es5 rfl (by unfold i32 iLO iHI; omega) (by omega) (by omega) ?_
      obtain ⟨es6, e_es6⟩ : ∃ z : PH, z = sA es5 12 v2.toNat (zI w) := ⟨_, rfl⟩
      have hs_es6 : sh es6 := by rw [e_es6]; exact sh_sA hs_es5
      have hT_es6 : hOK tT es6 := by rw [e_es6]; exact hOK_sA hT_es5 (p := 12) (n := 3) rfl (fun _ => i32_rng _)
      rw [← e_es6]
      refine x_ret (v := none) i_14_14 rfl (fun _ => rfl) rfl rfl rfl ?_
      show aW _ _ _ _ _ _ (12, [some (.ref 71), some (.int (zI w))], [], es6)
      refine x0 (r := (13, [some (.ref 71), some (.int (zI w))], [.ref 71], es6)) i_114_12 rfl ?_
      refine x_getr (p := 7) (k := 77) i_114_13 hs_es6 rfl rfl ?_
      show aW _ _ _ _ _ _ (16, [some (.ref 71), some (.int (zI w))], [.ref 77], es6)
      refine x0 (r := (17, [some (.ref 71), some (.int (zI w))], [.ref 71, .ref 77], es6)) i_114_16 rfl ?_
      refine x_geti (p := 7) i_114_17 hs_es6 rfl rfl ?_
      rw [show (gI es6 7 5).toInt = v2 from by rw [e_es6, gI_sA, e_es5, gI_sI_ne (Or.inl (by decide)), e_es4, gI_sI_ne (Or.inl (by decide))]; exact e_v2.symm]
      refine x0 (r := (21, [some (.ref 71), some (.int (zI w))], [.int (zI 0), .int (zI v2), .ref 77], es6)) i_114_20 (by rfl) ?_
      refine x_call (vs := [.ref 77, .int (zI v2), .int (zI 0)]) (rs := []) i_114_21 rfl (fun _ => rfl) rfl rfl rfl rfl rfl rfl ?_
      show aW _ _ _ _ _ _ (0, [some (.ref 77), some (.int (zI v2)), some (.int (zI 0))], [], es6)
      refine x0 (r := (1, [some (.ref 77), some (.int (zI v2)), some (.int (zI 0))], [.int (zI v2)], es6)) i_14_0 rfl ?_
      refine x_ifF i_14_1 (by unfold i32 iLO iHI; omega) rfl (by simp only [zC, cR]; omega) ?_
      refine x0 (r := (5, [some (.ref 77), some (.int (zI v2)), some (.int (zI 0))], [.int (zI v2)], es6)) i_14_4 rfl ?_
      refine x0 (r := (6, [some (.ref 77), some (.int (zI v2)), some (.int (zI 0))], [.ref 77, .int (zI v2)], es6)) i_14_5 rfl ?_
      refine x_alen (p := 13) (n := 3) i_14_6 hs_es6 rfl ?_
      refine x_cmpF i_14_7 (by unfold i32 iLO iHI; omega) (by unfold i32 iLO iHI; omega) rfl (by simp only [zC, cR]; omega) ?_
      refine x0 (r := (11, [some (.ref 77), some (.int (zI v2)), some (.int (zI 0))], [.ref 77], es6)) i_14_10 rfl ?_
      refine x0 (r := (12, [some (.ref 77), some (.int (zI v2)), some (.int (zI 0))], [.int (zI v2), .ref 77], es6)) i_14_11 rfl ?_
      refine x0 (r := (13, [some (.ref 77), some (.int (zI v2)), some (.int (zI 0))], [.int (zI 0), .int (zI v2), .ref 77], es6)) i_14_12 rfl ?_
      refine x_iast (p := 13) i_14_13 hs_es6 rfl (by unfold i32 iLO iHI; omega) (by omega) (by omega) ?_
      obtain ⟨es7, e_es7⟩ : ∃ z : PH, z = sA es6 13 v2.toNat (zI 0) := ⟨_, rfl⟩
      have hs_es7 : sh es7 := by rw [e_es7]; exact sh_sA hs_es6
      have hT_es7 : hOK tT es7 := by rw [e_es7]; exact hOK_sA hT_es6 (p := 13) (n := 3) rfl (fun _ => by rw [zI_toInt (by unfold i32 iLO iHI; omega)]; exact ⟨by show (0 : Int) ≤ 0; omega, by show 0 ≤ (24 : Int); omega⟩)
      rw [← e_es7]
      refine x_ret (v := none) i_14_14 rfl (fun _ => rfl) rfl rfl rfl ?_
      show aW _ _ _ _ _ _ (24, [some (.ref 71), some (.int (zI w))], [], es7)
      refine x0 (r := (25, [some (.ref 71), some (.int (zI w))], [.ref 71], es7)) i_114_24 rfl ?_
      refine x0 (r := (26, [some (.ref 71), some (.int (zI w))], [.ref 71, .ref 71], es7)) i_114_25 rfl ?_
      refine x_geti (p := 7) i_114_26 hs_es7 rfl rfl ?_
      rw [show (gI es7 7 5).toInt = v2 from by rw [e_es7, gI_sA, e_es6, gI_sA, e_es5, gI_sI_ne (Or.inl (by decide)), e_es4, gI_sI_ne (Or.inl (by decide))]; exact e_v2.symm]
      refine x0 (r := (30, [some (.ref 71), some (.int (zI w))], [.int (zI 1), .int (zI v2), .ref 71], es7)) i_114_29 (by rfl) ?_
      refine x_iadd i_114_30 ?_
      refine x_puti (p := 7) (ty := .int) i_114_31 hs_es7 rfl rfl rfl (Or.inl rfl) ?_
      obtain ⟨es8, e_es8⟩ : ∃ z : PH, z = sI es7 7 5 (.int (zI (v2 + 1))) := ⟨_, rfl⟩
      have hs_es8 : sh es8 := by rw [e_es8]; exact sh_sI hs_es7 (p := 7) (b := 5) rfl rfl
      have hT_es8 : hOK tT es8 := by rw [e_es8]; exact hOK_sI hT_es7 (p := 7) (b := 5) rfl rfl (by rw [zI_toInt (by unfold i32 iLO iHI; omega)]; exact ⟨by show (0 : Int) ≤ (v2 + 1); omega, by show (v2 + 1) ≤ (3 : Int); omega⟩)
      rw [← e_es8]
      refine x0 (r := (35, [some (.ref 71), some (.int (zI w))], [.ref 71], es8)) i_114_34 rfl ?_
      refine x_geti (p := 7) i_114_35 hs_es8 rfl rfl ?_
      obtain ⟨v9, e_v9⟩ : ∃ z : Int, z = (gI es8 7 5).toInt := ⟨_, rfl⟩
      rw [← e_v9]
      have r_v9 : iLO ≤ v9 ∧ v9 ≤ iHI := by rw [e_v9]; exact i32_rng _
      unfold iLO iHI at r_v9
      have b_v9 : (0 : Int) ≤ v9 ∧ v9 ≤ (3 : Int) := by rw [e_v9]; exact gI_bd hT_es8 (p := 7) (b := 5) rfl rfl
      refine x0 (r := (39, [some (.ref 71), some (.int (zI w))], [.int (zI 1), .int (zI v9)], es8)) i_114_38 (by rfl) ?_
      refine x_isub i_114_39 ?_
      refine x_ret (v := some (.int (zI (v9 - 1)))) i_114_40 rfl (fun _ => rfl) rfl rfl rfl ?_
      show aW _ _ _ _ _ _ (50, [some (.ref 64), some (.int (zI w))], [.int (zI (v9 - 1))], es8)
      refine x_ret (v := some (.int (zI (v9 - 1)))) i_112_50 rfl (fun _ => rfl) rfl rfl rfl ?_
      exact K1 c1 v2 e_v2 c3 es4 e_es4 es5 e_es5 es6 e_es6 es7 e_es7 es8 e_es8 v9 e_v9
    · refine x_cmpF i_112_25 (by unfold i32 iLO iHI; omega) (by unfold i32 iLO iHI; omega) rfl (by simp only [zC, cR]; omega) ?_
      refine x_thr i_112_28 rfl (fun _ => rfl) rfl rfl rfl rfl ?_
      exact K2 c1 v2 e_v2 c3
  · refine x_ifF i_113_1 (by unfold i32 iLO iHI; omega) rfl (by simp only [zC, cR]; omega) ?_
    refine x0 (r := (5, [some (.int (zI w))], [.int (zI w)], es)) i_113_4 rfl ?_
    refine x0 (r := (6, [some (.int (zI w))], [.int (zI 1), .int (zI w)], es)) i_113_5 (by rfl) ?_
    by_cases c10 : w ≠ 1
    · refine x_cmpT i_113_6 (by unfold i32 iLO iHI; omega) (by unfold i32 iLO iHI; omega) rfl (by simp only [zC, cR]; omega) ?_
      refine x0 (r := (14, [some (.int (zI w))], [.int (zI 0)], es)) i_113_13 (by rfl) ?_
      refine x_ret (v := some (.int (zI 0))) i_113_14 rfl (fun _ => rfl) rfl rfl (pFin_b (by omega)) ?_
      show aW _ _ _ _ _ _ (4, [some (.ref 64), some (.int (zI w))], [.int (zI 0)], es)
      refine x_ifF i_112_4 (by unfold i32 iLO iHI; omega) rfl (by simp only [zC, cR]; omega) ?_
      refine x_thr i_112_7 rfl (fun _ => rfl) rfl rfl rfl rfl ?_
      exact K3 c1 c10
    · refine x_cmpF i_113_6 (by unfold i32 iLO iHI; omega) (by unfold i32 iLO iHI; omega) rfl (by simp only [zC, cR]; omega) ?_
      refine x0 (r := (10, [some (.int (zI w))], [.int (zI 1)], es)) i_113_9 (by rfl) ?_
      refine x0 (r := (14, [some (.int (zI w))], [.int (zI 1)], es)) i_113_10 rfl ?_
      refine x_ret (v := some (.int (zI 1))) i_113_14 rfl (fun _ => rfl) rfl rfl (pFin_b (by omega)) ?_
      show aW _ _ _ _ _ _ (4, [some (.ref 64), some (.int (zI w))], [.int (zI 1)], es)
      refine x_ifT i_112_4 (by unfold i32 iLO iHI; omega) rfl (by simp only [zC, cR]; omega) ?_
      refine x0 (r := (18, [some (.ref 64), some (.int (zI w))], [.ref 64], es)) i_112_17 rfl ?_
      refine x_getr (p := 0) (k := 71) i_112_18 hs_es rfl rfl ?_
      show aW _ _ _ _ _ _ (21, [some (.ref 64), some (.int (zI w))], [.ref 71], es)
      refine x_geti (p := 7) i_112_21 hs_es rfl rfl ?_
      obtain ⟨v11, e_v11⟩ : ∃ z : Int, z = (gI es 7 5).toInt := ⟨_, rfl⟩
      rw [← e_v11]
      have r_v11 : iLO ≤ v11 ∧ v11 ≤ iHI := by rw [e_v11]; exact i32_rng _
      unfold iLO iHI at r_v11
      have b_v11 : (0 : Int) ≤ v11 ∧ v11 ≤ (3 : Int) := by rw [e_v11]; exact gI_bd hT_es (p := 7) (b := 5) rfl rfl
      refine x0 (r := (25, [some (.ref 64), some (.int (zI w))], [.int (zI 3), .int (zI v11)], es)) i_112_24 (by rfl) ?_
      by_cases c12 : v11 < 3
      · refine x_cmpT i_112_25 (by unfold i32 iLO iHI; omega) (by unfold i32 iLO iHI; omega) rfl (by simp only [zC, cR]; omega) ?_
        refine x0 (r := (39, [some (.ref 64), some (.int (zI w))], [.ref 64], es)) i_112_38 rfl ?_
        refine x_call (vs := [.ref 64]) (rs := []) i_112_39 rfl (fun _ => rfl) rfl rfl rfl rfl rfl (pCall_v (p := 0) hs_es rfl rfl rfl rfl rfl (by decide) rfl rfl rfl rfl rfl) ?_
        show aW _ _ _ _ _ _ (0, [some (.ref 64)], [], es)
        refine x0 (r := (1, [some (.ref 64)], [.ref 64], es)) i_73_0 rfl ?_
        refine x0 (r := (2, [some (.ref 64)], [.int (zI 0), .ref 64], es)) i_73_1 (by rfl) ?_
        refine x_puti (p := 0) (ty := .boolean) i_73_2 hs_es rfl rfl rfl (Or.inr ⟨rfl, by omega⟩) ?_
        obtain ⟨es13, e_es13⟩ : ∃ z : PH, z = sI es 0 10 (.int (zI 0)) := ⟨_, rfl⟩
        have hs_es13 : sh es13 := by rw [e_es13]; exact sh_sI hs_es (p := 0) (b := 10) rfl rfl
        have hT_es13 : hOK tT es13 := by rw [e_es13]; exact hOK_sI hT_es (p := 0) (b := 10) rfl rfl (by rw [zI_toInt (by unfold i32 iLO iHI; omega)]; exact ⟨by show (0 : Int) ≤ 0; omega, by show 0 ≤ (1 : Int); omega⟩)
        rw [← e_es13]
        refine x0 (r := (6, [some (.ref 64)], [.ref 64], es13)) i_73_5 rfl ?_
        refine x_getr (p := 0) (k := 137) i_73_6 hs_es13 rfl rfl ?_
        show aW _ _ _ _ _ _ (9, [some (.ref 64)], [.ref 137], es13)
        refine x0 (r := (10, [some (.ref 64)], [.int (zI 0), .ref 137], es13)) i_73_9 (by rfl) ?_
        refine x_puti (p := 73) (ty := .boolean) i_73_10 hs_es13 rfl rfl rfl (Or.inr ⟨rfl, by omega⟩) ?_
        obtain ⟨es14, e_es14⟩ : ∃ z : PH, z = sI es13 73 3 (.int (zI 0)) := ⟨_, rfl⟩
        have hs_es14 : sh es14 := by rw [e_es14]; exact sh_sI hs_es13 (p := 73) (b := 3) rfl rfl
        have hT_es14 : hOK tT es14 := by rw [e_es14]; exact hOK_sI hT_es13 (p := 73) (b := 3) rfl rfl (by rw [zI_toInt (by unfold i32 iLO iHI; omega)]; exact ⟨by show (0 : Int) ≤ 0; omega, by show 0 ≤ (1 : Int); omega⟩)
        rw [← e_es14]
        refine x_ret (v := none) i_73_13 rfl (fun _ => rfl) rfl rfl rfl ?_
        show aW _ _ _ _ _ _ (42, [some (.ref 64), some (.int (zI w))], [], es14)
        refine x0 (r := (43, [some (.ref 64), some (.int (zI w))], [.ref 64], es14)) i_112_42 rfl ?_
        refine x_getr (p := 0) (k := 71) i_112_43 hs_es14 rfl rfl ?_
        show aW _ _ _ _ _ _ (46, [some (.ref 64), some (.int (zI w))], [.ref 71], es14)
        refine x0 (r := (47, [some (.ref 64), some (.int (zI w))], [.int (zI w), .ref 71], es14)) i_112_46 rfl ?_
        refine x_call (vs := [.ref 71, .int (zI w)]) (rs := []) i_112_47 rfl (fun _ => rfl) rfl rfl rfl rfl rfl (pCall_v (p := 7) hs_es14 rfl rfl rfl rfl rfl (by decide) rfl rfl rfl rfl rfl) ?_
        show aW _ _ _ _ _ _ (0, [some (.ref 71), some (.int (zI w))], [], es14)
        refine x0 (r := (1, [some (.ref 71), some (.int (zI w))], [.ref 71], es14)) i_114_0 rfl ?_
        refine x_getr (p := 7) (k := 76) i_114_1 hs_es14 rfl rfl ?_
        show aW _ _ _ _ _ _ (4, [some (.ref 71), some (.int (zI w))], [.ref 76], es14)
        refine x0 (r := (5, [some (.ref 71), some (.int (zI w))], [.ref 71, .ref 76], es14)) i_114_4 rfl ?_
        refine x_geti (p := 7) i_114_5 hs_es14 rfl rfl ?_
        rw [show (gI es14 7 5).toInt = v11 from by rw [e_es14, gI_sI_ne (Or.inl (by decide)), e_es13, gI_sI_ne (Or.inl (by decide))]; exact e_v11.symm]
        refine x0 (r := (9, [some (.ref 71), some (.int (zI w))], [.int (zI w), .int (zI v11), .ref 76], es14)) i_114_8 rfl ?_
        refine x_call (vs := [.ref 76, .int (zI v11), .int (zI w)]) (rs := []) i_114_9 rfl (fun _ => rfl) rfl rfl rfl rfl rfl rfl ?_
        show aW _ _ _ _ _ _ (0, [some (.ref 76), some (.int (zI v11)), some (.int (zI w))], [], es14)
        refine x0 (r := (1, [some (.ref 76), some (.int (zI v11)), some (.int (zI w))], [.int (zI v11)], es14)) i_14_0 rfl ?_
        refine x_ifF i_14_1 (by unfold i32 iLO iHI; omega) rfl (by simp only [zC, cR]; omega) ?_
        refine x0 (r := (5, [some (.ref 76), some (.int (zI v11)), some (.int (zI w))], [.int (zI v11)], es14)) i_14_4 rfl ?_
        refine x0 (r := (6, [some (.ref 76), some (.int (zI v11)), some (.int (zI w))], [.ref 76, .int (zI v11)], es14)) i_14_5 rfl ?_
        refine x_alen (p := 12) (n := 3) i_14_6 hs_es14 rfl ?_
        refine x_cmpF i_14_7 (by unfold i32 iLO iHI; omega) (by unfold i32 iLO iHI; omega) rfl (by simp only [zC, cR]; omega) ?_
        refine x0 (r := (11, [some (.ref 76), some (.int (zI v11)), some (.int (zI w))], [.ref 76], es14)) i_14_10 rfl ?_
        refine x0 (r := (12, [some (.ref 76), some (.int (zI v11)), some (.int (zI w))], [.int (zI v11), .ref 76], es14)) i_14_11 rfl ?_
        refine x0 (r := (13, [some (.ref 76), some (.int (zI v11)), some (.int (zI w))], [.int (zI w), .int (zI v11), .ref 76], es14)) i_14_12 rfl ?_
        refine x_iast (p := 12) i_14_13 hs_es14 rfl (by unfold i32 iLO iHI; omega) (by omega) (by omega) ?_
        obtain ⟨es15, e_es15⟩ : ∃ z : PH, z = sA es14 12 v11.toNat (zI w) := ⟨_, rfl⟩
        have hs_es15 : sh es15 := by rw [e_es15]; exact sh_sA hs_es14
        have hT_es15 : hOK tT es15 := by rw [e_es15]; exact hOK_sA hT_es14 (p := 12) (n := 3) rfl (fun _ => i32_rng _)
        rw [← e_es15]
        refine x_ret (v := none) i_14_14 rfl (fun _ => rfl) rfl rfl rfl ?_
        show aW _ _ _ _ _ _ (12, [some (.ref 71), some (.int (zI w))], [], es15)
        refine x0 (r := (13, [some (.ref 71), some (.int (zI w))], [.ref 71], es15)) i_114_12 rfl ?_
        refine x_getr (p := 7) (k := 77) i_114_13 hs_es15 rfl rfl ?_
        show aW _ _ _ _ _ _ (16, [some (.ref 71), some (.int (zI w))], [.ref 77], es15)
        refine x0 (r := (17, [some (.ref 71), some (.int (zI w))], [.ref 71, .ref 77], es15)) i_114_16 rfl ?_
        refine x_geti (p := 7) i_114_17 hs_es15 rfl rfl ?_
        rw [show (gI es15 7 5).toInt = v11 from by rw [e_es15, gI_sA, e_es14, gI_sI_ne (Or.inl (by decide)), e_es13, gI_sI_ne (Or.inl (by decide))]; exact e_v11.symm]
        refine x0 (r := (21, [some (.ref 71), some (.int (zI w))], [.int (zI 0), .int (zI v11), .ref 77], es15)) i_114_20 (by rfl) ?_
        refine x_call (vs := [.ref 77, .int (zI v11), .int (zI 0)]) (rs := []) i_114_21 rfl (fun _ => rfl) rfl rfl rfl rfl rfl rfl ?_
        show aW _ _ _ _ _ _ (0, [some (.ref 77), some (.int (zI v11)), some (.int (zI 0))], [], es15)
        refine x0 (r := (1, [some (.ref 77), some (.int (zI v11)), some (.int (zI 0))], [.int (zI v11)], es15)) i_14_0 rfl ?_
        refine x_ifF i_14_1 (by unfold i32 iLO iHI; omega) rfl (by simp only [zC, cR]; omega) ?_
        refine x0 (r := (5, [some (.ref 77), some (.int (zI v11)), some (.int (zI 0))], [.int (zI v11)], es15)) i_14_4 rfl ?_
        refine x0 (r := (6, [some (.ref 77), some (.int (zI v11)), some (.int (zI 0))], [.ref 77, .int (zI v11)], es15)) i_14_5 rfl ?_
        refine x_alen (p := 13) (n := 3) i_14_6 hs_es15 rfl ?_
        refine x_cmpF i_14_7 (by unfold i32 iLO iHI; omega) (by unfold i32 iLO iHI; omega) rfl (by simp only [zC, cR]; omega) ?_
        refine x0 (r := (11, [some (.ref 77), some (.int (zI v11)), some (.int (zI 0))], [.ref 77], es15)) i_14_10 rfl ?_
        refine x0 (r := (12, [some (.ref 77), some (.int (zI v11)), some (.int (zI 0))], [.int (zI v11), .ref 77], es15)) i_14_11 rfl ?_
        refine x0 (r := (13, [some (.ref 77), some (.int (zI v11)), some (.int (zI 0))], [.int (zI 0), .int (zI v11), .ref 77], es15)) i_14_12 rfl ?_
        refine x_iast (p := 13) i_14_13 hs_es15 rfl (by unfold i32 iLO iHI; omega) (by omega) (by omega) ?_
        obtain ⟨es16, e_es16⟩ : ∃ z : PH, z = sA es15 13 v11.toNat (zI 0) := ⟨_, rfl⟩
        have hs_es16 : sh es16 := by rw [e_es16]; exact sh_sA hs_es15
        have hT_es16 : hOK tT es16 := by rw [e_es16]; exact hOK_sA hT_es15 (p := 13) (n := 3) rfl (fun _ => by rw [zI_toInt (by unfold i32 iLO iHI; omega)]; exact ⟨by show (0 : Int) ≤ 0; omega, by show 0 ≤ (24 : Int); omega⟩)
        rw [← e_es16]
        refine x_ret (v := none) i_14_14 rfl (fun _ => rfl) rfl rfl rfl ?_
        show aW _ _ _ _ _ _ (24, [some (.ref 71), some (.int (zI w))], [], es16)
        refine x0 (r := (25, [some (.ref 71), some (.int (zI w))], [.ref 71], es16)) i_114_24 rfl ?_
        refine x0 (r := (26, [some (.ref 71), some (.int (zI w))], [.ref 71, .ref 71], es16)) i_114_25 rfl ?_
        refine x_geti (p := 7) i_114_26 hs_es16 rfl rfl ?_
        rw [show (gI es16 7 5).toInt = v11 from by rw [e_es16, gI_sA, e_es15, gI_sA, e_es14, gI_sI_ne (Or.inl (by decide)), e_es13, gI_sI_ne (Or.inl (by decide))]; exact e_v11.symm]
        refine x0 (r := (30, [some (.ref 71), some (.int (zI w))], [.int (zI 1), .int (zI v11), .ref 71], es16)) i_114_29 (by rfl) ?_
        refine x_iadd i_114_30 ?_
        refine x_puti (p := 7) (ty := .int) i_114_31 hs_es16 rfl rfl rfl (Or.inl rfl) ?_
        obtain ⟨es17, e_es17⟩ : ∃ z : PH, z = sI es16 7 5 (.int (zI (v11 + 1))) := ⟨_, rfl⟩
        have hs_es17 : sh es17 := by rw [e_es17]; exact sh_sI hs_es16 (p := 7) (b := 5) rfl rfl
        have hT_es17 : hOK tT es17 := by rw [e_es17]; exact hOK_sI hT_es16 (p := 7) (b := 5) rfl rfl (by rw [zI_toInt (by unfold i32 iLO iHI; omega)]; exact ⟨by show (0 : Int) ≤ (v11 + 1); omega, by show (v11 + 1) ≤ (3 : Int); omega⟩)
        rw [← e_es17]
        refine x0 (r := (35, [some (.ref 71), some (.int (zI w))], [.ref 71], es17)) i_114_34 rfl ?_
        refine x_geti (p := 7) i_114_35 hs_es17 rfl rfl ?_
        obtain ⟨v18, e_v18⟩ : ∃ z : Int, z = (gI es17 7 5).toInt := ⟨_, rfl⟩
        rw [← e_v18]
        have r_v18 : iLO ≤ v18 ∧ v18 ≤ iHI := by rw [e_v18]; exact i32_rng _
        unfold iLO iHI at r_v18
        have b_v18 : (0 : Int) ≤ v18 ∧ v18 ≤ (3 : Int) := by rw [e_v18]; exact gI_bd hT_es17 (p := 7) (b := 5) rfl rfl
        refine x0 (r := (39, [some (.ref 71), some (.int (zI w))], [.int (zI 1), .int (zI v18)], es17)) i_114_38 (by rfl) ?_
        refine x_isub i_114_39 ?_
        refine x_ret (v := some (.int (zI (v18 - 1)))) i_114_40 rfl (fun _ => rfl) rfl rfl rfl ?_
        show aW _ _ _ _ _ _ (50, [some (.ref 64), some (.int (zI w))], [.int (zI (v18 - 1))], es17)
        refine x_ret (v := some (.int (zI (v18 - 1)))) i_112_50 rfl (fun _ => rfl) rfl rfl rfl ?_
        exact K4 c1 c10 v11 e_v11 c12 es13 e_es13 es14 e_es14 es15 e_es15 es16 e_es16 es17 e_es17 v18 e_v18
      · refine x_cmpF i_112_25 (by unfold i32 iLO iHI; omega) (by unfold i32 iLO iHI; omega) rfl (by simp only [zC, cR]; omega) ?_
        refine x_thr i_112_28 rfl (fun _ => rfl) rfl rfl rfl rfl ?_
        exact K5 c1 c10 v11 e_v11 c12
def bookxP (w : Int) (es : PH) (r : Option Value ⊕ Nat) (es1 : PH) : Prop := sh es1 ∧ True ∧ ((r = .inr 0 ∧ (w < 0 ∨ 1 < w) ∧ gA es1 12 = gA es 12 ∧ gA es1 13 = gA es 13 ∧ gI es1 7 5 = gI es 7 5) ∨ (r = .inr 1 ∧ ((0 ≤ w ∧ w ≤ 1) ∧ 3 ≤ (gI es 7 5).toInt) ∧ gA es1 12 = gA es 12 ∧ gA es1 13 = gA es 13 ∧ gI es1 7 5 = gI es 7 5) ∨ (r = .inl (some (.int (zI ((gI es 7 5).toInt)))) ∧ ((0 ≤ w ∧ w ≤ 1) ∧ (gI es 7 5).toInt < 3) ∧ gA es1 12 = upd (gA es 12) (gI es 7 5).toInt.toNat (zI w) ∧ gA es1 13 = upd (gA es 13) (gI es 7 5).toInt.toNat (zI 0) ∧ (gI es1 7 5).toInt = (gI es 7 5).toInt + 1))
theorem fn_bookx {O : pOut} {d : Nat} {es : PH} {w : Int} (hw : i32 w) (hT : hOK tT es) : aW O (d + 2) 112 0 0 (fun o => bookxP w es o.1 o.2.1) (0, [some (.ref 64), some (.int (zI w))], [], es) := by
  have hs_es := sh_of hT
  have hB : 0 ≤ (gI es 7 5).toInt ∧ (gI es 7 5).toInt ≤ 3 := gI_bd hT (p := 7) (b := 5) rfl rfl
  unfold i32 iLO iHI at hw
  refine s_xbook (d := d) (kc := 0) (ks := 0) hs_es hw hT (fun c1 v2 e_v2 c3 es4 e_es4 es5 e_es5 es6 e_es6 es7 e_es7 es8 e_es8 v9 e_v9 => ?_) (fun c1 v2 e_v2 c3 => ?_) (fun c1 c10 => ?_) (fun c1 c10 v11 e_v11 c12 es13 e_es13 es14 e_es14 es15 e_es15 es16 e_es16 es17 e_es17 v18 e_v18 => ?_) (fun c1 c10 v11 e_v11 c12 => ?_)
  · have hs_es4 : sh es4 := by rw [e_es4]; exact sh_sI hs_es (p := 0) (b := 10) rfl rfl
    have hs_es5 : sh es5 := by rw [e_es5]; exact sh_sI hs_es4 (p := 73) (b := 3) rfl rfl
    have hs_es6 : sh es6 := by rw [e_es6]; exact sh_sA hs_es5
    have hs_es7 : sh es7 := by rw [e_es7]; exact sh_sA hs_es6
    have hs_es8 : sh es8 := by rw [e_es8]; exact sh_sI hs_es7 (p := 7) (b := 5) rfl rfl
    have b_v9 : v9 = (v2 + 1) := by
      have h := e_v9
      rw [e_es8, gI_sI hs_es7 (p := 7) (b := 5) rfl (by decide), zI_toInt (by unfold i32 iLO iHI; omega)] at h
      exact h
    exact ⟨hs_es8, trivial, Or.inr (Or.inr (⟨by rw [show (v9 - 1) = (gI es 7 5).toInt by omega], by omega, by show gA es8 12 = _; rw [e_es8, gA_sI, e_es7, gA_sA_ne (by decide), e_es6, gA_sA hs_es5 (p := 12) (t := 0) (n := 3) rfl (by decide), e_es5, gA_sI, e_es4, gA_sI]; rw [← e_v2], by show gA es8 13 = _; rw [e_es8, gA_sI, e_es7, gA_sA hs_es6 (p := 13) (t := 0) (n := 3) rfl (by decide), e_es6, gA_sA_ne (by decide), e_es5, gA_sI, e_es4, gA_sI]; rw [← e_v2], by show (gI es8 7 5).toInt = _; rw [e_es8, gI_sI hs_es7 (p := 7) (b := 5) rfl (by decide)]; rw [zI_toInt (by unfold i32 iLO iHI; omega)]; omega⟩))⟩
  · exact ⟨hs_es, trivial, Or.inr (Or.inl ⟨rfl, by omega, by show gA es 12 = _; rfl, by show gA es 13 = _; rfl, by show gI es 7 5 = _; rfl⟩)⟩
  · exact ⟨hs_es, trivial, Or.inl ⟨rfl, by omega, by show gA es 12 = _; rfl, by show gA es 13 = _; rfl, by show gI es 7 5 = _; rfl⟩⟩
  · have hs_es13 : sh es13 := by rw [e_es13]; exact sh_sI hs_es (p := 0) (b := 10) rfl rfl
    have hs_es14 : sh es14 := by rw [e_es14]; exact sh_sI hs_es13 (p := 73) (b := 3) rfl rfl
    have hs_es15 : sh es15 := by rw [e_es15]; exact sh_sA hs_es14
    have hs_es16 : sh es16 := by rw [e_es16]; exact sh_sA hs_es15
    have hs_es17 : sh es17 := by rw [e_es17]; exact sh_sI hs_es16 (p := 7) (b := 5) rfl rfl
    have b_v18 : v18 = (v11 + 1) := by
      have h := e_v18
      rw [e_es17, gI_sI hs_es16 (p := 7) (b := 5) rfl (by decide), zI_toInt (by unfold i32 iLO iHI; omega)] at h
      exact h
    exact ⟨hs_es17, trivial, Or.inr (Or.inr (⟨by rw [show (v18 - 1) = (gI es 7 5).toInt by omega], by omega, by show gA es17 12 = _; rw [e_es17, gA_sI, e_es16, gA_sA_ne (by decide), e_es15, gA_sA hs_es14 (p := 12) (t := 0) (n := 3) rfl (by decide), e_es14, gA_sI, e_es13, gA_sI]; rw [← e_v11], by show gA es17 13 = _; rw [e_es17, gA_sI, e_es16, gA_sA hs_es15 (p := 13) (t := 0) (n := 3) rfl (by decide), e_es15, gA_sA_ne (by decide), e_es14, gA_sI, e_es13, gA_sI]; rw [← e_v11], by show (gI es17 7 5).toInt = _; rw [e_es17, gI_sI hs_es16 (p := 7) (b := 5) rfl (by decide)]; rw [zI_toInt (by unfold i32 iLO iHI; omega)]; omega⟩))⟩
  · exact ⟨hs_es, trivial, Or.inr (Or.inl ⟨rfl, by omega, by show gA es 12 = _; rfl, by show gA es 13 = _; rfl, by show gI es 7 5 = _; rfl⟩)⟩
theorem s_booky0 {O : pOut} {d kc ks : Nat} {Q : pRes → Prop} {es : PH} {w : Int} (hs_es : sh es)
    (K1 : aW O d 281 kc ks Q (4, [some (.ref 64), some (.int (zI w)), some (.ref 171), none], [.int (zI w), .ref 64, .int (zI 0), .ref 171], es)) :
    aW O d 281 kc ks Q (0, [some (.ref 64), some (.int (zI w)), some (.ref 171), none], [], es) := by
  refine x0 (r := (1, [some (.ref 64), some (.int (zI w)), some (.ref 171), none], [.ref 171], es)) i_281_0 rfl ?_
  refine x0 (r := (2, [some (.ref 64), some (.int (zI w)), some (.ref 171), none], [.int (zI 0), .ref 171], es)) i_281_1 (by rfl) ?_
  refine x0 (r := (3, [some (.ref 64), some (.int (zI w)), some (.ref 171), none], [.ref 64, .int (zI 0), .ref 171], es)) i_281_2 rfl ?_
  refine x0 (r := (4, [some (.ref 64), some (.int (zI w)), some (.ref 171), none], [.int (zI w), .ref 64, .int (zI 0), .ref 171], es)) i_281_3 rfl ?_
  exact K1
theorem s_booky1 {O : pOut} {d kc ks : Nat} {Q : pRes → Prop} {es : PH} {w v : Int} (hs_es : sh es)
    (K1 : ∀ es1 : PH, es1 = sJ es 107 (Int.toNat 0) ((zI v).toInt64) → Q (.inl (some (.int (zI 0))), es1, kc, ks)) :
    aW O d 281 kc ks Q (7, [some (.ref 64), some (.int (zI w)), some (.ref 171), none], [.int (zI v), .int (zI 0), .ref 171], es) := by
  refine x0 (r := (8, [some (.ref 64), some (.int (zI w)), some (.ref 171), none], [.long ((zI v).toInt64), .int (zI 0), .ref 171], es)) i_281_7 rfl ?_
  refine x_last (p := 107) i_281_8 hs_es rfl (by unfold i32 iLO iHI; omega) (by omega) (by omega) ?_
  obtain ⟨es1, e_es1⟩ : ∃ z : PH, z = sJ es 107 (Int.toNat 0) ((zI v).toInt64) := ⟨_, rfl⟩
  have hs_es1 : sh es1 := by rw [e_es1]; exact sh_sJ hs_es
  rw [← e_es1]
  refine x0 (r := (18, [some (.ref 64), some (.int (zI w)), some (.ref 171), none], [], es1)) i_281_9 rfl ?_
  refine x0 (r := (19, [some (.ref 64), some (.int (zI w)), some (.ref 171), none], [.int (zI 0)], es1)) i_281_18 (by rfl) ?_
  refine x_ret (v := some (.int (zI 0))) i_281_19 rfl (fun _ => rfl) rfl rfl rfl ?_
  exact K1 es1 e_es1
theorem s_booky13 {O : pOut} {d kc ks : Nat} {Q : pRes → Prop} {es : PH} {w : Int} (hs_es : sh es)
    (K1 : Q (.inl (some (.int (zI 1))), es, kc, ks)) :
    aW O d 281 kc ks Q (13, [some (.ref 64), some (.int (zI w)), some (.ref 171), none], [], es) := by
  refine x0 (r := (14, [some (.ref 64), some (.int (zI w)), some (.ref 171), none], [.int (zI 1)], es)) i_281_13 (by rfl) ?_
  refine x_ret (v := some (.int (zI 1))) i_281_14 rfl (fun _ => rfl) rfl rfl rfl ?_
  exact K1
theorem s_booky16 {O : pOut} {d kc ks : Nat} {Q : pRes → Prop} {es : PH} {w : Int} (hs_es : sh es)
    (K1 : Q (.inl (some (.int (zI 2))), es, kc, ks)) :
    aW O d 281 kc ks Q (16, [some (.ref 64), some (.int (zI w)), some (.ref 171), none], [], es) := by
  refine x0 (r := (17, [some (.ref 64), some (.int (zI w)), some (.ref 171), none], [.int (zI 2)], es)) i_281_16 (by rfl) ?_
  refine x_ret (v := some (.int (zI 2))) i_281_17 rfl (fun _ => rfl) rfl rfl rfl ?_
  exact K1
def bookyP (w : Int) (es : PH) (r : Option Value ⊕ Nat) (es1 : PH) : Prop := sh es1 ∧ True ∧ ∃ k : Int, r = .inl (some (.int (zI k))) ∧ ((k = 1 ∧ (w < 0 ∨ 1 < w) ∧ gA es1 12 = gA es 12 ∧ gA es1 13 = gA es 13 ∧ gI es1 7 5 = gI es 7 5) ∨ (k = 2 ∧ ((0 ≤ w ∧ w ≤ 1) ∧ 3 ≤ (gI es 7 5).toInt) ∧ gA es1 12 = gA es 12 ∧ gA es1 13 = gA es 13 ∧ gI es1 7 5 = gI es 7 5) ∨ (k = 0 ∧ ((0 ≤ w ∧ w ≤ 1) ∧ (gI es 7 5).toInt < 3) ∧ gA es1 12 = upd (gA es 12) (gI es 7 5).toInt.toNat (zI w) ∧ gA es1 13 = upd (gA es 13) (gI es 7 5).toInt.toNat (zI 0) ∧ (gI es1 7 5).toInt = (gI es 7 5).toInt + 1 ∧ (gJ es1 107 (Int.toNat 0)).toInt = (gI es 7 5).toInt))
theorem fn_booky {O : pOut} {d : Nat} {es : PH} {w : Int} (hw : i32 w) (hT : hOK tT es) : aW O (d + 3) 281 0 0 (fun o => bookyP w es o.1 o.2.1) (0, [some (.ref 64), some (.int (zI w)), some (.ref 171), none], [], es) := by
  refine s_booky0 (sh_of hT) ?_
  refine x_call (vs := [.ref 64, .int (zI w)]) (rs := [.int (zI 0), .ref 171]) i_281_4 rfl (fun _ => rfl) rfl rfl rfl rfl rfl (pCall_v (p := 0) (sh_of hT) rfl rfl rfl rfl rfl (by decide) rfl rfl rfl rfl rfl) ?_
  show aW _ _ _ _ _ _ (0, [some (.ref 64), some (.int (zI w))], [], es)
  refine aW_mono (Nat.le_refl _) (fun o ho => ?_) (fn_bookx (O := O) (d := d) hw hT)
  obtain ⟨r, es', kc', ks'⟩ := o
  obtain ⟨hs1, hcm, h⟩ : bookxP w es r es' := ho
  rcases h with ⟨rfl, hc, g0, g1, g2⟩ | ⟨rfl, hc, g0, g1, g2⟩ | ⟨rfl, hc, g0, g1, g2⟩
  · refine ⟨_, _, _, _, rfl, rfl, rfl, ?_⟩
    show aW _ _ _ _ _ _ (13, [some (.ref 64), some (.int (zI w)), some (.ref 171), none], [], es')
    exact s_booky13 hs1 ⟨hs1, hcm, 1, rfl, Or.inl ⟨rfl, hc, g0, g1, g2⟩⟩
  · refine ⟨_, _, _, _, rfl, rfl, rfl, ?_⟩
    show aW _ _ _ _ _ _ (16, [some (.ref 64), some (.int (zI w)), some (.ref 171), none], [], es')
    exact s_booky16 hs1 ⟨hs1, hcm, 2, rfl, Or.inr (Or.inl ⟨rfl, hc, g0, g1, g2⟩)⟩
  · refine aK_inl ?_
    show aW _ _ _ _ _ _ (7, [some (.ref 64), some (.int (zI w)), some (.ref 171), none], [.int (zI ((gI es 7 5).toInt)), .int (zI 0), .ref 171], es')
    refine s_booky1 hs1 (fun es1 e_es1 => ?_)
    have g9 : (gJ es1 107 (Int.toNat 0)).toInt = (gI es 7 5).toInt := by
      rw [e_es1, gJ_sJ hs1 (p := 107) (n := 1) rfl]
      unfold vp_updL
      rw [if_pos rfl, i2l_int (i32_rng _)]
    exact ⟨by show sh es1; rw [e_es1]; exact sh_sJ hs1, trivial, 0, rfl, Or.inr (Or.inr (⟨rfl, hc, by rw [e_es1, gA_sJ]; exact g0, by rw [e_es1, gA_sJ]; exact g1, by rw [e_es1, gI_sJ]; exact g2, g9⟩))⟩
theorem s_mbook {O : pOut} {d kc ks : Nat} {Q : pRes → Prop} {es : PH} {w : Int} (hs_es : sh es) (h_w : -2147483648 ≤ w ∧ w ≤ 2147483647) (hT_es : hOK tT es)
    (K1 : ∀ es1 : PH, es1 = sI es 79 0 (.int (zI 0)) → w < 0 → ∀ es3 : PH, es3 = sI es1 79 0 (.int (zI 1)) → Q (.inl (some (.int (zI 0))), es3, kc, ks))
    (K2 : ∀ es1 : PH, es1 = sI es 79 0 (.int (zI 0)) → ¬ (w < 0) → 1 < w → ∀ es5 : PH, es5 = sI es1 79 0 (.int (zI 1)) → Q (.inl (some (.int (zI 0))), es5, kc, ks))
    (K3 : ∀ es1 : PH, es1 = sI es 79 0 (.int (zI 0)) → ¬ (w < 0) → ¬ (1 < w) → ∀ v6 : Int, v6 = (gA es1 80 (Int.toNat 1)).toInt → v6 ≠ 3 → ∀ es8 : PH, es8 = sA es1 80 (119 + (98 * v6)).toNat (zI w) → ∀ es9 : PH, es9 = sA es8 80 ((119 + (98 * v6)) + 1).toNat (zI 0) → ∀ v10 : Int, v10 = (gA es9 80 (Int.toNat 1)).toInt → ∀ es11 : PH, es11 = sA es9 80 (Int.toNat 1) (zI (v10 + 1)) → Q (.inl (some (.int (zI v6))), es11, kc, ks))
    (K4 : ∀ es1 : PH, es1 = sI es 79 0 (.int (zI 0)) → ¬ (w < 0) → ¬ (1 < w) → ∀ v6 : Int, v6 = (gA es1 80 (Int.toNat 1)).toInt → ¬ (v6 ≠ 3) → ∀ es12 : PH, es12 = sI es1 79 0 (.int (zI 2)) → Q (.inl (some (.int (zI 0))), es12, kc, ks)) :
    aW O (d + 1) 201 kc ks Q (0, [some (.ref 143), some (.int (zI w)), none], [], es) := by
  refine x0 (r := (1, [some (.ref 143), some (.int (zI w)), none], [.ref 143], es)) i_201_0 rfl ?_
  refine x0 (r := (2, [some (.ref 143), some (.int (zI w)), none], [.int (zI 0), .ref 143], es)) i_201_1 (by rfl) ?_
  refine x_puti (p := 79) (ty := .int) i_201_2 hs_es rfl rfl rfl (Or.inl rfl) ?_
  obtain ⟨es1, e_es1⟩ : ∃ z : PH, z = sI es 79 0 (.int (zI 0)) := ⟨_, rfl⟩
  have hs_es1 : sh es1 := by rw [e_es1]; exact sh_sI hs_es (p := 79) (b := 0) rfl rfl
  have hT_es1 : hOK tT es1 := by rw [e_es1]; exact hOK_sI hT_es (p := 79) (b := 0) (lo := iLO) (hi := iHI) rfl rfl (i32_rng _)
  rw [← e_es1]
  refine x0 (r := (6, [some (.ref 143), some (.int (zI w)), none], [.ref 143], es1)) i_201_5 rfl ?_
  refine x0 (r := (7, [some (.ref 143), some (.int (zI w)), none], [.int (zI w), .ref 143], es1)) i_201_6 rfl ?_
  refine x0 (r := (8, [some (.ref 143), some (.int (zI w)), none], [.int (zI 0), .int (zI w), .ref 143], es1)) i_201_7 (by rfl) ?_
  refine x0 (r := (9, [some (.ref 143), some (.int (zI w)), none], [.int (zI 1), .int (zI 0), .int (zI w), .ref 143], es1)) i_201_8 (by rfl) ?_
  refine x_call (vs := [.int (zI w), .int (zI 0), .int (zI 1)]) (rs := [.ref 143]) i_201_9 rfl (fun _ => rfl) rfl rfl rfl rfl rfl rfl ?_
  show aW _ _ _ _ _ _ (0, [some (.int (zI w)), some (.int (zI 0)), some (.int (zI 1))], [], es1)
  refine x0 (r := (1, [some (.int (zI w)), some (.int (zI 0)), some (.int (zI 1))], [.int (zI w)], es1)) i_193_0 rfl ?_
  refine x0 (r := (2, [some (.int (zI w)), some (.int (zI 0)), some (.int (zI 1))], [.int (zI 0), .int (zI w)], es1)) i_193_1 rfl ?_
  by_cases c2 : w < 0
  · refine x_cmpT i_193_2 (by unfold i32 iLO iHI; omega) (by unfold i32 iLO iHI; omega) rfl (by simp only [zC, cR]; omega) ?_
    refine x0 (r := (15, [some (.int (zI w)), some (.int (zI 0)), some (.int (zI 1))], [.int (zI 0)], es1)) i_193_14 (by rfl) ?_
    refine x_ret (v := some (.int (zI 0))) i_193_15 rfl (fun _ => rfl) rfl rfl (pFin_b (by omega)) ?_
    show aW _ _ _ _ _ _ (12, [some (.ref 143), some (.int (zI w)), none], [.int (zI 0), .ref 143], es1)
    refine x_ifF i_201_12 (by unfold i32 iLO iHI; omega) rfl (by simp only [zC, cR]; omega) ?_
    refine x0 (r := (16, [some (.ref 143), some (.int (zI w)), none], [.int (zI 1), .ref 143], es1)) i_201_15 (by rfl) ?_
    refine x0 (r := (20, [some (.ref 143), some (.int (zI w)), none], [.int (zI 1), .ref 143], es1)) i_201_16 rfl ?_
    refine x0 (r := (21, [some (.ref 143), some (.int (zI w)), none], [.int (zI 1), .int (zI 1), .ref 143], es1)) i_201_20 (by rfl) ?_
    refine x_call (vs := [.ref 143, .int (zI 1), .int (zI 1)]) (rs := []) i_201_21 rfl (fun _ => rfl) rfl rfl rfl rfl rfl (pCall_v (p := 79) hs_es1 rfl rfl rfl rfl rfl (by decide) rfl rfl rfl rfl rfl) ?_
    show aW _ _ _ _ _ _ (0, [some (.ref 143), some (.int (zI 1)), some (.int (zI 1))], [], es1)
    refine x0 (r := (1, [some (.ref 143), some (.int (zI 1)), some (.int (zI 1))], [.int (zI 1)], es1)) i_194_0 rfl ?_
    refine x_ifF i_194_1 (by unfold i32 iLO iHI; omega) rfl (by simp only [zC, cR]; omega) ?_
    refine x0 (r := (5, [some (.ref 143), some (.int (zI 1)), some (.int (zI 1))], [.ref 143], es1)) i_194_4 rfl ?_
    refine x0 (r := (6, [some (.ref 143), some (.int (zI 1)), some (.int (zI 1))], [.int (zI 1), .ref 143], es1)) i_194_5 rfl ?_
    refine x_puti (p := 79) (ty := .int) i_194_6 hs_es1 rfl rfl rfl (Or.inl rfl) ?_
    obtain ⟨es3, e_es3⟩ : ∃ z : PH, z = sI es1 79 0 (.int (zI 1)) := ⟨_, rfl⟩
    have hs_es3 : sh es3 := by rw [e_es3]; exact sh_sI hs_es1 (p := 79) (b := 0) rfl rfl
    have hT_es3 : hOK tT es3 := by rw [e_es3]; exact hOK_sI hT_es1 (p := 79) (b := 0) (lo := iLO) (hi := iHI) rfl rfl (i32_rng _)
    rw [← e_es3]
    refine x0 (r := (10, [some (.ref 143), some (.int (zI 1)), some (.int (zI 1))], [.int (zI 1)], es3)) i_194_9 rfl ?_
    refine x_ret (v := some (.int (zI 1))) i_194_10 rfl (fun _ => rfl) rfl rfl (pFin_b (by omega)) ?_
    show aW _ _ _ _ _ _ (24, [some (.ref 143), some (.int (zI w)), none], [.int (zI 1)], es3)
    refine x_ifT i_201_24 (by unfold i32 iLO iHI; omega) rfl (by simp only [zC, cR]; omega) ?_
    refine x0 (r := (51, [some (.ref 143), some (.int (zI w)), none], [.int (zI 0)], es3)) i_201_50 (by rfl) ?_
    refine x_ret (v := some (.int (zI 0))) i_201_51 rfl (fun _ => rfl) rfl rfl rfl ?_
    exact K1 es1 e_es1 c2 es3 e_es3
  · refine x_cmpF i_193_2 (by unfold i32 iLO iHI; omega) (by unfold i32 iLO iHI; omega) rfl (by simp only [zC, cR]; omega) ?_
    refine x0 (r := (6, [some (.int (zI w)), some (.int (zI 0)), some (.int (zI 1))], [.int (zI w)], es1)) i_193_5 rfl ?_
    refine x0 (r := (7, [some (.int (zI w)), some (.int (zI 0)), some (.int (zI 1))], [.int (zI 1), .int (zI w)], es1)) i_193_6 rfl ?_
    by_cases c4 : 1 < w
    · refine x_cmpT i_193_7 (by unfold i32 iLO iHI; omega) (by unfold i32 iLO iHI; omega) rfl (by simp only [zC, cR]; omega) ?_
      refine x0 (r := (15, [some (.int (zI w)), some (.int (zI 0)), some (.int (zI 1))], [.int (zI 0)], es1)) i_193_14 (by rfl) ?_
      refine x_ret (v := some (.int (zI 0))) i_193_15 rfl (fun _ => rfl) rfl rfl (pFin_b (by omega)) ?_
      show aW _ _ _ _ _ _ (12, [some (.ref 143), some (.int (zI w)), none], [.int (zI 0), .ref 143], es1)
      refine x_ifF i_201_12 (by unfold i32 iLO iHI; omega) rfl (by simp only [zC, cR]; omega) ?_
      refine x0 (r := (16, [some (.ref 143), some (.int (zI w)), none], [.int (zI 1), .ref 143], es1)) i_201_15 (by rfl) ?_
      refine x0 (r := (20, [some (.ref 143), some (.int (zI w)), none], [.int (zI 1), .ref 143], es1)) i_201_16 rfl ?_
      refine x0 (r := (21, [some (.ref 143), some (.int (zI w)), none], [.int (zI 1), .int (zI 1), .ref 143], es1)) i_201_20 (by rfl) ?_
      refine x_call (vs := [.ref 143, .int (zI 1), .int (zI 1)]) (rs := []) i_201_21 rfl (fun _ => rfl) rfl rfl rfl rfl rfl (pCall_v (p := 79) hs_es1 rfl rfl rfl rfl rfl (by decide) rfl rfl rfl rfl rfl) ?_
      show aW _ _ _ _ _ _ (0, [some (.ref 143), some (.int (zI 1)), some (.int (zI 1))], [], es1)
      refine x0 (r := (1, [some (.ref 143), some (.int (zI 1)), some (.int (zI 1))], [.int (zI 1)], es1)) i_194_0 rfl ?_
      refine x_ifF i_194_1 (by unfold i32 iLO iHI; omega) rfl (by simp only [zC, cR]; omega) ?_
      refine x0 (r := (5, [some (.ref 143), some (.int (zI 1)), some (.int (zI 1))], [.ref 143], es1)) i_194_4 rfl ?_
      refine x0 (r := (6, [some (.ref 143), some (.int (zI 1)), some (.int (zI 1))], [.int (zI 1), .ref 143], es1)) i_194_5 rfl ?_
      refine x_puti (p := 79) (ty := .int) i_194_6 hs_es1 rfl rfl rfl (Or.inl rfl) ?_
      obtain ⟨es5, e_es5⟩ : ∃ z : PH, z = sI es1 79 0 (.int (zI 1)) := ⟨_, rfl⟩
      have hs_es5 : sh es5 := by rw [e_es5]; exact sh_sI hs_es1 (p := 79) (b := 0) rfl rfl
      have hT_es5 : hOK tT es5 := by rw [e_es5]; exact hOK_sI hT_es1 (p := 79) (b := 0) (lo := iLO) (hi := iHI) rfl rfl (i32_rng _)
      rw [← e_es5]
      refine x0 (r := (10, [some (.ref 143), some (.int (zI 1)), some (.int (zI 1))], [.int (zI 1)], es5)) i_194_9 rfl ?_
      refine x_ret (v := some (.int (zI 1))) i_194_10 rfl (fun _ => rfl) rfl rfl (pFin_b (by omega)) ?_
      show aW _ _ _ _ _ _ (24, [some (.ref 143), some (.int (zI w)), none], [.int (zI 1)], es5)
      refine x_ifT i_201_24 (by unfold i32 iLO iHI; omega) rfl (by simp only [zC, cR]; omega) ?_
      refine x0 (r := (51, [some (.ref 143), some (.int (zI w)), none], [.int (zI 0)], es5)) i_201_50 (by rfl) ?_
      refine x_ret (v := some (.int (zI 0))) i_201_51 rfl (fun _ => rfl) rfl rfl rfl ?_
      exact K2 es1 e_es1 c2 c4 es5 e_es5
    · refine x_cmpF i_193_7 (by unfold i32 iLO iHI; omega) (by unfold i32 iLO iHI; omega) rfl (by simp only [zC, cR]; omega) ?_
      refine x0 (r := (11, [some (.int (zI w)), some (.int (zI 0)), some (.int (zI 1))], [.int (zI 1)], es1)) i_193_10 (by rfl) ?_
      refine x0 (r := (15, [some (.int (zI w)), some (.int (zI 0)), some (.int (zI 1))], [.int (zI 1)], es1)) i_193_11 rfl ?_
      refine x_ret (v := some (.int (zI 1))) i_193_15 rfl (fun _ => rfl) rfl rfl (pFin_b (by omega)) ?_
      show aW _ _ _ _ _ _ (12, [some (.ref 143), some (.int (zI w)), none], [.int (zI 1), .ref 143], es1)
      refine x_ifT i_201_12 (by unfold i32 iLO iHI; omega) rfl (by simp only [zC, cR]; omega) ?_
      refine x0 (r := (20, [some (.ref 143), some (.int (zI w)), none], [.int (zI 0), .ref 143], es1)) i_201_19 (by rfl) ?_
      refine x0 (r := (21, [some (.ref 143), some (.int (zI w)), none], [.int (zI 1), .int (zI 0), .ref 143], es1)) i_201_20 (by rfl) ?_
      refine x_call (vs := [.ref 143, .int (zI 0), .int (zI 1)]) (rs := []) i_201_21 rfl (fun _ => rfl) rfl rfl rfl rfl rfl (pCall_v (p := 79) hs_es1 rfl rfl rfl rfl rfl (by decide) rfl rfl rfl rfl rfl) ?_
      show aW _ _ _ _ _ _ (0, [some (.ref 143), some (.int (zI 0)), some (.int (zI 1))], [], es1)
      refine x0 (r := (1, [some (.ref 143), some (.int (zI 0)), some (.int (zI 1))], [.int (zI 0)], es1)) i_194_0 rfl ?_
      refine x_ifT i_194_1 (by unfold i32 iLO iHI; omega) rfl (by simp only [zC, cR]; omega) ?_
      refine x0 (r := (10, [some (.ref 143), some (.int (zI 0)), some (.int (zI 1))], [.int (zI 0)], es1)) i_194_9 rfl ?_
      refine x_ret (v := some (.int (zI 0))) i_194_10 rfl (fun _ => rfl) rfl rfl (pFin_b (by omega)) ?_
      show aW _ _ _ _ _ _ (24, [some (.ref 143), some (.int (zI w)), none], [.int (zI 0)], es1)
      refine x_ifF i_201_24 (by unfold i32 iLO iHI; omega) rfl (by simp only [zC, cR]; omega) ?_
      refine x0 (r := (28, [some (.ref 143), some (.int (zI w)), none], [.ref 143], es1)) i_201_27 rfl ?_
      refine x0 (r := (29, [some (.ref 143), some (.int (zI w)), none], [.ref 143, .ref 143], es1)) i_201_28 rfl ?_
      refine x_getr (p := 79) (k := 144) i_201_29 hs_es1 rfl rfl ?_
      show aW _ _ _ _ _ _ (32, [some (.ref 143), some (.int (zI w)), none], [.ref 144, .ref 143], es1)
      refine x0 (r := (33, [some (.ref 143), some (.int (zI w)), none], [.int (zI 1), .ref 144, .ref 143], es1)) i_201_32 (by rfl) ?_
      refine x_iald (p := 80) i_201_33 hs_es1 rfl (by unfold i32 iLO iHI; omega) (by omega) (by omega) ?_
      obtain ⟨v6, e_v6⟩ : ∃ z : Int, z = (gA es1 80 (Int.toNat 1)).toInt := ⟨_, rfl⟩
      rw [← e_v6]
      have r_v6 : iLO ≤ v6 ∧ v6 ≤ iHI := by rw [e_v6]; exact i32_rng _
      unfold iLO iHI at r_v6
      have b_v6 : (0 : Int) ≤ v6 ∧ v6 ≤ (3 : Int) := by rw [e_v6]; exact gA_bd hT_es1 (p := 80) (k := (Int.toNat 1)) rfl (by omega) (by decide)
      refine x0 (r := (35, [some (.ref 143), some (.int (zI w)), none], [.int (zI 3), .int (zI v6), .ref 143], es1)) i_201_34 (by rfl) ?_
      by_cases c7 : v6 ≠ 3
      · refine x_cmpT i_201_35 (by unfold i32 iLO iHI; omega) (by unfold i32 iLO iHI; omega) rfl (by simp only [zC, cR]; omega) ?_
        refine x0 (r := (43, [some (.ref 143), some (.int (zI w)), none], [.int (zI 0), .ref 143], es1)) i_201_42 (by rfl) ?_
        refine x0 (r := (44, [some (.ref 143), some (.int (zI w)), none], [.int (zI 2), .int (zI 0), .ref 143], es1)) i_201_43 (by rfl) ?_
        refine x_call (vs := [.ref 143, .int (zI 0), .int (zI 2)]) (rs := []) i_201_44 rfl (fun _ => rfl) rfl rfl rfl rfl rfl (pCall_v (p := 79) hs_es1 rfl rfl rfl rfl rfl (by decide) rfl rfl rfl rfl rfl) ?_
        show aW _ _ _ _ _ _ (0, [some (.ref 143), some (.int (zI 0)), some (.int (zI 2))], [], es1)
        refine x0 (r := (1, [some (.ref 143), some (.int (zI 0)), some (.int (zI 2))], [.int (zI 0)], es1)) i_194_0 rfl ?_
        refine x_ifT i_194_1 (by unfold i32 iLO iHI; omega) rfl (by simp only [zC, cR]; omega) ?_
        refine x0 (r := (10, [some (.ref 143), some (.int (zI 0)), some (.int (zI 2))], [.int (zI 0)], es1)) i_194_9 rfl ?_
        refine x_ret (v := some (.int (zI 0))) i_194_10 rfl (fun _ => rfl) rfl rfl (pFin_b (by omega)) ?_
        show aW _ _ _ _ _ _ (47, [some (.ref 143), some (.int (zI w)), none], [.int (zI 0)], es1)
        refine x_ifT i_201_47 (by unfold i32 iLO iHI; omega) rfl (by simp only [zC, cR]; omega) ?_
        refine x0 (r := (53, [some (.ref 143), some (.int (zI w)), none], [.ref 143], es1)) i_201_52 rfl ?_
        refine x_getr (p := 79) (k := 144) i_201_53 hs_es1 rfl rfl ?_
        show aW _ _ _ _ _ _ (56, [some (.ref 143), some (.int (zI w)), none], [.ref 144], es1)
        refine x0 (r := (57, [some (.ref 143), some (.int (zI w)), none], [.int (zI 1), .ref 144], es1)) i_201_56 (by rfl) ?_
        refine x_iald (p := 80) i_201_57 hs_es1 rfl (by unfold i32 iLO iHI; omega) (by omega) (by omega) ?_
        rw [show (gA es1 80 (Int.toNat 1)).toInt = v6 from e_v6.symm]
        refine x0 (r := (59, [some (.ref 143), some (.int (zI w)), some (.int (zI v6))], [], es1)) i_201_58 rfl ?_
        refine x0 (r := (60, [some (.ref 143), some (.int (zI w)), some (.int (zI v6))], [.ref 143], es1)) i_201_59 rfl ?_
        refine x_getr (p := 79) (k := 144) i_201_60 hs_es1 rfl rfl ?_
        show aW _ _ _ _ _ _ (63, [some (.ref 143), some (.int (zI w)), some (.int (zI v6))], [.ref 144], es1)
        refine x0 (r := (65, [some (.ref 143), some (.int (zI w)), some (.int (zI v6))], [.int (zI 119), .ref 144], es1)) i_201_63 (by rfl) ?_
        refine x0 (r := (67, [some (.ref 143), some (.int (zI w)), some (.int (zI v6))], [.int (zI 98), .int (zI 119), .ref 144], es1)) i_201_65 (by rfl) ?_
        refine x0 (r := (68, [some (.ref 143), some (.int (zI w)), some (.int (zI v6))], [.int (zI v6), .int (zI 98), .int (zI 119), .ref 144], es1)) i_201_67 rfl ?_
        refine x_imul i_201_68 ?_
        refine x_iadd i_201_69 ?_
        refine x0 (r := (71, [some (.ref 143), some (.int (zI w)), some (.int (zI v6))], [.int (zI w), .int (zI (119 + (98 * v6))), .ref 144], es1)) i_201_70 rfl ?_
        refine x_iast (p := 80) i_201_71 hs_es1 rfl (by unfold i32 iLO iHI; omega) (by omega) (by omega) ?_
        obtain ⟨es8, e_es8⟩ : ∃ z : PH, z = sA es1 80 (119 + (98 * v6)).toNat (zI w) := ⟨_, rfl⟩
        have hs_es8 : sh es8 := by rw [e_es8]; exact sh_sA hs_es1
        rw [← e_es8]
        refine x0 (r := (73, [some (.ref 143), some (.int (zI w)), some (.int (zI v6))], [.ref 143], es8)) i_201_72 rfl ?_
        refine x_getr (p := 79) (k := 144) i_201_73 hs_es8 rfl rfl ?_
        show aW _ _ _ _ _ _ (76, [some (.ref 143), some (.int (zI w)), some (.int (zI v6))], [.ref 144], es8)
        refine x0 (r := (78, [some (.ref 143), some (.int (zI w)), some (.int (zI v6))], [.int (zI 119), .ref 144], es8)) i_201_76 (by rfl) ?_
        refine x0 (r := (80, [some (.ref 143), some (.int (zI w)), some (.int (zI v6))], [.int (zI 98), .int (zI 119), .ref 144], es8)) i_201_78 (by rfl) ?_
        refine x0 (r := (81, [some (.ref 143), some (.int (zI w)), some (.int (zI v6))], [.int (zI v6), .int (zI 98), .int (zI 119), .ref 144], es8)) i_201_80 rfl ?_
        refine x_imul i_201_81 ?_
        refine x_iadd i_201_82 ?_
        refine x0 (r := (84, [some (.ref 143), some (.int (zI w)), some (.int (zI v6))], [.int (zI 1), .int (zI (119 + (98 * v6))), .ref 144], es8)) i_201_83 (by rfl) ?_
        refine x_iadd i_201_84 ?_
        refine x0 (r := (86, [some (.ref 143), some (.int (zI w)), some (.int (zI v6))], [.int (zI 0), .int (zI ((119 + (98 * v6)) + 1)), .ref 144], es8)) i_201_85 (by rfl) ?_
        refine x_iast (p := 80) i_201_86 hs_es8 rfl (by unfold i32 iLO iHI; omega) (by omega) (by omega) ?_
        obtain ⟨es9, e_es9⟩ : ∃ z : PH, z = sA es8 80 ((119 + (98 * v6)) + 1).toNat (zI 0) := ⟨_, rfl⟩
        have hs_es9 : sh es9 := by rw [e_es9]; exact sh_sA hs_es8
        rw [← e_es9]
        refine x0 (r := (88, [some (.ref 143), some (.int (zI w)), some (.int (zI v6))], [.ref 143], es9)) i_201_87 rfl ?_
        refine x_getr (p := 79) (k := 144) i_201_88 hs_es9 rfl rfl ?_
        show aW _ _ _ _ _ _ (91, [some (.ref 143), some (.int (zI w)), some (.int (zI v6))], [.ref 144], es9)
        refine x0 (r := (92, [some (.ref 143), some (.int (zI w)), some (.int (zI v6))], [.int (zI 1), .ref 144], es9)) i_201_91 (by rfl) ?_
        refine x0 (r := (93, [some (.ref 143), some (.int (zI w)), some (.int (zI v6))], [.int (zI 1), .ref 144, .int (zI 1), .ref 144], es9)) i_201_92 rfl ?_
        refine x_iald (p := 80) i_201_93 hs_es9 rfl (by unfold i32 iLO iHI; omega) (by omega) (by omega) ?_
        obtain ⟨v10, e_v10⟩ : ∃ z : Int, z = (gA es9 80 (Int.toNat 1)).toInt := ⟨_, rfl⟩
        rw [← e_v10]
        have r_v10 : iLO ≤ v10 ∧ v10 ≤ iHI := by rw [e_v10]; exact i32_rng _
        unfold iLO iHI at r_v10
        refine x0 (r := (95, [some (.ref 143), some (.int (zI w)), some (.int (zI v6))], [.int (zI 1), .int (zI v10), .int (zI 1), .ref 144], es9)) i_201_94 (by rfl) ?_
        refine x_iadd i_201_95 ?_
        refine x_iast (p := 80) i_201_96 hs_es9 rfl (by unfold i32 iLO iHI; omega) (by omega) (by omega) ?_
        obtain ⟨es11, e_es11⟩ : ∃ z : PH, z = sA es9 80 (Int.toNat 1) (zI (v10 + 1)) := ⟨_, rfl⟩
        have hs_es11 : sh es11 := by rw [e_es11]; exact sh_sA hs_es9
        rw [← e_es11]
        refine x0 (r := (98, [some (.ref 143), some (.int (zI w)), some (.int (zI v6))], [.int (zI v6)], es11)) i_201_97 rfl ?_
        refine x_ret (v := some (.int (zI v6))) i_201_98 rfl (fun _ => rfl) rfl rfl rfl ?_
        exact K3 es1 e_es1 c2 c4 v6 e_v6 c7 es8 e_es8 es9 e_es9 v10 e_v10 es11 e_es11
      · refine x_cmpF i_201_35 (by unfold i32 iLO iHI; omega) (by unfold i32 iLO iHI; omega) rfl (by simp only [zC, cR]; omega) ?_
        refine x0 (r := (39, [some (.ref 143), some (.int (zI w)), none], [.int (zI 1), .ref 143], es1)) i_201_38 (by rfl) ?_
        refine x0 (r := (43, [some (.ref 143), some (.int (zI w)), none], [.int (zI 1), .ref 143], es1)) i_201_39 rfl ?_
        refine x0 (r := (44, [some (.ref 143), some (.int (zI w)), none], [.int (zI 2), .int (zI 1), .ref 143], es1)) i_201_43 (by rfl) ?_
        refine x_call (vs := [.ref 143, .int (zI 1), .int (zI 2)]) (rs := []) i_201_44 rfl (fun _ => rfl) rfl rfl rfl rfl rfl (pCall_v (p := 79) hs_es1 rfl rfl rfl rfl rfl (by decide) rfl rfl rfl rfl rfl) ?_
        show aW _ _ _ _ _ _ (0, [some (.ref 143), some (.int (zI 1)), some (.int (zI 2))], [], es1)
        refine x0 (r := (1, [some (.ref 143), some (.int (zI 1)), some (.int (zI 2))], [.int (zI 1)], es1)) i_194_0 rfl ?_
        refine x_ifF i_194_1 (by unfold i32 iLO iHI; omega) rfl (by simp only [zC, cR]; omega) ?_
        refine x0 (r := (5, [some (.ref 143), some (.int (zI 1)), some (.int (zI 2))], [.ref 143], es1)) i_194_4 rfl ?_
        refine x0 (r := (6, [some (.ref 143), some (.int (zI 1)), some (.int (zI 2))], [.int (zI 2), .ref 143], es1)) i_194_5 rfl ?_
        refine x_puti (p := 79) (ty := .int) i_194_6 hs_es1 rfl rfl rfl (Or.inl rfl) ?_
        obtain ⟨es12, e_es12⟩ : ∃ z : PH, z = sI es1 79 0 (.int (zI 2)) := ⟨_, rfl⟩
        have hs_es12 : sh es12 := by rw [e_es12]; exact sh_sI hs_es1 (p := 79) (b := 0) rfl rfl
        have hT_es12 : hOK tT es12 := by rw [e_es12]; exact hOK_sI hT_es1 (p := 79) (b := 0) (lo := iLO) (hi := iHI) rfl rfl (i32_rng _)
        rw [← e_es12]
        refine x0 (r := (10, [some (.ref 143), some (.int (zI 1)), some (.int (zI 2))], [.int (zI 1)], es12)) i_194_9 rfl ?_
        refine x_ret (v := some (.int (zI 1))) i_194_10 rfl (fun _ => rfl) rfl rfl (pFin_b (by omega)) ?_
        show aW _ _ _ _ _ _ (47, [some (.ref 143), some (.int (zI w)), none], [.int (zI 1)], es12)
        refine x_ifF i_201_47 (by unfold i32 iLO iHI; omega) rfl (by simp only [zC, cR]; omega) ?_
        refine x0 (r := (51, [some (.ref 143), some (.int (zI w)), none], [.int (zI 0)], es12)) i_201_50 (by rfl) ?_
        refine x_ret (v := some (.int (zI 0))) i_201_51 rfl (fun _ => rfl) rfl rfl rfl ?_
        exact K4 es1 e_es1 c2 c4 v6 e_v6 c7 es12 e_es12
def bookmP (w : Int) (es : PH) (r : Option Value ⊕ Nat) (es1 : PH) : Prop := sh es1 ∧ True ∧ ∃ v : Int, r = .inl (some (.int (zI v))) ∧ i32 v ∧ (((gI es1 79 0).toInt = 1 ∧ (w < 0 ∨ 1 < w) ∧ gA es1 80 = gA es 80) ∨ ((gI es1 79 0).toInt = 2 ∧ ((0 ≤ w ∧ w ≤ 1) ∧ (gA es 80 1).toInt = 3) ∧ gA es1 80 = gA es 80) ∨ ((gI es1 79 0).toInt = 0 ∧ ((0 ≤ w ∧ w ≤ 1) ∧ (gA es 80 1).toInt < 3) ∧ gA es1 80 = upd (upd (upd (gA es 80) (119 + (98 * (gA es 80 1).toInt)).toNat (zI w)) ((119 + (98 * (gA es 80 1).toInt)) + 1).toNat (zI 0)) (Int.toNat 1) (zI ((gA es 80 1).toInt + 1)) ∧ v = (gA es 80 1).toInt))
theorem fn_bookm {O : pOut} {d : Nat} {es : PH} {w : Int} (hw : i32 w) (hT : hOK tT es) : aW O (d + 1) 201 0 0 (fun o => bookmP w es o.1 o.2.1) (0, [some (.ref 143), some (.int (zI w)), none], [], es) := by
  have hs_es := sh_of hT
  have hB : (0 : Int) ≤ (gA es 80 1).toInt ∧ (gA es 80 1).toInt ≤ (3 : Int) := gA_bd hT (p := 80) (k := 1) rfl (by omega) (by decide)
  unfold i32 iLO iHI at hw
  refine s_mbook (d := d) (kc := 0) (ks := 0) hs_es hw hT (fun es1 e_es1 c2 es3 e_es3 => ?_) (fun es1 e_es1 c2 c4 es5 e_es5 => ?_) (fun es1 e_es1 c2 c4 v6 e_v6 c7 es8 e_es8 es9 e_es9 v10 e_v10 es11 e_es11 => ?_) (fun es1 e_es1 c2 c4 v6 e_v6 c7 es12 e_es12 => ?_)
  · have hs_es1 : sh es1 := by rw [e_es1]; exact sh_sI hs_es (p := 79) (b := 0) rfl rfl
    have hs_es3 : sh es3 := by rw [e_es3]; exact sh_sI hs_es1 (p := 79) (b := 0) rfl rfl
    exact ⟨hs_es3, trivial, _, rfl, by unfold i32 iLO iHI; omega, Or.inl ⟨by show (gI es3 79 0).toInt = _; rw [e_es3, gI_sI hs_es1 (p := 79) (b := 0) rfl (by decide)]; rfl, by omega, by show gA es3 80 = _; rw [e_es3, gA_sI, e_es1, gA_sI]⟩⟩
  · have hs_es1 : sh es1 := by rw [e_es1]; exact sh_sI hs_es (p := 79) (b := 0) rfl rfl
    have hs_es5 : sh es5 := by rw [e_es5]; exact sh_sI hs_es1 (p := 79) (b := 0) rfl rfl
    exact ⟨hs_es5, trivial, _, rfl, by unfold i32 iLO iHI; omega, Or.inl ⟨by show (gI es5 79 0).toInt = _; rw [e_es5, gI_sI hs_es1 (p := 79) (b := 0) rfl (by decide)]; rfl, by omega, by show gA es5 80 = _; rw [e_es5, gA_sI, e_es1, gA_sI]⟩⟩
  · have hs_es1 : sh es1 := by rw [e_es1]; exact sh_sI hs_es (p := 79) (b := 0) rfl rfl
    have hs_es8 : sh es8 := by rw [e_es8]; exact sh_sA hs_es1
    have hs_es9 : sh es9 := by rw [e_es9]; exact sh_sA hs_es8
    have hs_es11 : sh es11 := by rw [e_es11]; exact sh_sA hs_es9
    have b_v6 : v6 = (gA es 80 1).toInt := by
      have h := e_v6
      rw [e_es1, gA_sI] at h
      exact h
    have b_v10 : v10 = (gA es 80 1).toInt := by
      have h := e_v10
      rw [e_es9, gA_sA hs_es8 (p := 80) (t := 0) (n := 2125) (sp := tS80) rfl (by decide)] at h
      unfold upd at h
      rw [if_neg (by omega)] at h
      rw [e_es8, gA_sA hs_es1 (p := 80) (t := 0) (n := 2125) (sp := tS80) rfl (by decide)] at h
      unfold upd at h
      rw [if_neg (by omega)] at h
      rw [e_es1, gA_sI] at h
      exact h
    exact ⟨hs_es11, trivial, _, rfl, by rw [e_v6]; exact i32_rng _, Or.inr (Or.inr (⟨by show (gI es11 79 0).toInt = _; rw [e_es11, gI_sA, e_es9, gI_sA, e_es8, gI_sA, e_es1, gI_sI hs_es (p := 79) (b := 0) rfl (by decide)]; rfl, by omega, by show gA es11 80 = _; rw [e_es11, gA_sA hs_es9 (p := 80) (t := 0) (n := 2125) (sp := tS80) rfl (by decide), e_es9, gA_sA hs_es8 (p := 80) (t := 0) (n := 2125) (sp := tS80) rfl (by decide), e_es8, gA_sA hs_es1 (p := 80) (t := 0) (n := 2125) (sp := tS80) rfl (by decide), e_es1, gA_sI]; rw [b_v10, b_v6]; try rfl, by omega⟩))⟩
  · have hs_es1 : sh es1 := by rw [e_es1]; exact sh_sI hs_es (p := 79) (b := 0) rfl rfl
    have hs_es12 : sh es12 := by rw [e_es12]; exact sh_sI hs_es1 (p := 79) (b := 0) rfl rfl
    have b_v6 : v6 = (gA es 80 1).toInt := by
      have h := e_v6
      rw [e_es1, gA_sI] at h
      exact h
    exact ⟨hs_es12, trivial, _, rfl, by unfold i32 iLO iHI; omega, Or.inr (Or.inl ⟨by show (gI es12 79 0).toInt = _; rw [e_es12, gI_sI hs_es1 (p := 79) (b := 0) rfl (by decide)]; rfl, by omega, by show gA es12 80 = _; rw [e_es12, gA_sI, e_es1, gA_sI]⟩)⟩
