/-! PUT of both sides; printed by wip/rel/put.py -/
theorem i_101_0 : iRow 101 0 = some (.iload_n 1, 0, 0, 0, none) := rfl
theorem i_101_1 : iRow 101 1 = some (.invokestatic 119, 133, 102, 0, none) := rfl
theorem i_101_4 : iRow 101 4 = some (.ifCond .eq 11, 0, 0, 0, none) := rfl
theorem i_101_7 : iRow 101 7 = some (.aload_n 0, 0, 0, 0, none) := rfl
theorem i_101_8 : iRow 101 8 = some (.iload_n 2, 0, 0, 0, none) := rfl
theorem i_101_9 : iRow 101 9 = some (.invokevirtual 122, 134, 103, 1, none) := rfl
theorem i_101_12 : iRow 101 12 = some (.ifCond .ne 13, 0, 0, 0, none) := rfl
theorem i_101_15 : iRow 101 15 = some (.new 125, 18, 2, 1, none) := rfl
theorem i_101_25 : iRow 101 25 = some (.iload_n 2, 0, 0, 0, none) := rfl
theorem i_101_26 : iRow 101 26 = some (.iconst (-1), 0, 0, 0, none) := rfl
theorem i_101_27 : iRow 101 27 = some (.if_icmp .eq 20, 0, 0, 0, none) := rfl
theorem i_101_30 : iRow 101 30 = some (.iload_n 3, 0, 0, 0, none) := rfl
theorem i_101_31 : iRow 101 31 = some (.invokestatic 130, 138, 105, 0, none) := rfl
theorem i_101_34 : iRow 101 34 = some (.ifCond .ne 13, 0, 0, 0, none) := rfl
theorem i_101_37 : iRow 101 37 = some (.new 85, 15, 0, 1, none) := rfl
theorem i_101_47 : iRow 101 47 = some (.aload_n 0, 0, 0, 0, none) := rfl
theorem i_101_48 : iRow 101 48 = some (.getfield 28, 139, 11, 2, none) := rfl
theorem i_101_51 : iRow 101 51 = some (.getfield 135, 28, 1, 4, none) := rfl
theorem i_101_54 : iRow 101 54 = some (.iload_n 1, 0, 0, 0, none) := rfl
theorem i_101_55 : iRow 101 55 = some (.iload_n 2, 0, 0, 0, none) := rfl
theorem i_101_56 : iRow 101 56 = some (.iload_n 3, 0, 0, 0, none) := rfl
theorem i_101_57 : iRow 101 57 = some (.invokestatic 139, 139, 106, 0, none) := rfl
theorem i_101_60 : iRow 101 60 = some (.invokestatic 143, 140, 14, 0, none) := rfl
theorem i_101_63 : iRow 101 63 = some (.aload_n 0, 0, 0, 0, none) := rfl
theorem i_101_64 : iRow 101 64 = some (.invokevirtual 104, 78, 73, 1, none) := rfl
theorem i_101_67 : iRow 101 67 = some (.return_, 0, 0, 0, none) := rfl
theorem i_102_0 : iRow 102 0 = some (.iload_n 0, 0, 0, 0, (some (Jvm.ClassFile.FieldType.boolean))) := rfl
theorem i_102_1 : iRow 102 1 = some (.ifCond .lt 13, 0, 0, 0, (some (Jvm.ClassFile.FieldType.boolean))) := rfl
theorem i_102_4 : iRow 102 4 = some (.iload_n 0, 0, 0, 0, (some (Jvm.ClassFile.FieldType.boolean))) := rfl
theorem i_102_5 : iRow 102 5 = some (.bipush 36, 0, 0, 0, (some (Jvm.ClassFile.FieldType.boolean))) := rfl
theorem i_102_7 : iRow 102 7 = some (.if_icmp .ge 7, 0, 0, 0, (some (Jvm.ClassFile.FieldType.boolean))) := rfl
theorem i_102_10 : iRow 102 10 = some (.iconst 1, 0, 0, 0, (some (Jvm.ClassFile.FieldType.boolean))) := rfl
theorem i_102_11 : iRow 102 11 = some (.goto 4, 0, 0, 0, (some (Jvm.ClassFile.FieldType.boolean))) := rfl
theorem i_102_14 : iRow 102 14 = some (.iconst 0, 0, 0, 0, (some (Jvm.ClassFile.FieldType.boolean))) := rfl
theorem i_102_15 : iRow 102 15 = some (.ireturn, 0, 0, 0, (some (Jvm.ClassFile.FieldType.boolean))) := rfl
theorem i_103_0 : iRow 103 0 = some (.iload_n 1, 0, 0, 0, (some (Jvm.ClassFile.FieldType.boolean))) := rfl
theorem i_103_1 : iRow 103 1 = some (.iconst (-1), 0, 0, 0, (some (Jvm.ClassFile.FieldType.boolean))) := rfl
theorem i_103_2 : iRow 103 2 = some (.if_icmp .eq 11, 0, 0, 0, (some (Jvm.ClassFile.FieldType.boolean))) := rfl
theorem i_103_5 : iRow 103 5 = some (.aload_n 0, 0, 0, 0, (some (Jvm.ClassFile.FieldType.boolean))) := rfl
theorem i_103_6 : iRow 103 6 = some (.iload_n 1, 0, 0, 0, (some (Jvm.ClassFile.FieldType.boolean))) := rfl
theorem i_103_7 : iRow 103 7 = some (.invokevirtual 175, 135, 104, 1, (some (Jvm.ClassFile.FieldType.boolean))) := rfl
theorem i_103_10 : iRow 103 10 = some (.ifCond .eq 7, 0, 0, 0, (some (Jvm.ClassFile.FieldType.boolean))) := rfl
theorem i_103_13 : iRow 103 13 = some (.iconst 1, 0, 0, 0, (some (Jvm.ClassFile.FieldType.boolean))) := rfl
theorem i_103_14 : iRow 103 14 = some (.goto 4, 0, 0, 0, (some (Jvm.ClassFile.FieldType.boolean))) := rfl
theorem i_103_17 : iRow 103 17 = some (.iconst 0, 0, 0, 0, (some (Jvm.ClassFile.FieldType.boolean))) := rfl
theorem i_103_18 : iRow 103 18 = some (.ireturn, 0, 0, 0, (some (Jvm.ClassFile.FieldType.boolean))) := rfl
theorem i_104_0 : iRow 104 0 = some (.iload_n 1, 0, 0, 0, (some (Jvm.ClassFile.FieldType.boolean))) := rfl
theorem i_104_1 : iRow 104 1 = some (.ifCond .lt 18, 0, 0, 0, (some (Jvm.ClassFile.FieldType.boolean))) := rfl
theorem i_104_4 : iRow 104 4 = some (.iload_n 1, 0, 0, 0, (some (Jvm.ClassFile.FieldType.boolean))) := rfl
theorem i_104_5 : iRow 104 5 = some (.aload_n 0, 0, 0, 0, (some (Jvm.ClassFile.FieldType.boolean))) := rfl
theorem i_104_6 : iRow 104 6 = some (.getfield 28, 139, 11, 2, (some (Jvm.ClassFile.FieldType.boolean))) := rfl
theorem i_104_9 : iRow 104 9 = some (.getfield 92, 20, 1, 0, (some (Jvm.ClassFile.FieldType.boolean))) := rfl
theorem i_104_12 : iRow 104 12 = some (.if_icmp .ge 7, 0, 0, 0, (some (Jvm.ClassFile.FieldType.boolean))) := rfl
theorem i_104_15 : iRow 104 15 = some (.iconst 1, 0, 0, 0, (some (Jvm.ClassFile.FieldType.boolean))) := rfl
theorem i_104_16 : iRow 104 16 = some (.goto 4, 0, 0, 0, (some (Jvm.ClassFile.FieldType.boolean))) := rfl
theorem i_104_19 : iRow 104 19 = some (.iconst 0, 0, 0, 0, (some (Jvm.ClassFile.FieldType.boolean))) := rfl
theorem i_104_20 : iRow 104 20 = some (.ireturn, 0, 0, 0, (some (Jvm.ClassFile.FieldType.boolean))) := rfl
theorem i_105_0 : iRow 105 0 = some (.iload_n 0, 0, 0, 0, (some (Jvm.ClassFile.FieldType.boolean))) := rfl
theorem i_105_1 : iRow 105 1 = some (.ifCond .eq 8, 0, 0, 0, (some (Jvm.ClassFile.FieldType.boolean))) := rfl
theorem i_105_4 : iRow 105 4 = some (.iload_n 0, 0, 0, 0, (some (Jvm.ClassFile.FieldType.boolean))) := rfl
theorem i_105_5 : iRow 105 5 = some (.iconst 1, 0, 0, 0, (some (Jvm.ClassFile.FieldType.boolean))) := rfl
theorem i_105_6 : iRow 105 6 = some (.if_icmp .ne 7, 0, 0, 0, (some (Jvm.ClassFile.FieldType.boolean))) := rfl
theorem i_105_9 : iRow 105 9 = some (.iconst 1, 0, 0, 0, (some (Jvm.ClassFile.FieldType.boolean))) := rfl
theorem i_105_10 : iRow 105 10 = some (.goto 4, 0, 0, 0, (some (Jvm.ClassFile.FieldType.boolean))) := rfl
theorem i_105_13 : iRow 105 13 = some (.iconst 0, 0, 0, 0, (some (Jvm.ClassFile.FieldType.boolean))) := rfl
theorem i_105_14 : iRow 105 14 = some (.ireturn, 0, 0, 0, (some (Jvm.ClassFile.FieldType.boolean))) := rfl
theorem i_106_0 : iRow 106 0 = some (.iload_n 0, 0, 0, 0, (some (Jvm.ClassFile.FieldType.int))) := rfl
theorem i_106_1 : iRow 106 1 = some (.iconst (-1), 0, 0, 0, (some (Jvm.ClassFile.FieldType.int))) := rfl
theorem i_106_2 : iRow 106 2 = some (.if_icmp .ne 7, 0, 0, 0, (some (Jvm.ClassFile.FieldType.int))) := rfl
theorem i_106_5 : iRow 106 5 = some (.iconst 0, 0, 0, 0, (some (Jvm.ClassFile.FieldType.int))) := rfl
theorem i_106_6 : iRow 106 6 = some (.goto 10, 0, 0, 0, (some (Jvm.ClassFile.FieldType.int))) := rfl
theorem i_106_9 : iRow 106 9 = some (.iconst 1, 0, 0, 0, (some (Jvm.ClassFile.FieldType.int))) := rfl
theorem i_106_10 : iRow 106 10 = some (.iconst 2, 0, 0, 0, (some (Jvm.ClassFile.FieldType.int))) := rfl
theorem i_106_11 : iRow 106 11 = some (.iload_n 0, 0, 0, 0, (some (Jvm.ClassFile.FieldType.int))) := rfl
theorem i_106_12 : iRow 106 12 = some (.imul, 0, 0, 0, (some (Jvm.ClassFile.FieldType.int))) := rfl
theorem i_106_13 : iRow 106 13 = some (.iadd, 0, 0, 0, (some (Jvm.ClassFile.FieldType.int))) := rfl
theorem i_106_14 : iRow 106 14 = some (.iload_n 1, 0, 0, 0, (some (Jvm.ClassFile.FieldType.int))) := rfl
theorem i_106_15 : iRow 106 15 = some (.iadd, 0, 0, 0, (some (Jvm.ClassFile.FieldType.int))) := rfl
theorem i_106_16 : iRow 106 16 = some (.ireturn, 0, 0, 0, (some (Jvm.ClassFile.FieldType.int))) := rfl
theorem i_279_0 : iRow 279 0 = some (.aload_n 0, 0, 0, 0, (some (Jvm.ClassFile.FieldType.int))) := rfl
theorem i_279_1 : iRow 279 1 = some (.iload_n 1, 0, 0, 0, (some (Jvm.ClassFile.FieldType.int))) := rfl
theorem i_279_2 : iRow 279 2 = some (.iload_n 2, 0, 0, 0, (some (Jvm.ClassFile.FieldType.int))) := rfl
theorem i_279_3 : iRow 279 3 = some (.iload_n 3, 0, 0, 0, (some (Jvm.ClassFile.FieldType.int))) := rfl
theorem i_279_4 : iRow 279 4 = some (.invokevirtual 21, 132, 101, 1, (some (Jvm.ClassFile.FieldType.int))) := rfl
theorem i_279_7 : iRow 279 7 = some (.goto 11, 0, 0, 0, (some (Jvm.ClassFile.FieldType.int))) := rfl
theorem i_279_12 : iRow 279 12 = some (.iconst 1, 0, 0, 0, (some (Jvm.ClassFile.FieldType.int))) := rfl
theorem i_279_13 : iRow 279 13 = some (.ireturn, 0, 0, 0, (some (Jvm.ClassFile.FieldType.int))) := rfl
theorem i_279_16 : iRow 279 16 = some (.iconst 2, 0, 0, 0, (some (Jvm.ClassFile.FieldType.int))) := rfl
theorem i_279_17 : iRow 279 17 = some (.ireturn, 0, 0, 0, (some (Jvm.ClassFile.FieldType.int))) := rfl
theorem i_279_18 : iRow 279 18 = some (.iconst 0, 0, 0, 0, (some (Jvm.ClassFile.FieldType.int))) := rfl
theorem i_279_19 : iRow 279 19 = some (.ireturn, 0, 0, 0, (some (Jvm.ClassFile.FieldType.int))) := rfl
theorem s_xput {O : pOut} {d kc ks : Nat} {Q : pRes → Prop} {es : PH} {sq kd sd : Int} (hs_es : sh es) (h_sq : -2147483648 ≤ sq ∧ sq ≤ 2147483647) (h_kd : -2147483648 ≤ kd ∧ kd ≤ 2147483647) (h_sd : -2147483648 ≤ sd ∧ sd ≤ 2147483647) (hT_es : hOK tT es)
    (K1 : sq < 0 → Q (.inr 2, es, kc + 1, ks + 6))
    (K2 : ¬ (sq < 0) → 36 ≤ sq → Q (.inr 2, es, kc + 1, ks + 6))
    (K3 : ¬ (sq < 0) → ¬ (36 ≤ sq) → kd = (-1) → ∀ es4 : PH, es4 = sA es 11 sq.toNat (zI 0) → ∀ es5 : PH, es5 = sI es4 0 10 (.int (zI 0)) → ∀ es6 : PH, es6 = sI es5 73 3 (.int (zI 0)) → Q (.inl (none), es6, kc, ks))
    (K4 : ¬ (sq < 0) → ¬ (36 ≤ sq) → ¬ (kd = (-1)) → kd < 0 → Q (.inr 2, es, kc + 1, ks + 6))
    (K5 : ¬ (sq < 0) → ¬ (36 ≤ sq) → ¬ (kd = (-1)) → ¬ (kd < 0) → ∀ v8 : Int, v8 = (gI es 7 0).toInt → v8 ≤ kd → Q (.inr 2, es, kc + 1, ks + 6))
    (K6 : ¬ (sq < 0) → ¬ (36 ≤ sq) → ¬ (kd = (-1)) → ¬ (kd < 0) → ∀ v8 : Int, v8 = (gI es 7 0).toInt → ¬ (v8 ≤ kd) → sd = 0 → ∀ es11 : PH, es11 = sA es 11 sq.toNat (zI ((1 + (2 * kd)) + sd)) → ∀ es12 : PH, es12 = sI es11 0 10 (.int (zI 0)) → ∀ es13 : PH, es13 = sI es12 73 3 (.int (zI 0)) → Q (.inl (none), es13, kc, ks))
    (K7 : ¬ (sq < 0) → ¬ (36 ≤ sq) → ¬ (kd = (-1)) → ¬ (kd < 0) → ∀ v8 : Int, v8 = (gI es 7 0).toInt → ¬ (v8 ≤ kd) → ¬ (sd = 0) → sd ≠ 1 → Q (.inr 0, es, kc + 1, ks + 6))
    (K8 : ¬ (sq < 0) → ¬ (36 ≤ sq) → ¬ (kd = (-1)) → ¬ (kd < 0) → ∀ v8 : Int, v8 = (gI es 7 0).toInt → ¬ (v8 ≤ kd) → ¬ (sd = 0) → ¬ (sd ≠ 1) → ∀ es15 : PH, es15 = sA es 11 sq.toNat (zI ((1 + (2 * kd)) + sd)) → ∀ es16 : PH, es16 = sI es15 0 10 (.int (zI 0)) → ∀ es17 : PH, es17 = sI es16 73 3 (.int (zI 0)) → Q (.inl (none), es17, kc, ks)) :
    aW O (d + 2) 101 kc ks Q (0, [some (.ref 64), some (.int (zI sq)), some (.int (zI kd)), some (.int (zI sd))], [], es) := by
  refine x0 (r := (1, [some (.ref 64), some (.int (zI sq)), some (.int (zI kd)), some (.int (zI sd))], [.int (zI sq)], es)) i_101_0 rfl ?_
  refine x_call (vs := [.int (zI sq)]) (rs := []) i_101_1 rfl (fun _ => rfl) rfl rfl rfl rfl rfl rfl ?_
  show aW _ _ _ _ _ _ (0, [some (.int (zI sq))], [], es)
  refine x0 (r := (1, [some (.int (zI sq))], [.int (zI sq)], es)) i_102_0 rfl ?_
  by_cases c1 : sq < 0
  · refine x_ifT i_102_1 (by unfold i32 iLO iHI; omega) rfl (by simp only [zC, cR]; omega) ?_
    refine x0 (r := (15, [some (.int (zI sq))], [.int (zI 0)], es)) i_102_14 (by rfl) ?_
    refine x_ret (v := some (.int (zI 0))) i_102_15 rfl (fun _ => rfl) rfl rfl (pFin_b (by omega)) ?_
    show aW _ _ _ _ _ _ (4, [some (.ref 64), some (.int (zI sq)), some (.int (zI kd)), some (.int (zI sd))], [.int (zI 0)], es)
    refine x_ifT i_101_4 (by unfold i32 iLO iHI; omega) rfl (by simp only [zC, cR]; omega) ?_
    refine x_thr i_101_15 rfl (fun _ => rfl) rfl rfl rfl rfl ?_
    exact K1 c1
  · refine x_ifF i_102_1 (by unfold i32 iLO iHI; omega) rfl (by simp only [zC, cR]; omega) ?_
    refine x0 (r := (5, [some (.int (zI sq))], [.int (zI sq)], es)) i_102_4 rfl ?_
    refine x0 (r := (7, [some (.int (zI sq))], [.int (zI 36), .int (zI sq)], es)) i_102_5 (by rfl) ?_
    by_cases c2 : 36 ≤ sq
    · refine x_cmpT i_102_7 (by unfold i32 iLO iHI; omega) (by unfold i32 iLO iHI; omega) rfl (by simp only [zC, cR]; omega) ?_
      refine x0 (r := (15, [some (.int (zI sq))], [.int (zI 0)], es)) i_102_14 (by rfl) ?_
      refine x_ret (v := some (.int (zI 0))) i_102_15 rfl (fun _ => rfl) rfl rfl (pFin_b (by omega)) ?_
      show aW _ _ _ _ _ _ (4, [some (.ref 64), some (.int (zI sq)), some (.int (zI kd)), some (.int (zI sd))], [.int (zI 0)], es)
      refine x_ifT i_101_4 (by unfold i32 iLO iHI; omega) rfl (by simp only [zC, cR]; omega) ?_
      refine x_thr i_101_15 rfl (fun _ => rfl) rfl rfl rfl rfl ?_
      exact K2 c1 c2
    · refine x_cmpF i_102_7 (by unfold i32 iLO iHI; omega) (by unfold i32 iLO iHI; omega) rfl (by simp only [zC, cR]; omega) ?_
      refine x0 (r := (11, [some (.int (zI sq))], [.int (zI 1)], es)) i_102_10 (by rfl) ?_
      refine x0 (r := (15, [some (.int (zI sq))], [.int (zI 1)], es)) i_102_11 rfl ?_
      refine x_ret (v := some (.int (zI 1))) i_102_15 rfl (fun _ => rfl) rfl rfl (pFin_b (by omega)) ?_
      show aW _ _ _ _ _ _ (4, [some (.ref 64), some (.int (zI sq)), some (.int (zI kd)), some (.int (zI sd))], [.int (zI 1)], es)
      refine x_ifF i_101_4 (by unfold i32 iLO iHI; omega) rfl (by simp only [zC, cR]; omega) ?_
      refine x0 (r := (8, [some (.ref 64), some (.int (zI sq)), some (.int (zI kd)), some (.int (zI sd))], [.ref 64], es)) i_101_7 rfl ?_
      refine x0 (r := (9, [some (.ref 64), some (.int (zI sq)), some (.int (zI kd)), some (.int (zI sd))], [.int (zI kd), .ref 64], es)) i_101_8 rfl ?_
      refine x_call (vs := [.ref 64, .int (zI kd)]) (rs := []) i_101_9 rfl (fun _ => rfl) rfl rfl rfl rfl rfl (pCall_v (p := 0) hs_es rfl rfl rfl rfl rfl (by decide) rfl rfl rfl rfl rfl) ?_
      show aW _ _ _ _ _ _ (0, [some (.ref 64), some (.int (zI kd))], [], es)
      refine x0 (r := (1, [some (.ref 64), some (.int (zI kd))], [.int (zI kd)], es)) i_103_0 rfl ?_
      refine x0 (r := (2, [some (.ref 64), some (.int (zI kd))], [.int (zI (-1)), .int (zI kd)], es)) i_103_1 (by rfl) ?_
      by_cases c3 : kd = (-1)
      · refine x_cmpT i_103_2 (by unfold i32 iLO iHI; omega) (by unfold i32 iLO iHI; omega) rfl (by simp only [zC, cR]; omega) ?_
        refine x0 (r := (14, [some (.ref 64), some (.int (zI kd))], [.int (zI 1)], es)) i_103_13 (by rfl) ?_
        refine x0 (r := (18, [some (.ref 64), some (.int (zI kd))], [.int (zI 1)], es)) i_103_14 rfl ?_
        refine x_ret (v := some (.int (zI 1))) i_103_18 rfl (fun _ => rfl) rfl rfl (pFin_b (by omega)) ?_
        show aW _ _ _ _ _ _ (12, [some (.ref 64), some (.int (zI sq)), some (.int (zI kd)), some (.int (zI sd))], [.int (zI 1)], es)
        refine x_ifT i_101_12 (by unfold i32 iLO iHI; omega) rfl (by simp only [zC, cR]; omega) ?_
        refine x0 (r := (26, [some (.ref 64), some (.int (zI sq)), some (.int (zI kd)), some (.int (zI sd))], [.int (zI kd)], es)) i_101_25 rfl ?_
        refine x0 (r := (27, [some (.ref 64), some (.int (zI sq)), some (.int (zI kd)), some (.int (zI sd))], [.int (zI (-1)), .int (zI kd)], es)) i_101_26 (by rfl) ?_
        refine x_cmpT i_101_27 (by unfold i32 iLO iHI; omega) (by unfold i32 iLO iHI; omega) rfl (by simp only [zC, cR]; omega) ?_
        refine x0 (r := (48, [some (.ref 64), some (.int (zI sq)), some (.int (zI kd)), some (.int (zI sd))], [.ref 64], es)) i_101_47 rfl ?_
        refine x_getr (p := 0) (k := 71) i_101_48 hs_es rfl rfl ?_
        show aW _ _ _ _ _ _ (51, [some (.ref 64), some (.int (zI sq)), some (.int (zI kd)), some (.int (zI sd))], [.ref 71], es)
        refine x_getr (p := 7) (k := 75) i_101_51 hs_es rfl rfl ?_
        show aW _ _ _ _ _ _ (54, [some (.ref 64), some (.int (zI sq)), some (.int (zI kd)), some (.int (zI sd))], [.ref 75], es)
        refine x0 (r := (55, [some (.ref 64), some (.int (zI sq)), some (.int (zI kd)), some (.int (zI sd))], [.int (zI sq), .ref 75], es)) i_101_54 rfl ?_
        refine x0 (r := (56, [some (.ref 64), some (.int (zI sq)), some (.int (zI kd)), some (.int (zI sd))], [.int (zI kd), .int (zI sq), .ref 75], es)) i_101_55 rfl ?_
        refine x0 (r := (57, [some (.ref 64), some (.int (zI sq)), some (.int (zI kd)), some (.int (zI sd))], [.int (zI sd), .int (zI kd), .int (zI sq), .ref 75], es)) i_101_56 rfl ?_
        refine x_call (vs := [.int (zI kd), .int (zI sd)]) (rs := [.int (zI sq), .ref 75]) i_101_57 rfl (fun _ => rfl) rfl rfl rfl rfl rfl rfl ?_
        show aW _ _ _ _ _ _ (0, [some (.int (zI kd)), some (.int (zI sd))], [], es)
        refine x0 (r := (1, [some (.int (zI kd)), some (.int (zI sd))], [.int (zI kd)], es)) i_106_0 rfl ?_
        refine x0 (r := (2, [some (.int (zI kd)), some (.int (zI sd))], [.int (zI (-1)), .int (zI kd)], es)) i_106_1 (by rfl) ?_
        refine x_cmpF i_106_2 (by unfold i32 iLO iHI; omega) (by unfold i32 iLO iHI; omega) rfl (by simp only [zC, cR]; omega) ?_
        refine x0 (r := (6, [some (.int (zI kd)), some (.int (zI sd))], [.int (zI 0)], es)) i_106_5 (by rfl) ?_
        refine x0 (r := (16, [some (.int (zI kd)), some (.int (zI sd))], [.int (zI 0)], es)) i_106_6 rfl ?_
        refine x_ret (v := some (.int (zI 0))) i_106_16 rfl (fun _ => rfl) rfl rfl rfl ?_
        show aW _ _ _ _ _ _ (60, [some (.ref 64), some (.int (zI sq)), some (.int (zI kd)), some (.int (zI sd))], [.int (zI 0), .int (zI sq), .ref 75], es)
        refine x_call (vs := [.ref 75, .int (zI sq), .int (zI 0)]) (rs := []) i_101_60 rfl (fun _ => rfl) rfl rfl rfl rfl rfl rfl ?_
        show aW _ _ _ _ _ _ (0, [some (.ref 75), some (.int (zI sq)), some (.int (zI 0))], [], es)
        refine x0 (r := (1, [some (.ref 75), some (.int (zI sq)), some (.int (zI 0))], [.int (zI sq)], es)) i_14_0 rfl ?_
        refine x_ifF i_14_1 (by unfold i32 iLO iHI; omega) rfl (by simp only [zC, cR]; omega) ?_
        refine x0 (r := (5, [some (.ref 75), some (.int (zI sq)), some (.int (zI 0))], [.int (zI sq)], es)) i_14_4 rfl ?_
        refine x0 (r := (6, [some (.ref 75), some (.int (zI sq)), some (.int (zI 0))], [.ref 75, .int (zI sq)], es)) i_14_5 rfl ?_
        refine x_alen (p := 11) (n := 36) i_14_6 hs_es rfl ?_
        refine x_cmpF i_14_7 (by unfold i32 iLO iHI; omega) (by unfold i32 iLO iHI; omega) rfl (by simp only [zC, cR]; omega) ?_
        refine x0 (r := (11, [some (.ref 75), some (.int (zI sq)), some (.int (zI 0))], [.ref 75], es)) i_14_10 rfl ?_
        refine x0 (r := (12, [some (.ref 75), some (.int (zI sq)), some (.int (zI 0))], [.int (zI sq), .ref 75], es)) i_14_11 rfl ?_
        refine x0 (r := (13, [some (.ref 75), some (.int (zI sq)), some (.int (zI 0))], [.int (zI 0), .int (zI sq), .ref 75], es)) i_14_12 rfl ?_
        refine x_iast (p := 11) i_14_13 hs_es rfl (by unfold i32 iLO iHI; omega) (by omega) (by omega) ?_
        obtain ⟨es4, e_es4⟩ : ∃ z : PH, z = sA es 11 sq.toNat (zI 0) := ⟨_, rfl⟩
        have hs_es4 : sh es4 := by rw [e_es4]; exact sh_sA hs_es
        have hT_es4 : hOK tT es4 := by rw [e_es4]; exact hOK_sA hT_es (p := 11) (n := 36) rfl (fun _ => i32_rng _)
        rw [← e_es4]
        refine x_ret (v := none) i_14_14 rfl (fun _ => rfl) rfl rfl rfl ?_
        show aW _ _ _ _ _ _ (63, [some (.ref 64), some (.int (zI sq)), some (.int (zI kd)), some (.int (zI sd))], [], es4)
        refine x0 (r := (64, [some (.ref 64), some (.int (zI sq)), some (.int (zI kd)), some (.int (zI sd))], [.ref 64], es4)) i_101_63 rfl ?_
        refine x_call (vs := [.ref 64]) (rs := []) i_101_64 rfl (fun _ => rfl) rfl rfl rfl rfl rfl (pCall_v (p := 0) hs_es4 rfl rfl rfl rfl rfl (by decide) rfl rfl rfl rfl rfl) ?_
        show aW _ _ _ _ _ _ (0, [some (.ref 64)], [], es4)
        refine x0 (r := (1, [some (.ref 64)], [.ref 64], es4)) i_73_0 rfl ?_
        refine x0 (r := (2, [some (.ref 64)], [.int (zI 0), .ref 64], es4)) i_73_1 (by rfl) ?_
        refine x_puti (p := 0) (ty := .boolean) i_73_2 hs_es4 rfl rfl rfl (Or.inr ⟨rfl, by omega⟩) ?_
        obtain ⟨es5, e_es5⟩ : ∃ z : PH, z = sI es4 0 10 (.int (zI 0)) := ⟨_, rfl⟩
        have hs_es5 : sh es5 := by rw [e_es5]; exact sh_sI hs_es4 (p := 0) (b := 10) rfl rfl
        have hT_es5 : hOK tT es5 := by rw [e_es5]; exact hOK_sI hT_es4 (p := 0) (b := 10) rfl rfl (by rw [zI_toInt (by unfold i32 iLO iHI; omega)]; exact ⟨by show (0 : Int) ≤ 0; omega, by show 0 ≤ (1 : Int); omega⟩)
        rw [← e_es5]
        refine x0 (r := (6, [some (.ref 64)], [.ref 64], es5)) i_73_5 rfl ?_
        refine x_getr (p := 0) (k := 137) i_73_6 hs_es5 rfl rfl ?_
        show aW _ _ _ _ _ _ (9, [some (.ref 64)], [.ref 137], es5)
        refine x0 (r := (10, [some (.ref 64)], [.int (zI 0), .ref 137], es5)) i_73_9 (by rfl) ?_
        refine x_puti (p := 73) (ty := .boolean) i_73_10 hs_es5 rfl rfl rfl (Or.inr ⟨rfl, by omega⟩) ?_
        obtain ⟨es6, e_es6⟩ : ∃ z : PH, z = sI es5 73 3 (.int (zI 0)) := ⟨_, rfl⟩
        have hs_es6 : sh es6 := by rw [e_es6]; exact sh_sI hs_es5 (p := 73) (b := 3) rfl rfl
        have hT_es6 : hOK tT es6 := by rw [e_es6]; exact hOK_sI hT_es5 (p := 73) (b := 3) rfl rfl (by rw [zI_toInt (by unfold i32 iLO iHI; omega)]; exact ⟨by show (0 : Int) ≤ 0; omega, by show 0 ≤ (1 : Int); omega⟩)
        rw [← e_es6]
        refine x_ret (v := none) i_73_13 rfl (fun _ => rfl) rfl rfl rfl ?_
        show aW _ _ _ _ _ _ (67, [some (.ref 64), some (.int (zI sq)), some (.int (zI kd)), some (.int (zI sd))], [], es6)
        refine x_ret (v := none) i_101_67 rfl (fun _ => rfl) rfl rfl rfl ?_
        exact K3 c1 c2 c3 es4 e_es4 es5 e_es5 es6 e_es6
      · refine x_cmpF i_103_2 (by unfold i32 iLO iHI; omega) (by unfold i32 iLO iHI; omega) rfl (by simp only [zC, cR]; omega) ?_
        refine x0 (r := (6, [some (.ref 64), some (.int (zI kd))], [.ref 64], es)) i_103_5 rfl ?_
        refine x0 (r := (7, [some (.ref 64), some (.int (zI kd))], [.int (zI kd), .ref 64], es)) i_103_6 rfl ?_
        refine x_call (vs := [.ref 64, .int (zI kd)]) (rs := []) i_103_7 rfl (fun _ => rfl) rfl rfl rfl rfl rfl (pCall_v (p := 0) hs_es rfl rfl rfl rfl rfl (by decide) rfl rfl rfl rfl rfl) ?_
        show aW _ _ _ _ _ _ (0, [some (.ref 64), some (.int (zI kd))], [], es)
        refine x0 (r := (1, [some (.ref 64), some (.int (zI kd))], [.int (zI kd)], es)) i_104_0 rfl ?_
        by_cases c7 : kd < 0
        · refine x_ifT i_104_1 (by unfold i32 iLO iHI; omega) rfl (by simp only [zC, cR]; omega) ?_
          refine x0 (r := (20, [some (.ref 64), some (.int (zI kd))], [.int (zI 0)], es)) i_104_19 (by rfl) ?_
          refine x_ret (v := some (.int (zI 0))) i_104_20 rfl (fun _ => rfl) rfl rfl (pFin_b (by omega)) ?_
          show aW _ _ _ _ _ _ (10, [some (.ref 64), some (.int (zI kd))], [.int (zI 0)], es)
          refine x_ifT i_103_10 (by unfold i32 iLO iHI; omega) rfl (by simp only [zC, cR]; omega) ?_
          refine x0 (r := (18, [some (.ref 64), some (.int (zI kd))], [.int (zI 0)], es)) i_103_17 (by rfl) ?_
          refine x_ret (v := some (.int (zI 0))) i_103_18 rfl (fun _ => rfl) rfl rfl (pFin_b (by omega)) ?_
          show aW _ _ _ _ _ _ (12, [some (.ref 64), some (.int (zI sq)), some (.int (zI kd)), some (.int (zI sd))], [.int (zI 0)], es)
          refine x_ifF i_101_12 (by unfold i32 iLO iHI; omega) rfl (by simp only [zC, cR]; omega) ?_
          refine x_thr i_101_15 rfl (fun _ => rfl) rfl rfl rfl rfl ?_
          exact K4 c1 c2 c3 c7
        · refine x_ifF i_104_1 (by unfold i32 iLO iHI; omega) rfl (by simp only [zC, cR]; omega) ?_
          refine x0 (r := (5, [some (.ref 64), some (.int (zI kd))], [.int (zI kd)], es)) i_104_4 rfl ?_
          refine x0 (r := (6, [some (.ref 64), some (.int (zI kd))], [.ref 64, .int (zI kd)], es)) i_104_5 rfl ?_
          refine x_getr (p := 0) (k := 71) i_104_6 hs_es rfl rfl ?_
          show aW _ _ _ _ _ _ (9, [some (.ref 64), some (.int (zI kd))], [.ref 71, .int (zI kd)], es)
          refine x_geti (p := 7) i_104_9 hs_es rfl rfl ?_
          obtain ⟨v8, e_v8⟩ : ∃ z : Int, z = (gI es 7 0).toInt := ⟨_, rfl⟩
          rw [← e_v8]
          have r_v8 : iLO ≤ v8 ∧ v8 ≤ iHI := by rw [e_v8]; exact i32_rng _
          unfold iLO iHI at r_v8
          by_cases c9 : v8 ≤ kd
          · refine x_cmpT i_104_12 (by unfold i32 iLO iHI; omega) (by unfold i32 iLO iHI; omega) rfl (by simp only [zC, cR]; omega) ?_
            refine x0 (r := (20, [some (.ref 64), some (.int (zI kd))], [.int (zI 0)], es)) i_104_19 (by rfl) ?_
            refine x_ret (v := some (.int (zI 0))) i_104_20 rfl (fun _ => rfl) rfl rfl (pFin_b (by omega)) ?_
            show aW _ _ _ _ _ _ (10, [some (.ref 64), some (.int (zI kd))], [.int (zI 0)], es)
            refine x_ifT i_103_10 (by unfold i32 iLO iHI; omega) rfl (by simp only [zC, cR]; omega) ?_
            refine x0 (r := (18, [some (.ref 64), some (.int (zI kd))], [.int (zI 0)], es)) i_103_17 (by rfl) ?_
            refine x_ret (v := some (.int (zI 0))) i_103_18 rfl (fun _ => rfl) rfl rfl (pFin_b (by omega)) ?_
            show aW _ _ _ _ _ _ (12, [some (.ref 64), some (.int (zI sq)), some (.int (zI kd)), some (.int (zI sd))], [.int (zI 0)], es)
            refine x_ifF i_101_12 (by unfold i32 iLO iHI; omega) rfl (by simp only [zC, cR]; omega) ?_
            refine x_thr i_101_15 rfl (fun _ => rfl) rfl rfl rfl rfl ?_
            exact K5 c1 c2 c3 c7 v8 e_v8 c9
          · refine x_cmpF i_104_12 (by unfold i32 iLO iHI; omega) (by unfold i32 iLO iHI; omega) rfl (by simp only [zC, cR]; omega) ?_
            refine x0 (r := (16, [some (.ref 64), some (.int (zI kd))], [.int (zI 1)], es)) i_104_15 (by rfl) ?_
            refine x0 (r := (20, [some (.ref 64), some (.int (zI kd))], [.int (zI 1)], es)) i_104_16 rfl ?_
            refine x_ret (v := some (.int (zI 1))) i_104_20 rfl (fun _ => rfl) rfl rfl (pFin_b (by omega)) ?_
            show aW _ _ _ _ _ _ (10, [some (.ref 64), some (.int (zI kd))], [.int (zI 1)], es)
            refine x_ifF i_103_10 (by unfold i32 iLO iHI; omega) rfl (by simp only [zC, cR]; omega) ?_
            refine x0 (r := (14, [some (.ref 64), some (.int (zI kd))], [.int (zI 1)], es)) i_103_13 (by rfl) ?_
            refine x0 (r := (18, [some (.ref 64), some (.int (zI kd))], [.int (zI 1)], es)) i_103_14 rfl ?_
            refine x_ret (v := some (.int (zI 1))) i_103_18 rfl (fun _ => rfl) rfl rfl (pFin_b (by omega)) ?_
            show aW _ _ _ _ _ _ (12, [some (.ref 64), some (.int (zI sq)), some (.int (zI kd)), some (.int (zI sd))], [.int (zI 1)], es)
            refine x_ifT i_101_12 (by unfold i32 iLO iHI; omega) rfl (by simp only [zC, cR]; omega) ?_
            refine x0 (r := (26, [some (.ref 64), some (.int (zI sq)), some (.int (zI kd)), some (.int (zI sd))], [.int (zI kd)], es)) i_101_25 rfl ?_
            refine x0 (r := (27, [some (.ref 64), some (.int (zI sq)), some (.int (zI kd)), some (.int (zI sd))], [.int (zI (-1)), .int (zI kd)], es)) i_101_26 (by rfl) ?_
            refine x_cmpF i_101_27 (by unfold i32 iLO iHI; omega) (by unfold i32 iLO iHI; omega) rfl (by simp only [zC, cR]; omega) ?_
            refine x0 (r := (31, [some (.ref 64), some (.int (zI sq)), some (.int (zI kd)), some (.int (zI sd))], [.int (zI sd)], es)) i_101_30 rfl ?_
            refine x_call (vs := [.int (zI sd)]) (rs := []) i_101_31 rfl (fun _ => rfl) rfl rfl rfl rfl rfl rfl ?_
            show aW _ _ _ _ _ _ (0, [some (.int (zI sd))], [], es)
            refine x0 (r := (1, [some (.int (zI sd))], [.int (zI sd)], es)) i_105_0 rfl ?_
            by_cases c10 : sd = 0
            · refine x_ifT i_105_1 (by unfold i32 iLO iHI; omega) rfl (by simp only [zC, cR]; omega) ?_
              refine x0 (r := (10, [some (.int (zI sd))], [.int (zI 1)], es)) i_105_9 (by rfl) ?_
              refine x0 (r := (14, [some (.int (zI sd))], [.int (zI 1)], es)) i_105_10 rfl ?_
              refine x_ret (v := some (.int (zI 1))) i_105_14 rfl (fun _ => rfl) rfl rfl (pFin_b (by omega)) ?_
              show aW _ _ _ _ _ _ (34, [some (.ref 64), some (.int (zI sq)), some (.int (zI kd)), some (.int (zI sd))], [.int (zI 1)], es)
              refine x_ifT i_101_34 (by unfold i32 iLO iHI; omega) rfl (by simp only [zC, cR]; omega) ?_
              refine x0 (r := (48, [some (.ref 64), some (.int (zI sq)), some (.int (zI kd)), some (.int (zI sd))], [.ref 64], es)) i_101_47 rfl ?_
              refine x_getr (p := 0) (k := 71) i_101_48 hs_es rfl rfl ?_
              show aW _ _ _ _ _ _ (51, [some (.ref 64), some (.int (zI sq)), some (.int (zI kd)), some (.int (zI sd))], [.ref 71], es)
              refine x_getr (p := 7) (k := 75) i_101_51 hs_es rfl rfl ?_
              show aW _ _ _ _ _ _ (54, [some (.ref 64), some (.int (zI sq)), some (.int (zI kd)), some (.int (zI sd))], [.ref 75], es)
              refine x0 (r := (55, [some (.ref 64), some (.int (zI sq)), some (.int (zI kd)), some (.int (zI sd))], [.int (zI sq), .ref 75], es)) i_101_54 rfl ?_
              refine x0 (r := (56, [some (.ref 64), some (.int (zI sq)), some (.int (zI kd)), some (.int (zI sd))], [.int (zI kd), .int (zI sq), .ref 75], es)) i_101_55 rfl ?_
              refine x0 (r := (57, [some (.ref 64), some (.int (zI sq)), some (.int (zI kd)), some (.int (zI sd))], [.int (zI sd), .int (zI kd), .int (zI sq), .ref 75], es)) i_101_56 rfl ?_
              refine x_call (vs := [.int (zI kd), .int (zI sd)]) (rs := [.int (zI sq), .ref 75]) i_101_57 rfl (fun _ => rfl) rfl rfl rfl rfl rfl rfl ?_
              show aW _ _ _ _ _ _ (0, [some (.int (zI kd)), some (.int (zI sd))], [], es)
              refine x0 (r := (1, [some (.int (zI kd)), some (.int (zI sd))], [.int (zI kd)], es)) i_106_0 rfl ?_
              refine x0 (r := (2, [some (.int (zI kd)), some (.int (zI sd))], [.int (zI (-1)), .int (zI kd)], es)) i_106_1 (by rfl) ?_
              refine x_cmpT i_106_2 (by unfold i32 iLO iHI; omega) (by unfold i32 iLO iHI; omega) rfl (by simp only [zC, cR]; omega) ?_
              refine x0 (r := (10, [some (.int (zI kd)), some (.int (zI sd))], [.int (zI 1)], es)) i_106_9 (by rfl) ?_
              refine x0 (r := (11, [some (.int (zI kd)), some (.int (zI sd))], [.int (zI 2), .int (zI 1)], es)) i_106_10 (by rfl) ?_
              refine x0 (r := (12, [some (.int (zI kd)), some (.int (zI sd))], [.int (zI kd), .int (zI 2), .int (zI 1)], es)) i_106_11 rfl ?_
              refine x_imul i_106_12 ?_
              refine x_iadd i_106_13 ?_
              refine x0 (r := (15, [some (.int (zI kd)), some (.int (zI sd))], [.int (zI sd), .int (zI (1 + (2 * kd)))], es)) i_106_14 rfl ?_
              refine x_iadd i_106_15 ?_
              refine x_ret (v := some (.int (zI ((1 + (2 * kd)) + sd)))) i_106_16 rfl (fun _ => rfl) rfl rfl rfl ?_
              show aW _ _ _ _ _ _ (60, [some (.ref 64), some (.int (zI sq)), some (.int (zI kd)), some (.int (zI sd))], [.int (zI ((1 + (2 * kd)) + sd)), .int (zI sq), .ref 75], es)
              refine x_call (vs := [.ref 75, .int (zI sq), .int (zI ((1 + (2 * kd)) + sd))]) (rs := []) i_101_60 rfl (fun _ => rfl) rfl rfl rfl rfl rfl rfl ?_
              show aW _ _ _ _ _ _ (0, [some (.ref 75), some (.int (zI sq)), some (.int (zI ((1 + (2 * kd)) + sd)))], [], es)
              refine x0 (r := (1, [some (.ref 75), some (.int (zI sq)), some (.int (zI ((1 + (2 * kd)) + sd)))], [.int (zI sq)], es)) i_14_0 rfl ?_
              refine x_ifF i_14_1 (by unfold i32 iLO iHI; omega) rfl (by simp only [zC, cR]; omega) ?_
              refine x0 (r := (5, [some (.ref 75), some (.int (zI sq)), some (.int (zI ((1 + (2 * kd)) + sd)))], [.int (zI sq)], es)) i_14_4 rfl ?_
              refine x0 (r := (6, [some (.ref 75), some (.int (zI sq)), some (.int (zI ((1 + (2 * kd)) + sd)))], [.ref 75, .int (zI sq)], es)) i_14_5 rfl ?_
              refine x_alen (p := 11) (n := 36) i_14_6 hs_es rfl ?_
              refine x_cmpF i_14_7 (by unfold i32 iLO iHI; omega) (by unfold i32 iLO iHI; omega) rfl (by simp only [zC, cR]; omega) ?_
              refine x0 (r := (11, [some (.ref 75), some (.int (zI sq)), some (.int (zI ((1 + (2 * kd)) + sd)))], [.ref 75], es)) i_14_10 rfl ?_
              refine x0 (r := (12, [some (.ref 75), some (.int (zI sq)), some (.int (zI ((1 + (2 * kd)) + sd)))], [.int (zI sq), .ref 75], es)) i_14_11 rfl ?_
              refine x0 (r := (13, [some (.ref 75), some (.int (zI sq)), some (.int (zI ((1 + (2 * kd)) + sd)))], [.int (zI ((1 + (2 * kd)) + sd)), .int (zI sq), .ref 75], es)) i_14_12 rfl ?_
              refine x_iast (p := 11) i_14_13 hs_es rfl (by unfold i32 iLO iHI; omega) (by omega) (by omega) ?_
              obtain ⟨es11, e_es11⟩ : ∃ z : PH, z = sA es 11 sq.toNat (zI ((1 + (2 * kd)) + sd)) := ⟨_, rfl⟩
              have hs_es11 : sh es11 := by rw [e_es11]; exact sh_sA hs_es
              have hT_es11 : hOK tT es11 := by rw [e_es11]; exact hOK_sA hT_es (p := 11) (n := 36) rfl (fun _ => i32_rng _)
              rw [← e_es11]
              refine x_ret (v := none) i_14_14 rfl (fun _ => rfl) rfl rfl rfl ?_
              show aW _ _ _ _ _ _ (63, [some (.ref 64), some (.int (zI sq)), some (.int (zI kd)), some (.int (zI sd))], [], es11)
              refine x0 (r := (64, [some (.ref 64), some (.int (zI sq)), some (.int (zI kd)), some (.int (zI sd))], [.ref 64], es11)) i_101_63 rfl ?_
              refine x_call (vs := [.ref 64]) (rs := []) i_101_64 rfl (fun _ => rfl) rfl rfl rfl rfl rfl (pCall_v (p := 0) hs_es11 rfl rfl rfl rfl rfl (by decide) rfl rfl rfl rfl rfl) ?_
              show aW _ _ _ _ _ _ (0, [some (.ref 64)], [], es11)
              refine x0 (r := (1, [some (.ref 64)], [.ref 64], es11)) i_73_0 rfl ?_
              refine x0 (r := (2, [some (.ref 64)], [.int (zI 0), .ref 64], es11)) i_73_1 (by rfl) ?_
              refine x_puti (p := 0) (ty := .boolean) i_73_2 hs_es11 rfl rfl rfl (Or.inr ⟨rfl, by omega⟩) ?_
              obtain ⟨es12, e_es12⟩ : ∃ z : PH, z = sI es11 0 10 (.int (zI 0)) := ⟨_, rfl⟩
              have hs_es12 : sh es12 := by rw [e_es12]; exact sh_sI hs_es11 (p := 0) (b := 10) rfl rfl
              have hT_es12 : hOK tT es12 := by rw [e_es12]; exact hOK_sI hT_es11 (p := 0) (b := 10) rfl rfl (by rw [zI_toInt (by unfold i32 iLO iHI; omega)]; exact ⟨by show (0 : Int) ≤ 0; omega, by show 0 ≤ (1 : Int); omega⟩)
              rw [← e_es12]
              refine x0 (r := (6, [some (.ref 64)], [.ref 64], es12)) i_73_5 rfl ?_
              refine x_getr (p := 0) (k := 137) i_73_6 hs_es12 rfl rfl ?_
              show aW _ _ _ _ _ _ (9, [some (.ref 64)], [.ref 137], es12)
              refine x0 (r := (10, [some (.ref 64)], [.int (zI 0), .ref 137], es12)) i_73_9 (by rfl) ?_
              refine x_puti (p := 73) (ty := .boolean) i_73_10 hs_es12 rfl rfl rfl (Or.inr ⟨rfl, by omega⟩) ?_
              obtain ⟨es13, e_es13⟩ : ∃ z : PH, z = sI es12 73 3 (.int (zI 0)) := ⟨_, rfl⟩
              have hs_es13 : sh es13 := by rw [e_es13]; exact sh_sI hs_es12 (p := 73) (b := 3) rfl rfl
              have hT_es13 : hOK tT es13 := by rw [e_es13]; exact hOK_sI hT_es12 (p := 73) (b := 3) rfl rfl (by rw [zI_toInt (by unfold i32 iLO iHI; omega)]; exact ⟨by show (0 : Int) ≤ 0; omega, by show 0 ≤ (1 : Int); omega⟩)
              rw [← e_es13]
              refine x_ret (v := none) i_73_13 rfl (fun _ => rfl) rfl rfl rfl ?_
              show aW _ _ _ _ _ _ (67, [some (.ref 64), some (.int (zI sq)), some (.int (zI kd)), some (.int (zI sd))], [], es13)
              refine x_ret (v := none) i_101_67 rfl (fun _ => rfl) rfl rfl rfl ?_
              exact K6 c1 c2 c3 c7 v8 e_v8 c9 c10 es11 e_es11 es12 e_es12 es13 e_es13
            · refine x_ifF i_105_1 (by unfold i32 iLO iHI; omega) rfl (by simp only [zC, cR]; omega) ?_
              refine x0 (r := (5, [some (.int (zI sd))], [.int (zI sd)], es)) i_105_4 rfl ?_
              refine x0 (r := (6, [some (.int (zI sd))], [.int (zI 1), .int (zI sd)], es)) i_105_5 (by rfl) ?_
              by_cases c14 : sd ≠ 1
              · refine x_cmpT i_105_6 (by unfold i32 iLO iHI; omega) (by unfold i32 iLO iHI; omega) rfl (by simp only [zC, cR]; omega) ?_
                refine x0 (r := (14, [some (.int (zI sd))], [.int (zI 0)], es)) i_105_13 (by rfl) ?_
                refine x_ret (v := some (.int (zI 0))) i_105_14 rfl (fun _ => rfl) rfl rfl (pFin_b (by omega)) ?_
                show aW _ _ _ _ _ _ (34, [some (.ref 64), some (.int (zI sq)), some (.int (zI kd)), some (.int (zI sd))], [.int (zI 0)], es)
                refine x_ifF i_101_34 (by unfold i32 iLO iHI; omega) rfl (by simp only [zC, cR]; omega) ?_
                refine x_thr i_101_37 rfl (fun _ => rfl) rfl rfl rfl rfl ?_
                exact K7 c1 c2 c3 c7 v8 e_v8 c9 c10 c14
              · refine x_cmpF i_105_6 (by unfold i32 iLO iHI; omega) (by unfold i32 iLO iHI; omega) rfl (by simp only [zC, cR]; omega) ?_
                refine x0 (r := (10, [some (.int (zI sd))], [.int (zI 1)], es)) i_105_9 (by rfl) ?_
                refine x0 (r := (14, [some (.int (zI sd))], [.int (zI 1)], es)) i_105_10 rfl ?_
                refine x_ret (v := some (.int (zI 1))) i_105_14 rfl (fun _ => rfl) rfl rfl (pFin_b (by omega)) ?_
                show aW _ _ _ _ _ _ (34, [some (.ref 64), some (.int (zI sq)), some (.int (zI kd)), some (.int (zI sd))], [.int (zI 1)], es)
                refine x_ifT i_101_34 (by unfold i32 iLO iHI; omega) rfl (by simp only [zC, cR]; omega) ?_
                refine x0 (r := (48, [some (.ref 64), some (.int (zI sq)), some (.int (zI kd)), some (.int (zI sd))], [.ref 64], es)) i_101_47 rfl ?_
                refine x_getr (p := 0) (k := 71) i_101_48 hs_es rfl rfl ?_
                show aW _ _ _ _ _ _ (51, [some (.ref 64), some (.int (zI sq)), some (.int (zI kd)), some (.int (zI sd))], [.ref 71], es)
                refine x_getr (p := 7) (k := 75) i_101_51 hs_es rfl rfl ?_
                show aW _ _ _ _ _ _ (54, [some (.ref 64), some (.int (zI sq)), some (.int (zI kd)), some (.int (zI sd))], [.ref 75], es)
                refine x0 (r := (55, [some (.ref 64), some (.int (zI sq)), some (.int (zI kd)), some (.int (zI sd))], [.int (zI sq), .ref 75], es)) i_101_54 rfl ?_
                refine x0 (r := (56, [some (.ref 64), some (.int (zI sq)), some (.int (zI kd)), some (.int (zI sd))], [.int (zI kd), .int (zI sq), .ref 75], es)) i_101_55 rfl ?_
                refine x0 (r := (57, [some (.ref 64), some (.int (zI sq)), some (.int (zI kd)), some (.int (zI sd))], [.int (zI sd), .int (zI kd), .int (zI sq), .ref 75], es)) i_101_56 rfl ?_
                refine x_call (vs := [.int (zI kd), .int (zI sd)]) (rs := [.int (zI sq), .ref 75]) i_101_57 rfl (fun _ => rfl) rfl rfl rfl rfl rfl rfl ?_
                show aW _ _ _ _ _ _ (0, [some (.int (zI kd)), some (.int (zI sd))], [], es)
                refine x0 (r := (1, [some (.int (zI kd)), some (.int (zI sd))], [.int (zI kd)], es)) i_106_0 rfl ?_
                refine x0 (r := (2, [some (.int (zI kd)), some (.int (zI sd))], [.int (zI (-1)), .int (zI kd)], es)) i_106_1 (by rfl) ?_
                refine x_cmpT i_106_2 (by unfold i32 iLO iHI; omega) (by unfold i32 iLO iHI; omega) rfl (by simp only [zC, cR]; omega) ?_
                refine x0 (r := (10, [some (.int (zI kd)), some (.int (zI sd))], [.int (zI 1)], es)) i_106_9 (by rfl) ?_
                refine x0 (r := (11, [some (.int (zI kd)), some (.int (zI sd))], [.int (zI 2), .int (zI 1)], es)) i_106_10 (by rfl) ?_
                refine x0 (r := (12, [some (.int (zI kd)), some (.int (zI sd))], [.int (zI kd), .int (zI 2), .int (zI 1)], es)) i_106_11 rfl ?_
                refine x_imul i_106_12 ?_
                refine x_iadd i_106_13 ?_
                refine x0 (r := (15, [some (.int (zI kd)), some (.int (zI sd))], [.int (zI sd), .int (zI (1 + (2 * kd)))], es)) i_106_14 rfl ?_
                refine x_iadd i_106_15 ?_
                refine x_ret (v := some (.int (zI ((1 + (2 * kd)) + sd)))) i_106_16 rfl (fun _ => rfl) rfl rfl rfl ?_
                show aW _ _ _ _ _ _ (60, [some (.ref 64), some (.int (zI sq)), some (.int (zI kd)), some (.int (zI sd))], [.int (zI ((1 + (2 * kd)) + sd)), .int (zI sq), .ref 75], es)
                refine x_call (vs := [.ref 75, .int (zI sq), .int (zI ((1 + (2 * kd)) + sd))]) (rs := []) i_101_60 rfl (fun _ => rfl) rfl rfl rfl rfl rfl rfl ?_
                show aW _ _ _ _ _ _ (0, [some (.ref 75), some (.int (zI sq)), some (.int (zI ((1 + (2 * kd)) + sd)))], [], es)
                refine x0 (r := (1, [some (.ref 75), some (.int (zI sq)), some (.int (zI ((1 + (2 * kd)) + sd)))], [.int (zI sq)], es)) i_14_0 rfl ?_
                refine x_ifF i_14_1 (by unfold i32 iLO iHI; omega) rfl (by simp only [zC, cR]; omega) ?_
                refine x0 (r := (5, [some (.ref 75), some (.int (zI sq)), some (.int (zI ((1 + (2 * kd)) + sd)))], [.int (zI sq)], es)) i_14_4 rfl ?_
                refine x0 (r := (6, [some (.ref 75), some (.int (zI sq)), some (.int (zI ((1 + (2 * kd)) + sd)))], [.ref 75, .int (zI sq)], es)) i_14_5 rfl ?_
                refine x_alen (p := 11) (n := 36) i_14_6 hs_es rfl ?_
                refine x_cmpF i_14_7 (by unfold i32 iLO iHI; omega) (by unfold i32 iLO iHI; omega) rfl (by simp only [zC, cR]; omega) ?_
                refine x0 (r := (11, [some (.ref 75), some (.int (zI sq)), some (.int (zI ((1 + (2 * kd)) + sd)))], [.ref 75], es)) i_14_10 rfl ?_
                refine x0 (r := (12, [some (.ref 75), some (.int (zI sq)), some (.int (zI ((1 + (2 * kd)) + sd)))], [.int (zI sq), .ref 75], es)) i_14_11 rfl ?_
                refine x0 (r := (13, [some (.ref 75), some (.int (zI sq)), some (.int (zI ((1 + (2 * kd)) + sd)))], [.int (zI ((1 + (2 * kd)) + sd)), .int (zI sq), .ref 75], es)) i_14_12 rfl ?_
                refine x_iast (p := 11) i_14_13 hs_es rfl (by unfold i32 iLO iHI; omega) (by omega) (by omega) ?_
                obtain ⟨es15, e_es15⟩ : ∃ z : PH, z = sA es 11 sq.toNat (zI ((1 + (2 * kd)) + sd)) := ⟨_, rfl⟩
                have hs_es15 : sh es15 := by rw [e_es15]; exact sh_sA hs_es
                have hT_es15 : hOK tT es15 := by rw [e_es15]; exact hOK_sA hT_es (p := 11) (n := 36) rfl (fun _ => i32_rng _)
                rw [← e_es15]
                refine x_ret (v := none) i_14_14 rfl (fun _ => rfl) rfl rfl rfl ?_
                show aW _ _ _ _ _ _ (63, [some (.ref 64), some (.int (zI sq)), some (.int (zI kd)), some (.int (zI sd))], [], es15)
                refine x0 (r := (64, [some (.ref 64), some (.int (zI sq)), some (.int (zI kd)), some (.int (zI sd))], [.ref 64], es15)) i_101_63 rfl ?_
                refine x_call (vs := [.ref 64]) (rs := []) i_101_64 rfl (fun _ => rfl) rfl rfl rfl rfl rfl (pCall_v (p := 0) hs_es15 rfl rfl rfl rfl rfl (by decide) rfl rfl rfl rfl rfl) ?_
                show aW _ _ _ _ _ _ (0, [some (.ref 64)], [], es15)
                refine x0 (r := (1, [some (.ref 64)], [.ref 64], es15)) i_73_0 rfl ?_
                refine x0 (r := (2, [some (.ref 64)], [.int (zI 0), .ref 64], es15)) i_73_1 (by rfl) ?_
                refine x_puti (p := 0) (ty := .boolean) i_73_2 hs_es15 rfl rfl rfl (Or.inr ⟨rfl, by omega⟩) ?_
                obtain ⟨es16, e_es16⟩ : ∃ z : PH, z = sI es15 0 10 (.int (zI 0)) := ⟨_, rfl⟩
                have hs_es16 : sh es16 := by rw [e_es16]; exact sh_sI hs_es15 (p := 0) (b := 10) rfl rfl
                have hT_es16 : hOK tT es16 := by rw [e_es16]; exact hOK_sI hT_es15 (p := 0) (b := 10) rfl rfl (by rw [zI_toInt (by unfold i32 iLO iHI; omega)]; exact ⟨by show (0 : Int) ≤ 0; omega, by show 0 ≤ (1 : Int); omega⟩)
                rw [← e_es16]
                refine x0 (r := (6, [some (.ref 64)], [.ref 64], es16)) i_73_5 rfl ?_
                refine x_getr (p := 0) (k := 137) i_73_6 hs_es16 rfl rfl ?_
                show aW _ _ _ _ _ _ (9, [some (.ref 64)], [.ref 137], es16)
                refine x0 (r := (10, [some (.ref 64)], [.int (zI 0), .ref 137], es16)) i_73_9 (by rfl) ?_
                refine x_puti (p := 73) (ty := .boolean) i_73_10 hs_es16 rfl rfl rfl (Or.inr ⟨rfl, by omega⟩) ?_
                obtain ⟨es17, e_es17⟩ : ∃ z : PH, z = sI es16 73 3 (.int (zI 0)) := ⟨_, rfl⟩
                have hs_es17 : sh es17 := by rw [e_es17]; exact sh_sI hs_es16 (p := 73) (b := 3) rfl rfl
                have hT_es17 : hOK tT es17 := by rw [e_es17]; exact hOK_sI hT_es16 (p := 73) (b := 3) rfl rfl (by rw [zI_toInt (by unfold i32 iLO iHI; omega)]; exact ⟨by show (0 : Int) ≤ 0; omega, by show 0 ≤ (1 : Int); omega⟩)
                rw [← e_es17]
                refine x_ret (v := none) i_73_13 rfl (fun _ => rfl) rfl rfl rfl ?_
                show aW _ _ _ _ _ _ (67, [some (.ref 64), some (.int (zI sq)), some (.int (zI kd)), some (.int (zI sd))], [], es17)
                refine x_ret (v := none) i_101_67 rfl (fun _ => rfl) rfl rfl rfl ?_
                exact K8 c1 c2 c3 c7 v8 e_v8 c9 c10 c14 es15 e_es15 es16 e_es16 es17 e_es17
def putxP (sq : Int) (kd : Int) (sd : Int) (es : PH) (r : Option Value ⊕ Nat) (es1 : PH) : Prop := sh es1 ∧ True ∧ ((r = .inr 2 ∧ (sq < 0 ∨ 35 < sq ∨ (¬ kd = -1 ∧ (kd < 0 ∨ (gI es 7 0).toInt ≤ kd))) ∧ gA es1 11 = gA es 11) ∨ (r = .inr 0 ∧ ((0 ≤ sq ∧ sq ≤ 35) ∧ ¬ kd = -1 ∧ (0 ≤ kd ∧ kd < (gI es 7 0).toInt) ∧ (sd < 0 ∨ 1 < sd)) ∧ gA es1 11 = gA es 11) ∨ (r = .inl none ∧ ((0 ≤ sq ∧ sq ≤ 35) ∧ kd = -1) ∧ gA es1 11 = upd (gA es 11) sq.toNat (zI 0)) ∨ (r = .inl none ∧ ((0 ≤ sq ∧ sq ≤ 35) ∧ ¬ kd = -1 ∧ (0 ≤ kd ∧ kd < (gI es 7 0).toInt) ∧ (0 ≤ sd ∧ sd ≤ 1)) ∧ gA es1 11 = upd (gA es 11) sq.toNat (zI ((1 + (2 * kd)) + sd))))
theorem fn_putx {O : pOut} {d : Nat} {es : PH} {sq kd sd : Int} (hq : i32 sq) (hk : i32 kd) (hd : i32 sd) (hT : hOK tT es) : aW O (d + 2) 101 0 0 (fun o => putxP sq kd sd es o.1 o.2.1) (0, [some (.ref 64), some (.int (zI sq)), some (.int (zI kd)), some (.int (zI sd))], [], es) := by
  have hs_es := sh_of hT
  refine s_xput (d := d) (kc := 0) (ks := 0) hs_es hq hk hd hT (fun c1 => ?_) (fun c1 c2 => ?_) (fun c1 c2 c3 es4 e_es4 es5 e_es5 es6 e_es6 => ?_) (fun c1 c2 c3 c7 => ?_) (fun c1 c2 c3 c7 v8 e_v8 c9 => ?_) (fun c1 c2 c3 c7 v8 e_v8 c9 c10 es11 e_es11 es12 e_es12 es13 e_es13 => ?_) (fun c1 c2 c3 c7 v8 e_v8 c9 c10 c14 => ?_) (fun c1 c2 c3 c7 v8 e_v8 c9 c10 c14 es15 e_es15 es16 e_es16 es17 e_es17 => ?_)
  · exact ⟨hs_es, trivial, Or.inl ⟨rfl, by omega, by show gA es 11 = _; rfl⟩⟩
  · exact ⟨hs_es, trivial, Or.inl ⟨rfl, by omega, by show gA es 11 = _; rfl⟩⟩
  · have hs_es4 : sh es4 := by rw [e_es4]; exact sh_sA hs_es
    have hs_es5 : sh es5 := by rw [e_es5]; exact sh_sI hs_es4 (p := 0) (b := 10) rfl rfl
    have hs_es6 : sh es6 := by rw [e_es6]; exact sh_sI hs_es5 (p := 73) (b := 3) rfl rfl
    exact ⟨hs_es6, trivial, Or.inr (Or.inr (Or.inl ⟨rfl, by omega, by show gA es6 11 = _; rw [e_es6, gA_sI, e_es5, gA_sI, e_es4, gA_sA hs_es (p := 11) (t := 0) (n := 36) rfl (by decide)]⟩))⟩
  · exact ⟨hs_es, trivial, Or.inl ⟨rfl, by omega, by show gA es 11 = _; rfl⟩⟩
  · exact ⟨hs_es, trivial, Or.inl ⟨rfl, by omega, by show gA es 11 = _; rfl⟩⟩
  · have hs_es11 : sh es11 := by rw [e_es11]; exact sh_sA hs_es
    have hs_es12 : sh es12 := by rw [e_es12]; exact sh_sI hs_es11 (p := 0) (b := 10) rfl rfl
    have hs_es13 : sh es13 := by rw [e_es13]; exact sh_sI hs_es12 (p := 73) (b := 3) rfl rfl
    exact ⟨hs_es13, trivial, Or.inr (Or.inr (Or.inr (⟨rfl, by omega, by show gA es13 11 = _; rw [e_es13, gA_sI, e_es12, gA_sI, e_es11, gA_sA hs_es (p := 11) (t := 0) (n := 36) rfl (by decide)]⟩)))⟩
  · exact ⟨hs_es, trivial, Or.inr (Or.inl ⟨rfl, by omega, by show gA es 11 = _; rfl⟩)⟩
  · have hs_es15 : sh es15 := by rw [e_es15]; exact sh_sA hs_es
    have hs_es16 : sh es16 := by rw [e_es16]; exact sh_sI hs_es15 (p := 0) (b := 10) rfl rfl
    have hs_es17 : sh es17 := by rw [e_es17]; exact sh_sI hs_es16 (p := 73) (b := 3) rfl rfl
    exact ⟨hs_es17, trivial, Or.inr (Or.inr (Or.inr (⟨rfl, by omega, by show gA es17 11 = _; rw [e_es17, gA_sI, e_es16, gA_sI, e_es15, gA_sA hs_es (p := 11) (t := 0) (n := 36) rfl (by decide)]⟩)))⟩
theorem s_puty0 {O : pOut} {d kc ks : Nat} {Q : pRes → Prop} {es : PH} {sq kd sd : Int} (hs_es : sh es)
    (K1 : aW O d 279 kc ks Q (4, [some (.ref 64), some (.int (zI sq)), some (.int (zI kd)), some (.int (zI sd)), none], [.int (zI sd), .int (zI kd), .int (zI sq), .ref 64], es)) :
    aW O d 279 kc ks Q (0, [some (.ref 64), some (.int (zI sq)), some (.int (zI kd)), some (.int (zI sd)), none], [], es) := by
  refine x0 (r := (1, [some (.ref 64), some (.int (zI sq)), some (.int (zI kd)), some (.int (zI sd)), none], [.ref 64], es)) i_279_0 rfl ?_
  refine x0 (r := (2, [some (.ref 64), some (.int (zI sq)), some (.int (zI kd)), some (.int (zI sd)), none], [.int (zI sq), .ref 64], es)) i_279_1 rfl ?_
  refine x0 (r := (3, [some (.ref 64), some (.int (zI sq)), some (.int (zI kd)), some (.int (zI sd)), none], [.int (zI kd), .int (zI sq), .ref 64], es)) i_279_2 rfl ?_
  refine x0 (r := (4, [some (.ref 64), some (.int (zI sq)), some (.int (zI kd)), some (.int (zI sd)), none], [.int (zI sd), .int (zI kd), .int (zI sq), .ref 64], es)) i_279_3 rfl ?_
  exact K1
theorem s_puty1 {O : pOut} {d kc ks : Nat} {Q : pRes → Prop} {es : PH} {sq kd sd : Int} (hs_es : sh es)
    (K1 : Q (.inl (some (.int (zI 0))), es, kc, ks)) :
    aW O d 279 kc ks Q (7, [some (.ref 64), some (.int (zI sq)), some (.int (zI kd)), some (.int (zI sd)), none], [], es) := by
  refine x0 (r := (18, [some (.ref 64), some (.int (zI sq)), some (.int (zI kd)), some (.int (zI sd)), none], [], es)) i_279_7 rfl ?_
  refine x0 (r := (19, [some (.ref 64), some (.int (zI sq)), some (.int (zI kd)), some (.int (zI sd)), none], [.int (zI 0)], es)) i_279_18 (by rfl) ?_
  refine x_ret (v := some (.int (zI 0))) i_279_19 rfl (fun _ => rfl) rfl rfl rfl ?_
  exact K1
theorem s_puty12 {O : pOut} {d kc ks : Nat} {Q : pRes → Prop} {es : PH} {sq kd sd : Int} (hs_es : sh es)
    (K1 : Q (.inl (some (.int (zI 1))), es, kc, ks)) :
    aW O d 279 kc ks Q (12, [some (.ref 64), some (.int (zI sq)), some (.int (zI kd)), some (.int (zI sd)), none], [], es) := by
  refine x0 (r := (13, [some (.ref 64), some (.int (zI sq)), some (.int (zI kd)), some (.int (zI sd)), none], [.int (zI 1)], es)) i_279_12 (by rfl) ?_
  refine x_ret (v := some (.int (zI 1))) i_279_13 rfl (fun _ => rfl) rfl rfl rfl ?_
  exact K1
theorem s_puty16 {O : pOut} {d kc ks : Nat} {Q : pRes → Prop} {es : PH} {sq kd sd : Int} (hs_es : sh es)
    (K1 : Q (.inl (some (.int (zI 2))), es, kc, ks)) :
    aW O d 279 kc ks Q (16, [some (.ref 64), some (.int (zI sq)), some (.int (zI kd)), some (.int (zI sd)), none], [], es) := by
  refine x0 (r := (17, [some (.ref 64), some (.int (zI sq)), some (.int (zI kd)), some (.int (zI sd)), none], [.int (zI 2)], es)) i_279_16 (by rfl) ?_
  refine x_ret (v := some (.int (zI 2))) i_279_17 rfl (fun _ => rfl) rfl rfl rfl ?_
  exact K1
def putyP (sq : Int) (kd : Int) (sd : Int) (es : PH) (r : Option Value ⊕ Nat) (es1 : PH) : Prop := sh es1 ∧ True ∧ ∃ k : Int, r = .inl (some (.int (zI k))) ∧ ((k = 1 ∧ (sq < 0 ∨ 35 < sq ∨ (¬ kd = -1 ∧ (kd < 0 ∨ (gI es 7 0).toInt ≤ kd))) ∧ gA es1 11 = gA es 11) ∨ (k = 2 ∧ ((0 ≤ sq ∧ sq ≤ 35) ∧ ¬ kd = -1 ∧ (0 ≤ kd ∧ kd < (gI es 7 0).toInt) ∧ (sd < 0 ∨ 1 < sd)) ∧ gA es1 11 = gA es 11) ∨ (k = 0 ∧ ((0 ≤ sq ∧ sq ≤ 35) ∧ kd = -1) ∧ gA es1 11 = upd (gA es 11) sq.toNat (zI 0)) ∨ (k = 0 ∧ ((0 ≤ sq ∧ sq ≤ 35) ∧ ¬ kd = -1 ∧ (0 ≤ kd ∧ kd < (gI es 7 0).toInt) ∧ (0 ≤ sd ∧ sd ≤ 1)) ∧ gA es1 11 = upd (gA es 11) sq.toNat (zI ((1 + (2 * kd)) + sd))))
theorem fn_puty {O : pOut} {d : Nat} {es : PH} {sq kd sd : Int} (hq : i32 sq) (hk : i32 kd) (hd : i32 sd) (hT : hOK tT es) : aW O (d + 3) 279 0 0 (fun o => putyP sq kd sd es o.1 o.2.1) (0, [some (.ref 64), some (.int (zI sq)), some (.int (zI kd)), some (.int (zI sd)), none], [], es) := by
  refine s_puty0 (sh_of hT) ?_
  refine x_call (vs := [.ref 64, .int (zI sq), .int (zI kd), .int (zI sd)]) (rs := []) i_279_4 rfl (fun _ => rfl) rfl rfl rfl rfl rfl (pCall_v (p := 0) (sh_of hT) rfl rfl rfl rfl rfl (by decide) rfl rfl rfl rfl rfl) ?_
  show aW _ _ _ _ _ _ (0, [some (.ref 64), some (.int (zI sq)), some (.int (zI kd)), some (.int (zI sd))], [], es)
  refine aW_mono (Nat.le_refl _) (fun o ho => ?_) (fn_putx (O := O) (d := d) hq hk hd hT)
  obtain ⟨r, es', kc', ks'⟩ := o
  obtain ⟨hs1, hcm, h⟩ : putxP sq kd sd es r es' := ho
  rcases h with ⟨rfl, hc, g0⟩ | ⟨rfl, hc, g0⟩ | ⟨rfl, hc, g0⟩ | ⟨rfl, hc, g0⟩
  · refine ⟨_, _, _, _, rfl, rfl, rfl, ?_⟩
    show aW _ _ _ _ _ _ (12, [some (.ref 64), some (.int (zI sq)), some (.int (zI kd)), some (.int (zI sd)), none], [], es')
    exact s_puty12 hs1 ⟨hs1, hcm, 1, rfl, Or.inl ⟨rfl, hc, g0⟩⟩
  · refine ⟨_, _, _, _, rfl, rfl, rfl, ?_⟩
    show aW _ _ _ _ _ _ (16, [some (.ref 64), some (.int (zI sq)), some (.int (zI kd)), some (.int (zI sd)), none], [], es')
    exact s_puty16 hs1 ⟨hs1, hcm, 2, rfl, Or.inr (Or.inl ⟨rfl, hc, g0⟩)⟩
  · refine aK_nil ?_
    show aW _ _ _ _ _ _ (7, [some (.ref 64), some (.int (zI sq)), some (.int (zI kd)), some (.int (zI sd)), none], [], es')
    exact s_puty1 hs1 ⟨hs1, hcm, 0, rfl, Or.inr (Or.inr (Or.inl ⟨rfl, hc, g0⟩))⟩
  · refine aK_nil ?_
    show aW _ _ _ _ _ _ (7, [some (.ref 64), some (.int (zI sq)), some (.int (zI kd)), some (.int (zI sd)), none], [], es')
    exact s_puty1 hs1 ⟨hs1, hcm, 0, rfl, Or.inr (Or.inr (Or.inr (⟨rfl, hc, g0⟩)))⟩
theorem s_mput {O : pOut} {d kc ks : Nat} {Q : pRes → Prop} {es : PH} {sq kd sd : Int} (hs_es : sh es) (h_sq : -2147483648 ≤ sq ∧ sq ≤ 2147483647) (h_kd : -2147483648 ≤ kd ∧ kd ≤ 2147483647) (h_sd : -2147483648 ≤ sd ∧ sd ≤ 2147483647) (hT_es : hOK tT es)
    (K1 : ∀ es1 : PH, es1 = sI es 79 0 (.int (zI 0)) → sq < 0 → ∀ es3 : PH, es3 = sI es1 79 0 (.int (zI 1)) → Q (.inl (none), es3, kc, ks))
    (K2 : ∀ es1 : PH, es1 = sI es 79 0 (.int (zI 0)) → ¬ (sq < 0) → 35 < sq → ∀ es5 : PH, es5 = sI es1 79 0 (.int (zI 1)) → Q (.inl (none), es5, kc, ks))
    (K3 : ∀ es1 : PH, es1 = sI es 79 0 (.int (zI 0)) → ¬ (sq < 0) → ¬ (35 < sq) → kd = (-1) → ∀ es7 : PH, es7 = sA es1 80 (13 + sq).toNat (zI (-1)) → Q (.inl (none), es7, kc, ks))
    (K4 : ∀ es1 : PH, es1 = sI es 79 0 (.int (zI 0)) → ¬ (sq < 0) → ¬ (35 < sq) → ¬ (kd = (-1)) → ∀ v8 : Int, v8 = (gA es1 80 (Int.toNat 0)).toInt → kd < 0 → ∀ es10 : PH, es10 = sI es1 79 0 (.int (zI 1)) → Q (.inl (none), es10, kc, ks))
    (K5 : ∀ es1 : PH, es1 = sI es 79 0 (.int (zI 0)) → ¬ (sq < 0) → ¬ (35 < sq) → ¬ (kd = (-1)) → ∀ v8 : Int, v8 = (gA es1 80 (Int.toNat 0)).toInt → ¬ (kd < 0) → (v8 - 1) < kd → ∀ es12 : PH, es12 = sI es1 79 0 (.int (zI 1)) → Q (.inl (none), es12, kc, ks))
    (K6 : ∀ es1 : PH, es1 = sI es 79 0 (.int (zI 0)) → ¬ (sq < 0) → ¬ (35 < sq) → ¬ (kd = (-1)) → ∀ v8 : Int, v8 = (gA es1 80 (Int.toNat 0)).toInt → ¬ (kd < 0) → ¬ ((v8 - 1) < kd) → sd < 0 → ∀ es14 : PH, es14 = sI es1 79 0 (.int (zI 2)) → Q (.inl (none), es14, kc, ks))
    (K7 : ∀ es1 : PH, es1 = sI es 79 0 (.int (zI 0)) → ¬ (sq < 0) → ¬ (35 < sq) → ¬ (kd = (-1)) → ∀ v8 : Int, v8 = (gA es1 80 (Int.toNat 0)).toInt → ¬ (kd < 0) → ¬ ((v8 - 1) < kd) → ¬ (sd < 0) → 1 < sd → ∀ es16 : PH, es16 = sI es1 79 0 (.int (zI 2)) → Q (.inl (none), es16, kc, ks))
    (K8 : ∀ es1 : PH, es1 = sI es 79 0 (.int (zI 0)) → ¬ (sq < 0) → ¬ (35 < sq) → ¬ (kd = (-1)) → ∀ v8 : Int, v8 = (gA es1 80 (Int.toNat 0)).toInt → ¬ (kd < 0) → ¬ ((v8 - 1) < kd) → ¬ (sd < 0) → ¬ (1 < sd) → ∀ es17 : PH, es17 = sA es1 80 (13 + sq).toNat (zI ((2 * kd) + sd)) → Q (.inl (none), es17, kc, ks)) :
    aW O (d + 3) 196 kc ks Q (0, [some (.ref 143), some (.int (zI sq)), some (.int (zI kd)), some (.int (zI sd))], [], es) := by
  refine x0 (r := (1, [some (.ref 143), some (.int (zI sq)), some (.int (zI kd)), some (.int (zI sd))], [.ref 143], es)) i_196_0 rfl ?_
  refine x0 (r := (2, [some (.ref 143), some (.int (zI sq)), some (.int (zI kd)), some (.int (zI sd))], [.int (zI 0), .ref 143], es)) i_196_1 (by rfl) ?_
  refine x_puti (p := 79) (ty := .int) i_196_2 hs_es rfl rfl rfl (Or.inl rfl) ?_
  obtain ⟨es1, e_es1⟩ : ∃ z : PH, z = sI es 79 0 (.int (zI 0)) := ⟨_, rfl⟩
  have hs_es1 : sh es1 := by rw [e_es1]; exact sh_sI hs_es (p := 79) (b := 0) rfl rfl
  have hT_es1 : hOK tT es1 := by rw [e_es1]; exact hOK_sI hT_es (p := 79) (b := 0) (lo := iLO) (hi := iHI) rfl rfl (i32_rng _)
  rw [← e_es1]
  refine x0 (r := (6, [some (.ref 143), some (.int (zI sq)), some (.int (zI kd)), some (.int (zI sd))], [.ref 143], es1)) i_196_5 rfl ?_
  refine x0 (r := (7, [some (.ref 143), some (.int (zI sq)), some (.int (zI kd)), some (.int (zI sd))], [.int (zI sq), .ref 143], es1)) i_196_6 rfl ?_
  refine x_call (vs := [.int (zI sq)]) (rs := [.ref 143]) i_196_7 rfl (fun _ => rfl) rfl rfl rfl rfl rfl rfl ?_
  show aW _ _ _ _ _ _ (0, [some (.int (zI sq))], [], es1)
  refine x0 (r := (1, [some (.int (zI sq))], [.int (zI sq)], es1)) i_197_0 rfl ?_
  refine x0 (r := (2, [some (.int (zI sq))], [.int (zI 0), .int (zI sq)], es1)) i_197_1 (by rfl) ?_
  refine x0 (r := (4, [some (.int (zI sq))], [.int (zI 35), .int (zI 0), .int (zI sq)], es1)) i_197_2 (by rfl) ?_
  refine x_call (vs := [.int (zI sq), .int (zI 0), .int (zI 35)]) (rs := []) i_197_4 rfl (fun _ => rfl) rfl rfl rfl rfl rfl rfl ?_
  show aW _ _ _ _ _ _ (0, [some (.int (zI sq)), some (.int (zI 0)), some (.int (zI 35))], [], es1)
  refine x0 (r := (1, [some (.int (zI sq)), some (.int (zI 0)), some (.int (zI 35))], [.int (zI sq)], es1)) i_193_0 rfl ?_
  refine x0 (r := (2, [some (.int (zI sq)), some (.int (zI 0)), some (.int (zI 35))], [.int (zI 0), .int (zI sq)], es1)) i_193_1 rfl ?_
  by_cases c2 : sq < 0
  · refine x_cmpT i_193_2 (by unfold i32 iLO iHI; omega) (by unfold i32 iLO iHI; omega) rfl (by simp only [zC, cR]; omega) ?_
    refine x0 (r := (15, [some (.int (zI sq)), some (.int (zI 0)), some (.int (zI 35))], [.int (zI 0)], es1)) i_193_14 (by rfl) ?_
    refine x_ret (v := some (.int (zI 0))) i_193_15 rfl (fun _ => rfl) rfl rfl (pFin_b (by omega)) ?_
    show aW _ _ _ _ _ _ (7, [some (.int (zI sq))], [.int (zI 0)], es1)
    refine x_ifF i_197_7 (by unfold i32 iLO iHI; omega) rfl (by simp only [zC, cR]; omega) ?_
    refine x0 (r := (11, [some (.int (zI sq))], [.int (zI 1)], es1)) i_197_10 (by rfl) ?_
    refine x0 (r := (15, [some (.int (zI sq))], [.int (zI 1)], es1)) i_197_11 rfl ?_
    refine x_ret (v := some (.int (zI 1))) i_197_15 rfl (fun _ => rfl) rfl rfl (pFin_b (by omega)) ?_
    show aW _ _ _ _ _ _ (10, [some (.ref 143), some (.int (zI sq)), some (.int (zI kd)), some (.int (zI sd))], [.int (zI 1), .ref 143], es1)
    refine x_ifT i_196_10 (by unfold i32 iLO iHI; omega) rfl (by simp only [zC, cR]; omega) ?_
    refine x0 (r := (27, [some (.ref 143), some (.int (zI sq)), some (.int (zI kd)), some (.int (zI sd))], [.int (zI 1), .ref 143], es1)) i_196_26 (by rfl) ?_
    refine x0 (r := (31, [some (.ref 143), some (.int (zI sq)), some (.int (zI kd)), some (.int (zI sd))], [.int (zI 1), .ref 143], es1)) i_196_27 rfl ?_
    refine x0 (r := (32, [some (.ref 143), some (.int (zI sq)), some (.int (zI kd)), some (.int (zI sd))], [.int (zI 1), .int (zI 1), .ref 143], es1)) i_196_31 (by rfl) ?_
    refine x_call (vs := [.ref 143, .int (zI 1), .int (zI 1)]) (rs := []) i_196_32 rfl (fun _ => rfl) rfl rfl rfl rfl rfl (pCall_v (p := 79) hs_es1 rfl rfl rfl rfl rfl (by decide) rfl rfl rfl rfl rfl) ?_
    show aW _ _ _ _ _ _ (0, [some (.ref 143), some (.int (zI 1)), some (.int (zI 1))], [], es1)
    refine x0 (r := (1, [some (.ref 143), some (.int (zI 1)), some (.int (zI 1))], [.int (zI 1)], es1)) i_194_0 rfl ?_
    refine x_ifF i_194_1 (by unfold i32 iLO iHI; omega) rfl (by simp only [zC, cR]; omega) ?_
    refine x0 (r := (5, [some (.ref 143), some (.int (zI 1)), some (.int (zI 1))], [.ref 143], es1)) i_194_4 rfl ?_
    refine x0 (r := (6, [some (.ref 143), some (.int (zI 1)), some (.int (zI 1))], [.int (zI 1), .ref 143], es1)) i_194_5 rfl ?_
    refine x_puti (p := 79) (ty := .int) i_194_6 hs_es1 rfl rfl rfl (Or.inl rfl) ?_
    obtain ⟨es3, e_es3⟩ : ∃ z : PH, z = sI es1 79 0 (.int (zI 1)) := ⟨_, rfl⟩
    have hs_es3 : sh es3 := by rw [e_es3]; exact sh_sI hs_es1 (p := 79) (b := 0) rfl rfl
    have hT_es3 : hOK tT es3 := by rw [e_es3]; exact hOK_sI hT_es1 (p := 79) (b := 0) (lo := iLO) (hi := iHI) rfl rfl (i32_rng _)
    rw [← e_es3]
    refine x0 (r := (10, [some (.ref 143), some (.int (zI 1)), some (.int (zI 1))], [.int (zI 1)], es3)) i_194_9 rfl ?_
    refine x_ret (v := some (.int (zI 1))) i_194_10 rfl (fun _ => rfl) rfl rfl (pFin_b (by omega)) ?_
    show aW _ _ _ _ _ _ (35, [some (.ref 143), some (.int (zI sq)), some (.int (zI kd)), some (.int (zI sd))], [.int (zI 1)], es3)
    refine x_ifT i_196_35 (by unfold i32 iLO iHI; omega) rfl (by simp only [zC, cR]; omega) ?_
    refine x_ret (v := none) i_196_65 rfl (fun _ => rfl) rfl rfl rfl ?_
    exact K1 es1 e_es1 c2 es3 e_es3
  · refine x_cmpF i_193_2 (by unfold i32 iLO iHI; omega) (by unfold i32 iLO iHI; omega) rfl (by simp only [zC, cR]; omega) ?_
    refine x0 (r := (6, [some (.int (zI sq)), some (.int (zI 0)), some (.int (zI 35))], [.int (zI sq)], es1)) i_193_5 rfl ?_
    refine x0 (r := (7, [some (.int (zI sq)), some (.int (zI 0)), some (.int (zI 35))], [.int (zI 35), .int (zI sq)], es1)) i_193_6 rfl ?_
    by_cases c4 : 35 < sq
    · refine x_cmpT i_193_7 (by unfold i32 iLO iHI; omega) (by unfold i32 iLO iHI; omega) rfl (by simp only [zC, cR]; omega) ?_
      refine x0 (r := (15, [some (.int (zI sq)), some (.int (zI 0)), some (.int (zI 35))], [.int (zI 0)], es1)) i_193_14 (by rfl) ?_
      refine x_ret (v := some (.int (zI 0))) i_193_15 rfl (fun _ => rfl) rfl rfl (pFin_b (by omega)) ?_
      show aW _ _ _ _ _ _ (7, [some (.int (zI sq))], [.int (zI 0)], es1)
      refine x_ifF i_197_7 (by unfold i32 iLO iHI; omega) rfl (by simp only [zC, cR]; omega) ?_
      refine x0 (r := (11, [some (.int (zI sq))], [.int (zI 1)], es1)) i_197_10 (by rfl) ?_
      refine x0 (r := (15, [some (.int (zI sq))], [.int (zI 1)], es1)) i_197_11 rfl ?_
      refine x_ret (v := some (.int (zI 1))) i_197_15 rfl (fun _ => rfl) rfl rfl (pFin_b (by omega)) ?_
      show aW _ _ _ _ _ _ (10, [some (.ref 143), some (.int (zI sq)), some (.int (zI kd)), some (.int (zI sd))], [.int (zI 1), .ref 143], es1)
      refine x_ifT i_196_10 (by unfold i32 iLO iHI; omega) rfl (by simp only [zC, cR]; omega) ?_
      refine x0 (r := (27, [some (.ref 143), some (.int (zI sq)), some (.int (zI kd)), some (.int (zI sd))], [.int (zI 1), .ref 143], es1)) i_196_26 (by rfl) ?_
      refine x0 (r := (31, [some (.ref 143), some (.int (zI sq)), some (.int (zI kd)), some (.int (zI sd))], [.int (zI 1), .ref 143], es1)) i_196_27 rfl ?_
      refine x0 (r := (32, [some (.ref 143), some (.int (zI sq)), some (.int (zI kd)), some (.int (zI sd))], [.int (zI 1), .int (zI 1), .ref 143], es1)) i_196_31 (by rfl) ?_
      refine x_call (vs := [.ref 143, .int (zI 1), .int (zI 1)]) (rs := []) i_196_32 rfl (fun _ => rfl) rfl rfl rfl rfl rfl (pCall_v (p := 79) hs_es1 rfl rfl rfl rfl rfl (by decide) rfl rfl rfl rfl rfl) ?_
      show aW _ _ _ _ _ _ (0, [some (.ref 143), some (.int (zI 1)), some (.int (zI 1))], [], es1)
      refine x0 (r := (1, [some (.ref 143), some (.int (zI 1)), some (.int (zI 1))], [.int (zI 1)], es1)) i_194_0 rfl ?_
      refine x_ifF i_194_1 (by unfold i32 iLO iHI; omega) rfl (by simp only [zC, cR]; omega) ?_
      refine x0 (r := (5, [some (.ref 143), some (.int (zI 1)), some (.int (zI 1))], [.ref 143], es1)) i_194_4 rfl ?_
      refine x0 (r := (6, [some (.ref 143), some (.int (zI 1)), some (.int (zI 1))], [.int (zI 1), .ref 143], es1)) i_194_5 rfl ?_
      refine x_puti (p := 79) (ty := .int) i_194_6 hs_es1 rfl rfl rfl (Or.inl rfl) ?_
      obtain ⟨es5, e_es5⟩ : ∃ z : PH, z = sI es1 79 0 (.int (zI 1)) := ⟨_, rfl⟩
      have hs_es5 : sh es5 := by rw [e_es5]; exact sh_sI hs_es1 (p := 79) (b := 0) rfl rfl
      have hT_es5 : hOK tT es5 := by rw [e_es5]; exact hOK_sI hT_es1 (p := 79) (b := 0) (lo := iLO) (hi := iHI) rfl rfl (i32_rng _)
      rw [← e_es5]
      refine x0 (r := (10, [some (.ref 143), some (.int (zI 1)), some (.int (zI 1))], [.int (zI 1)], es5)) i_194_9 rfl ?_
      refine x_ret (v := some (.int (zI 1))) i_194_10 rfl (fun _ => rfl) rfl rfl (pFin_b (by omega)) ?_
      show aW _ _ _ _ _ _ (35, [some (.ref 143), some (.int (zI sq)), some (.int (zI kd)), some (.int (zI sd))], [.int (zI 1)], es5)
      refine x_ifT i_196_35 (by unfold i32 iLO iHI; omega) rfl (by simp only [zC, cR]; omega) ?_
      refine x_ret (v := none) i_196_65 rfl (fun _ => rfl) rfl rfl rfl ?_
      exact K2 es1 e_es1 c2 c4 es5 e_es5
    · refine x_cmpF i_193_7 (by unfold i32 iLO iHI; omega) (by unfold i32 iLO iHI; omega) rfl (by simp only [zC, cR]; omega) ?_
      refine x0 (r := (11, [some (.int (zI sq)), some (.int (zI 0)), some (.int (zI 35))], [.int (zI 1)], es1)) i_193_10 (by rfl) ?_
      refine x0 (r := (15, [some (.int (zI sq)), some (.int (zI 0)), some (.int (zI 35))], [.int (zI 1)], es1)) i_193_11 rfl ?_
      refine x_ret (v := some (.int (zI 1))) i_193_15 rfl (fun _ => rfl) rfl rfl (pFin_b (by omega)) ?_
      show aW _ _ _ _ _ _ (7, [some (.int (zI sq))], [.int (zI 1)], es1)
      refine x_ifT i_197_7 (by unfold i32 iLO iHI; omega) rfl (by simp only [zC, cR]; omega) ?_
      refine x0 (r := (15, [some (.int (zI sq))], [.int (zI 0)], es1)) i_197_14 (by rfl) ?_
      refine x_ret (v := some (.int (zI 0))) i_197_15 rfl (fun _ => rfl) rfl rfl (pFin_b (by omega)) ?_
      show aW _ _ _ _ _ _ (10, [some (.ref 143), some (.int (zI sq)), some (.int (zI kd)), some (.int (zI sd))], [.int (zI 0), .ref 143], es1)
      refine x_ifF i_196_10 (by unfold i32 iLO iHI; omega) rfl (by simp only [zC, cR]; omega) ?_
      refine x0 (r := (14, [some (.ref 143), some (.int (zI sq)), some (.int (zI kd)), some (.int (zI sd))], [.int (zI kd), .ref 143], es1)) i_196_13 rfl ?_
      refine x0 (r := (15, [some (.ref 143), some (.int (zI sq)), some (.int (zI kd)), some (.int (zI sd))], [.int (zI (-1)), .int (zI kd), .ref 143], es1)) i_196_14 (by rfl) ?_
      by_cases c6 : kd = (-1)
      · refine x_cmpT i_196_15 (by unfold i32 iLO iHI; omega) (by unfold i32 iLO iHI; omega) rfl (by simp only [zC, cR]; omega) ?_
        refine x0 (r := (31, [some (.ref 143), some (.int (zI sq)), some (.int (zI kd)), some (.int (zI sd))], [.int (zI 0), .ref 143], es1)) i_196_30 (by rfl) ?_
        refine x0 (r := (32, [some (.ref 143), some (.int (zI sq)), some (.int (zI kd)), some (.int (zI sd))], [.int (zI 1), .int (zI 0), .ref 143], es1)) i_196_31 (by rfl) ?_
        refine x_call (vs := [.ref 143, .int (zI 0), .int (zI 1)]) (rs := []) i_196_32 rfl (fun _ => rfl) rfl rfl rfl rfl rfl (pCall_v (p := 79) hs_es1 rfl rfl rfl rfl rfl (by decide) rfl rfl rfl rfl rfl) ?_
        show aW _ _ _ _ _ _ (0, [some (.ref 143), some (.int (zI 0)), some (.int (zI 1))], [], es1)
        refine x0 (r := (1, [some (.ref 143), some (.int (zI 0)), some (.int (zI 1))], [.int (zI 0)], es1)) i_194_0 rfl ?_
        refine x_ifT i_194_1 (by unfold i32 iLO iHI; omega) rfl (by simp only [zC, cR]; omega) ?_
        refine x0 (r := (10, [some (.ref 143), some (.int (zI 0)), some (.int (zI 1))], [.int (zI 0)], es1)) i_194_9 rfl ?_
        refine x_ret (v := some (.int (zI 0))) i_194_10 rfl (fun _ => rfl) rfl rfl (pFin_b (by omega)) ?_
        show aW _ _ _ _ _ _ (35, [some (.ref 143), some (.int (zI sq)), some (.int (zI kd)), some (.int (zI sd))], [.int (zI 0)], es1)
        refine x_ifF i_196_35 (by unfold i32 iLO iHI; omega) rfl (by simp only [zC, cR]; omega) ?_
        refine x0 (r := (39, [some (.ref 143), some (.int (zI sq)), some (.int (zI kd)), some (.int (zI sd))], [.ref 143], es1)) i_196_38 rfl ?_
        refine x0 (r := (40, [some (.ref 143), some (.int (zI sq)), some (.int (zI kd)), some (.int (zI sd))], [.int (zI kd), .ref 143], es1)) i_196_39 rfl ?_
        refine x0 (r := (41, [some (.ref 143), some (.int (zI sq)), some (.int (zI kd)), some (.int (zI sd))], [.int (zI (-1)), .int (zI kd), .ref 143], es1)) i_196_40 (by rfl) ?_
        refine x_cmpT i_196_41 (by unfold i32 iLO iHI; omega) (by unfold i32 iLO iHI; omega) rfl (by simp only [zC, cR]; omega) ?_
        refine x0 (r := (58, [some (.ref 143), some (.int (zI sq)), some (.int (zI kd)), some (.int (zI sd))], [.int (zI 0), .ref 143], es1)) i_196_57 (by rfl) ?_
        refine x0 (r := (59, [some (.ref 143), some (.int (zI sq)), some (.int (zI kd)), some (.int (zI sd))], [.int (zI 2), .int (zI 0), .ref 143], es1)) i_196_58 (by rfl) ?_
        refine x_call (vs := [.ref 143, .int (zI 0), .int (zI 2)]) (rs := []) i_196_59 rfl (fun _ => rfl) rfl rfl rfl rfl rfl (pCall_v (p := 79) hs_es1 rfl rfl rfl rfl rfl (by decide) rfl rfl rfl rfl rfl) ?_
        show aW _ _ _ _ _ _ (0, [some (.ref 143), some (.int (zI 0)), some (.int (zI 2))], [], es1)
        refine x0 (r := (1, [some (.ref 143), some (.int (zI 0)), some (.int (zI 2))], [.int (zI 0)], es1)) i_194_0 rfl ?_
        refine x_ifT i_194_1 (by unfold i32 iLO iHI; omega) rfl (by simp only [zC, cR]; omega) ?_
        refine x0 (r := (10, [some (.ref 143), some (.int (zI 0)), some (.int (zI 2))], [.int (zI 0)], es1)) i_194_9 rfl ?_
        refine x_ret (v := some (.int (zI 0))) i_194_10 rfl (fun _ => rfl) rfl rfl (pFin_b (by omega)) ?_
        show aW _ _ _ _ _ _ (62, [some (.ref 143), some (.int (zI sq)), some (.int (zI kd)), some (.int (zI sd))], [.int (zI 0)], es1)
        refine x_ifT i_196_62 (by unfold i32 iLO iHI; omega) rfl (by simp only [zC, cR]; omega) ?_
        refine x0 (r := (67, [some (.ref 143), some (.int (zI sq)), some (.int (zI kd)), some (.int (zI sd))], [.ref 143], es1)) i_196_66 rfl ?_
        refine x_getr (p := 79) (k := 144) i_196_67 hs_es1 rfl rfl ?_
        show aW _ _ _ _ _ _ (70, [some (.ref 143), some (.int (zI sq)), some (.int (zI kd)), some (.int (zI sd))], [.ref 144], es1)
        refine x0 (r := (72, [some (.ref 143), some (.int (zI sq)), some (.int (zI kd)), some (.int (zI sd))], [.int (zI 13), .ref 144], es1)) i_196_70 (by rfl) ?_
        refine x0 (r := (73, [some (.ref 143), some (.int (zI sq)), some (.int (zI kd)), some (.int (zI sd))], [.int (zI sq), .int (zI 13), .ref 144], es1)) i_196_72 rfl ?_
        refine x_iadd i_196_73 ?_
        refine x0 (r := (75, [some (.ref 143), some (.int (zI sq)), some (.int (zI kd)), some (.int (zI sd))], [.int (zI kd), .int (zI (13 + sq)), .ref 144], es1)) i_196_74 rfl ?_
        refine x0 (r := (76, [some (.ref 143), some (.int (zI sq)), some (.int (zI kd)), some (.int (zI sd))], [.int (zI sd), .int (zI kd), .int (zI (13 + sq)), .ref 144], es1)) i_196_75 rfl ?_
        refine x_call (vs := [.int (zI kd), .int (zI sd)]) (rs := [.int (zI (13 + sq)), .ref 144]) i_196_76 rfl (fun _ => rfl) rfl rfl rfl rfl rfl rfl ?_
        show aW _ _ _ _ _ _ (0, [some (.int (zI kd)), some (.int (zI sd))], [], es1)
        refine x0 (r := (1, [some (.int (zI kd)), some (.int (zI sd))], [.int (zI kd)], es1)) i_200_0 rfl ?_
        refine x_ifF i_200_1 (by unfold i32 iLO iHI; omega) rfl (by simp only [zC, cR]; omega) ?_
        refine x0 (r := (5, [some (.int (zI kd)), some (.int (zI sd))], [.int (zI (-1))], es1)) i_200_4 (by rfl) ?_
        refine x0 (r := (13, [some (.int (zI kd)), some (.int (zI sd))], [.int (zI (-1))], es1)) i_200_5 rfl ?_
        refine x_ret (v := some (.int (zI (-1)))) i_200_13 rfl (fun _ => rfl) rfl rfl rfl ?_
        show aW _ _ _ _ _ _ (79, [some (.ref 143), some (.int (zI sq)), some (.int (zI kd)), some (.int (zI sd))], [.int (zI (-1)), .int (zI (13 + sq)), .ref 144], es1)
        refine x_iast (p := 80) i_196_79 hs_es1 rfl (by unfold i32 iLO iHI; omega) (by omega) (by omega) ?_
        obtain ⟨es7, e_es7⟩ : ∃ z : PH, z = sA es1 80 (13 + sq).toNat (zI (-1)) := ⟨_, rfl⟩
        have hs_es7 : sh es7 := by rw [e_es7]; exact sh_sA hs_es1
        rw [← e_es7]
        refine x_ret (v := none) i_196_80 rfl (fun _ => rfl) rfl rfl rfl ?_
        exact K3 es1 e_es1 c2 c4 c6 es7 e_es7
      · refine x_cmpF i_196_15 (by unfold i32 iLO iHI; omega) (by unfold i32 iLO iHI; omega) rfl (by simp only [zC, cR]; omega) ?_
        refine x0 (r := (19, [some (.ref 143), some (.int (zI sq)), some (.int (zI kd)), some (.int (zI sd))], [.ref 143, .ref 143], es1)) i_196_18 rfl ?_
        refine x0 (r := (20, [some (.ref 143), some (.int (zI sq)), some (.int (zI kd)), some (.int (zI sd))], [.int (zI kd), .ref 143, .ref 143], es1)) i_196_19 rfl ?_
        refine x_call (vs := [.ref 143, .int (zI kd)]) (rs := [.ref 143]) i_196_20 rfl (fun _ => rfl) rfl rfl rfl rfl rfl (pCall_v (p := 79) hs_es1 rfl rfl rfl rfl rfl (by decide) rfl rfl rfl rfl rfl) ?_
        show aW _ _ _ _ _ _ (0, [some (.ref 143), some (.int (zI kd))], [], es1)
        refine x0 (r := (1, [some (.ref 143), some (.int (zI kd))], [.ref 143], es1)) i_198_0 rfl ?_
        refine x0 (r := (2, [some (.ref 143), some (.int (zI kd))], [.int (zI kd), .ref 143], es1)) i_198_1 rfl ?_
        refine x0 (r := (3, [some (.ref 143), some (.int (zI kd))], [.int (zI 0), .int (zI kd), .ref 143], es1)) i_198_2 (by rfl) ?_
        refine x_call (vs := [.ref 143, .int (zI kd), .int (zI 0)]) (rs := []) i_198_3 rfl (fun _ => rfl) rfl rfl rfl rfl rfl (pCall_v (p := 79) hs_es1 rfl rfl rfl rfl rfl (by decide) rfl rfl rfl rfl rfl) ?_
        show aW _ _ _ _ _ _ (0, [some (.ref 143), some (.int (zI kd)), some (.int (zI 0))], [], es1)
        refine x0 (r := (1, [some (.ref 143), some (.int (zI kd)), some (.int (zI 0))], [.int (zI kd)], es1)) i_199_0 rfl ?_
        refine x0 (r := (2, [some (.ref 143), some (.int (zI kd)), some (.int (zI 0))], [.int (zI 0), .int (zI kd)], es1)) i_199_1 (by rfl) ?_
        refine x0 (r := (3, [some (.ref 143), some (.int (zI kd)), some (.int (zI 0))], [.ref 143, .int (zI 0), .int (zI kd)], es1)) i_199_2 rfl ?_
        refine x_getr (p := 79) (k := 144) i_199_3 hs_es1 rfl rfl ?_
        show aW _ _ _ _ _ _ (6, [some (.ref 143), some (.int (zI kd)), some (.int (zI 0))], [.ref 144, .int (zI 0), .int (zI kd)], es1)
        refine x0 (r := (7, [some (.ref 143), some (.int (zI kd)), some (.int (zI 0))], [.int (zI 0), .ref 144, .int (zI 0), .int (zI kd)], es1)) i_199_6 rfl ?_
        refine x_iald (p := 80) i_199_7 hs_es1 rfl (by unfold i32 iLO iHI; omega) (by omega) (by omega) ?_
        obtain ⟨v8, e_v8⟩ : ∃ z : Int, z = (gA es1 80 (Int.toNat 0)).toInt := ⟨_, rfl⟩
        rw [← e_v8]
        have r_v8 : iLO ≤ v8 ∧ v8 ≤ iHI := by rw [e_v8]; exact i32_rng _
        unfold iLO iHI at r_v8
        have b_v8 : (0 : Int) ≤ v8 ∧ v8 ≤ (5 : Int) := by rw [e_v8]; exact gA_bd hT_es1 (p := 80) (k := (Int.toNat 0)) rfl (by omega) (by decide)
        refine x0 (r := (9, [some (.ref 143), some (.int (zI kd)), some (.int (zI 0))], [.int (zI 1), .int (zI v8), .int (zI 0), .int (zI kd)], es1)) i_199_8 (by rfl) ?_
        refine x_isub i_199_9 ?_
        refine x_call (vs := [.int (zI kd), .int (zI 0), .int (zI (v8 - 1))]) (rs := []) i_199_10 rfl (fun _ => rfl) rfl rfl rfl rfl rfl rfl ?_
        show aW _ _ _ _ _ _ (0, [some (.int (zI kd)), some (.int (zI 0)), some (.int (zI (v8 - 1)))], [], es1)
        refine x0 (r := (1, [some (.int (zI kd)), some (.int (zI 0)), some (.int (zI (v8 - 1)))], [.int (zI kd)], es1)) i_193_0 rfl ?_
        refine x0 (r := (2, [some (.int (zI kd)), some (.int (zI 0)), some (.int (zI (v8 - 1)))], [.int (zI 0), .int (zI kd)], es1)) i_193_1 rfl ?_
        by_cases c9 : kd < 0
        · refine x_cmpT i_193_2 (by unfold i32 iLO iHI; omega) (by unfold i32 iLO iHI; omega) rfl (by simp only [zC, cR]; omega) ?_
          refine x0 (r := (15, [some (.int (zI kd)), some (.int (zI 0)), some (.int (zI (v8 - 1)))], [.int (zI 0)], es1)) i_193_14 (by rfl) ?_
          refine x_ret (v := some (.int (zI 0))) i_193_15 rfl (fun _ => rfl) rfl rfl (pFin_b (by omega)) ?_
          show aW _ _ _ _ _ _ (13, [some (.ref 143), some (.int (zI kd)), some (.int (zI 0))], [.int (zI 0)], es1)
          refine x_ifF i_199_13 (by unfold i32 iLO iHI; omega) rfl (by simp only [zC, cR]; omega) ?_
          refine x0 (r := (17, [some (.ref 143), some (.int (zI kd)), some (.int (zI 0))], [.int (zI 1)], es1)) i_199_16 (by rfl) ?_
          refine x0 (r := (21, [some (.ref 143), some (.int (zI kd)), some (.int (zI 0))], [.int (zI 1)], es1)) i_199_17 rfl ?_
          refine x_ret (v := some (.int (zI 1))) i_199_21 rfl (fun _ => rfl) rfl rfl (pFin_b (by omega)) ?_
          show aW _ _ _ _ _ _ (6, [some (.ref 143), some (.int (zI kd))], [.int (zI 1)], es1)
          refine x_ret (v := some (.int (zI 1))) i_198_6 rfl (fun _ => rfl) rfl rfl (pFin_b (by omega)) ?_
          show aW _ _ _ _ _ _ (23, [some (.ref 143), some (.int (zI sq)), some (.int (zI kd)), some (.int (zI sd))], [.int (zI 1), .ref 143], es1)
          refine x_ifF i_196_23 (by unfold i32 iLO iHI; omega) rfl (by simp only [zC, cR]; omega) ?_
          refine x0 (r := (27, [some (.ref 143), some (.int (zI sq)), some (.int (zI kd)), some (.int (zI sd))], [.int (zI 1), .ref 143], es1)) i_196_26 (by rfl) ?_
          refine x0 (r := (31, [some (.ref 143), some (.int (zI sq)), some (.int (zI kd)), some (.int (zI sd))], [.int (zI 1), .ref 143], es1)) i_196_27 rfl ?_
          refine x0 (r := (32, [some (.ref 143), some (.int (zI sq)), some (.int (zI kd)), some (.int (zI sd))], [.int (zI 1), .int (zI 1), .ref 143], es1)) i_196_31 (by rfl) ?_
          refine x_call (vs := [.ref 143, .int (zI 1), .int (zI 1)]) (rs := []) i_196_32 rfl (fun _ => rfl) rfl rfl rfl rfl rfl (pCall_v (p := 79) hs_es1 rfl rfl rfl rfl rfl (by decide) rfl rfl rfl rfl rfl) ?_
          show aW _ _ _ _ _ _ (0, [some (.ref 143), some (.int (zI 1)), some (.int (zI 1))], [], es1)
          refine x0 (r := (1, [some (.ref 143), some (.int (zI 1)), some (.int (zI 1))], [.int (zI 1)], es1)) i_194_0 rfl ?_
          refine x_ifF i_194_1 (by unfold i32 iLO iHI; omega) rfl (by simp only [zC, cR]; omega) ?_
          refine x0 (r := (5, [some (.ref 143), some (.int (zI 1)), some (.int (zI 1))], [.ref 143], es1)) i_194_4 rfl ?_
          refine x0 (r := (6, [some (.ref 143), some (.int (zI 1)), some (.int (zI 1))], [.int (zI 1), .ref 143], es1)) i_194_5 rfl ?_
          refine x_puti (p := 79) (ty := .int) i_194_6 hs_es1 rfl rfl rfl (Or.inl rfl) ?_
          obtain ⟨es10, e_es10⟩ : ∃ z : PH, z = sI es1 79 0 (.int (zI 1)) := ⟨_, rfl⟩
          have hs_es10 : sh es10 := by rw [e_es10]; exact sh_sI hs_es1 (p := 79) (b := 0) rfl rfl
          have hT_es10 : hOK tT es10 := by rw [e_es10]; exact hOK_sI hT_es1 (p := 79) (b := 0) (lo := iLO) (hi := iHI) rfl rfl (i32_rng _)
          rw [← e_es10]
          refine x0 (r := (10, [some (.ref 143), some (.int (zI 1)), some (.int (zI 1))], [.int (zI 1)], es10)) i_194_9 rfl ?_
          refine x_ret (v := some (.int (zI 1))) i_194_10 rfl (fun _ => rfl) rfl rfl (pFin_b (by omega)) ?_
          show aW _ _ _ _ _ _ (35, [some (.ref 143), some (.int (zI sq)), some (.int (zI kd)), some (.int (zI sd))], [.int (zI 1)], es10)
          refine x_ifT i_196_35 (by unfold i32 iLO iHI; omega) rfl (by simp only [zC, cR]; omega) ?_
          refine x_ret (v := none) i_196_65 rfl (fun _ => rfl) rfl rfl rfl ?_
          exact K4 es1 e_es1 c2 c4 c6 v8 e_v8 c9 es10 e_es10
        · refine x_cmpF i_193_2 (by unfold i32 iLO iHI; omega) (by unfold i32 iLO iHI; omega) rfl (by simp only [zC, cR]; omega) ?_
          refine x0 (r := (6, [some (.int (zI kd)), some (.int (zI 0)), some (.int (zI (v8 - 1)))], [.int (zI kd)], es1)) i_193_5 rfl ?_
          refine x0 (r := (7, [some (.int (zI kd)), some (.int (zI 0)), some (.int (zI (v8 - 1)))], [.int (zI (v8 - 1)), .int (zI kd)], es1)) i_193_6 rfl ?_
          by_cases c11 : (v8 - 1) < kd
          · refine x_cmpT i_193_7 (by unfold i32 iLO iHI; omega) (by unfold i32 iLO iHI; omega) rfl (by simp only [zC, cR]; omega) ?_
            refine x0 (r := (15, [some (.int (zI kd)), some (.int (zI 0)), some (.int (zI (v8 - 1)))], [.int (zI 0)], es1)) i_193_14 (by rfl) ?_
            refine x_ret (v := some (.int (zI 0))) i_193_15 rfl (fun _ => rfl) rfl rfl (pFin_b (by omega)) ?_
            show aW _ _ _ _ _ _ (13, [some (.ref 143), some (.int (zI kd)), some (.int (zI 0))], [.int (zI 0)], es1)
            refine x_ifF i_199_13 (by unfold i32 iLO iHI; omega) rfl (by simp only [zC, cR]; omega) ?_
            refine x0 (r := (17, [some (.ref 143), some (.int (zI kd)), some (.int (zI 0))], [.int (zI 1)], es1)) i_199_16 (by rfl) ?_
            refine x0 (r := (21, [some (.ref 143), some (.int (zI kd)), some (.int (zI 0))], [.int (zI 1)], es1)) i_199_17 rfl ?_
            refine x_ret (v := some (.int (zI 1))) i_199_21 rfl (fun _ => rfl) rfl rfl (pFin_b (by omega)) ?_
            show aW _ _ _ _ _ _ (6, [some (.ref 143), some (.int (zI kd))], [.int (zI 1)], es1)
            refine x_ret (v := some (.int (zI 1))) i_198_6 rfl (fun _ => rfl) rfl rfl (pFin_b (by omega)) ?_
            show aW _ _ _ _ _ _ (23, [some (.ref 143), some (.int (zI sq)), some (.int (zI kd)), some (.int (zI sd))], [.int (zI 1), .ref 143], es1)
            refine x_ifF i_196_23 (by unfold i32 iLO iHI; omega) rfl (by simp only [zC, cR]; omega) ?_
            refine x0 (r := (27, [some (.ref 143), some (.int (zI sq)), some (.int (zI kd)), some (.int (zI sd))], [.int (zI 1), .ref 143], es1)) i_196_26 (by rfl) ?_
            refine x0 (r := (31, [some (.ref 143), some (.int (zI sq)), some (.int (zI kd)), some (.int (zI sd))], [.int (zI 1), .ref 143], es1)) i_196_27 rfl ?_
            refine x0 (r := (32, [some (.ref 143), some (.int (zI sq)), some (.int (zI kd)), some (.int (zI sd))], [.int (zI 1), .int (zI 1), .ref 143], es1)) i_196_31 (by rfl) ?_
            refine x_call (vs := [.ref 143, .int (zI 1), .int (zI 1)]) (rs := []) i_196_32 rfl (fun _ => rfl) rfl rfl rfl rfl rfl (pCall_v (p := 79) hs_es1 rfl rfl rfl rfl rfl (by decide) rfl rfl rfl rfl rfl) ?_
            show aW _ _ _ _ _ _ (0, [some (.ref 143), some (.int (zI 1)), some (.int (zI 1))], [], es1)
            refine x0 (r := (1, [some (.ref 143), some (.int (zI 1)), some (.int (zI 1))], [.int (zI 1)], es1)) i_194_0 rfl ?_
            refine x_ifF i_194_1 (by unfold i32 iLO iHI; omega) rfl (by simp only [zC, cR]; omega) ?_
            refine x0 (r := (5, [some (.ref 143), some (.int (zI 1)), some (.int (zI 1))], [.ref 143], es1)) i_194_4 rfl ?_
            refine x0 (r := (6, [some (.ref 143), some (.int (zI 1)), some (.int (zI 1))], [.int (zI 1), .ref 143], es1)) i_194_5 rfl ?_
            refine x_puti (p := 79) (ty := .int) i_194_6 hs_es1 rfl rfl rfl (Or.inl rfl) ?_
            obtain ⟨es12, e_es12⟩ : ∃ z : PH, z = sI es1 79 0 (.int (zI 1)) := ⟨_, rfl⟩
            have hs_es12 : sh es12 := by rw [e_es12]; exact sh_sI hs_es1 (p := 79) (b := 0) rfl rfl
            have hT_es12 : hOK tT es12 := by rw [e_es12]; exact hOK_sI hT_es1 (p := 79) (b := 0) (lo := iLO) (hi := iHI) rfl rfl (i32_rng _)
            rw [← e_es12]
            refine x0 (r := (10, [some (.ref 143), some (.int (zI 1)), some (.int (zI 1))], [.int (zI 1)], es12)) i_194_9 rfl ?_
            refine x_ret (v := some (.int (zI 1))) i_194_10 rfl (fun _ => rfl) rfl rfl (pFin_b (by omega)) ?_
            show aW _ _ _ _ _ _ (35, [some (.ref 143), some (.int (zI sq)), some (.int (zI kd)), some (.int (zI sd))], [.int (zI 1)], es12)
            refine x_ifT i_196_35 (by unfold i32 iLO iHI; omega) rfl (by simp only [zC, cR]; omega) ?_
            refine x_ret (v := none) i_196_65 rfl (fun _ => rfl) rfl rfl rfl ?_
            exact K5 es1 e_es1 c2 c4 c6 v8 e_v8 c9 c11 es12 e_es12
          · refine x_cmpF i_193_7 (by unfold i32 iLO iHI; omega) (by unfold i32 iLO iHI; omega) rfl (by simp only [zC, cR]; omega) ?_
            refine x0 (r := (11, [some (.int (zI kd)), some (.int (zI 0)), some (.int (zI (v8 - 1)))], [.int (zI 1)], es1)) i_193_10 (by rfl) ?_
            refine x0 (r := (15, [some (.int (zI kd)), some (.int (zI 0)), some (.int (zI (v8 - 1)))], [.int (zI 1)], es1)) i_193_11 rfl ?_
            refine x_ret (v := some (.int (zI 1))) i_193_15 rfl (fun _ => rfl) rfl rfl (pFin_b (by omega)) ?_
            show aW _ _ _ _ _ _ (13, [some (.ref 143), some (.int (zI kd)), some (.int (zI 0))], [.int (zI 1)], es1)
            refine x_ifT i_199_13 (by unfold i32 iLO iHI; omega) rfl (by simp only [zC, cR]; omega) ?_
            refine x0 (r := (21, [some (.ref 143), some (.int (zI kd)), some (.int (zI 0))], [.int (zI 0)], es1)) i_199_20 (by rfl) ?_
            refine x_ret (v := some (.int (zI 0))) i_199_21 rfl (fun _ => rfl) rfl rfl (pFin_b (by omega)) ?_
            show aW _ _ _ _ _ _ (6, [some (.ref 143), some (.int (zI kd))], [.int (zI 0)], es1)
            refine x_ret (v := some (.int (zI 0))) i_198_6 rfl (fun _ => rfl) rfl rfl (pFin_b (by omega)) ?_
            show aW _ _ _ _ _ _ (23, [some (.ref 143), some (.int (zI sq)), some (.int (zI kd)), some (.int (zI sd))], [.int (zI 0), .ref 143], es1)
            refine x_ifT i_196_23 (by unfold i32 iLO iHI; omega) rfl (by simp only [zC, cR]; omega) ?_
            refine x0 (r := (31, [some (.ref 143), some (.int (zI sq)), some (.int (zI kd)), some (.int (zI sd))], [.int (zI 0), .ref 143], es1)) i_196_30 (by rfl) ?_
            refine x0 (r := (32, [some (.ref 143), some (.int (zI sq)), some (.int (zI kd)), some (.int (zI sd))], [.int (zI 1), .int (zI 0), .ref 143], es1)) i_196_31 (by rfl) ?_
            refine x_call (vs := [.ref 143, .int (zI 0), .int (zI 1)]) (rs := []) i_196_32 rfl (fun _ => rfl) rfl rfl rfl rfl rfl (pCall_v (p := 79) hs_es1 rfl rfl rfl rfl rfl (by decide) rfl rfl rfl rfl rfl) ?_
            show aW _ _ _ _ _ _ (0, [some (.ref 143), some (.int (zI 0)), some (.int (zI 1))], [], es1)
            refine x0 (r := (1, [some (.ref 143), some (.int (zI 0)), some (.int (zI 1))], [.int (zI 0)], es1)) i_194_0 rfl ?_
            refine x_ifT i_194_1 (by unfold i32 iLO iHI; omega) rfl (by simp only [zC, cR]; omega) ?_
            refine x0 (r := (10, [some (.ref 143), some (.int (zI 0)), some (.int (zI 1))], [.int (zI 0)], es1)) i_194_9 rfl ?_
            refine x_ret (v := some (.int (zI 0))) i_194_10 rfl (fun _ => rfl) rfl rfl (pFin_b (by omega)) ?_
            show aW _ _ _ _ _ _ (35, [some (.ref 143), some (.int (zI sq)), some (.int (zI kd)), some (.int (zI sd))], [.int (zI 0)], es1)
            refine x_ifF i_196_35 (by unfold i32 iLO iHI; omega) rfl (by simp only [zC, cR]; omega) ?_
            refine x0 (r := (39, [some (.ref 143), some (.int (zI sq)), some (.int (zI kd)), some (.int (zI sd))], [.ref 143], es1)) i_196_38 rfl ?_
            refine x0 (r := (40, [some (.ref 143), some (.int (zI sq)), some (.int (zI kd)), some (.int (zI sd))], [.int (zI kd), .ref 143], es1)) i_196_39 rfl ?_
            refine x0 (r := (41, [some (.ref 143), some (.int (zI sq)), some (.int (zI kd)), some (.int (zI sd))], [.int (zI (-1)), .int (zI kd), .ref 143], es1)) i_196_40 (by rfl) ?_
            refine x_cmpF i_196_41 (by unfold i32 iLO iHI; omega) (by unfold i32 iLO iHI; omega) rfl (by simp only [zC, cR]; omega) ?_
            refine x0 (r := (45, [some (.ref 143), some (.int (zI sq)), some (.int (zI kd)), some (.int (zI sd))], [.int (zI sd), .ref 143], es1)) i_196_44 rfl ?_
            refine x0 (r := (46, [some (.ref 143), some (.int (zI sq)), some (.int (zI kd)), some (.int (zI sd))], [.int (zI 0), .int (zI sd), .ref 143], es1)) i_196_45 (by rfl) ?_
            refine x0 (r := (47, [some (.ref 143), some (.int (zI sq)), some (.int (zI kd)), some (.int (zI sd))], [.int (zI 1), .int (zI 0), .int (zI sd), .ref 143], es1)) i_196_46 (by rfl) ?_
            refine x_call (vs := [.int (zI sd), .int (zI 0), .int (zI 1)]) (rs := [.ref 143]) i_196_47 rfl (fun _ => rfl) rfl rfl rfl rfl rfl rfl ?_
            show aW _ _ _ _ _ _ (0, [some (.int (zI sd)), some (.int (zI 0)), some (.int (zI 1))], [], es1)
            refine x0 (r := (1, [some (.int (zI sd)), some (.int (zI 0)), some (.int (zI 1))], [.int (zI sd)], es1)) i_193_0 rfl ?_
            refine x0 (r := (2, [some (.int (zI sd)), some (.int (zI 0)), some (.int (zI 1))], [.int (zI 0), .int (zI sd)], es1)) i_193_1 rfl ?_
            by_cases c13 : sd < 0
            · refine x_cmpT i_193_2 (by unfold i32 iLO iHI; omega) (by unfold i32 iLO iHI; omega) rfl (by simp only [zC, cR]; omega) ?_
              refine x0 (r := (15, [some (.int (zI sd)), some (.int (zI 0)), some (.int (zI 1))], [.int (zI 0)], es1)) i_193_14 (by rfl) ?_
              refine x_ret (v := some (.int (zI 0))) i_193_15 rfl (fun _ => rfl) rfl rfl (pFin_b (by omega)) ?_
              show aW _ _ _ _ _ _ (50, [some (.ref 143), some (.int (zI sq)), some (.int (zI kd)), some (.int (zI sd))], [.int (zI 0), .ref 143], es1)
              refine x_ifF i_196_50 (by unfold i32 iLO iHI; omega) rfl (by simp only [zC, cR]; omega) ?_
              refine x0 (r := (54, [some (.ref 143), some (.int (zI sq)), some (.int (zI kd)), some (.int (zI sd))], [.int (zI 1), .ref 143], es1)) i_196_53 (by rfl) ?_
              refine x0 (r := (58, [some (.ref 143), some (.int (zI sq)), some (.int (zI kd)), some (.int (zI sd))], [.int (zI 1), .ref 143], es1)) i_196_54 rfl ?_
              refine x0 (r := (59, [some (.ref 143), some (.int (zI sq)), some (.int (zI kd)), some (.int (zI sd))], [.int (zI 2), .int (zI 1), .ref 143], es1)) i_196_58 (by rfl) ?_
              refine x_call (vs := [.ref 143, .int (zI 1), .int (zI 2)]) (rs := []) i_196_59 rfl (fun _ => rfl) rfl rfl rfl rfl rfl (pCall_v (p := 79) hs_es1 rfl rfl rfl rfl rfl (by decide) rfl rfl rfl rfl rfl) ?_
              show aW _ _ _ _ _ _ (0, [some (.ref 143), some (.int (zI 1)), some (.int (zI 2))], [], es1)
              refine x0 (r := (1, [some (.ref 143), some (.int (zI 1)), some (.int (zI 2))], [.int (zI 1)], es1)) i_194_0 rfl ?_
              refine x_ifF i_194_1 (by unfold i32 iLO iHI; omega) rfl (by simp only [zC, cR]; omega) ?_
              refine x0 (r := (5, [some (.ref 143), some (.int (zI 1)), some (.int (zI 2))], [.ref 143], es1)) i_194_4 rfl ?_
              refine x0 (r := (6, [some (.ref 143), some (.int (zI 1)), some (.int (zI 2))], [.int (zI 2), .ref 143], es1)) i_194_5 rfl ?_
              refine x_puti (p := 79) (ty := .int) i_194_6 hs_es1 rfl rfl rfl (Or.inl rfl) ?_
              obtain ⟨es14, e_es14⟩ : ∃ z : PH, z = sI es1 79 0 (.int (zI 2)) := ⟨_, rfl⟩
              have hs_es14 : sh es14 := by rw [e_es14]; exact sh_sI hs_es1 (p := 79) (b := 0) rfl rfl
              have hT_es14 : hOK tT es14 := by rw [e_es14]; exact hOK_sI hT_es1 (p := 79) (b := 0) (lo := iLO) (hi := iHI) rfl rfl (i32_rng _)
              rw [← e_es14]
              refine x0 (r := (10, [some (.ref 143), some (.int (zI 1)), some (.int (zI 2))], [.int (zI 1)], es14)) i_194_9 rfl ?_
              refine x_ret (v := some (.int (zI 1))) i_194_10 rfl (fun _ => rfl) rfl rfl (pFin_b (by omega)) ?_
              show aW _ _ _ _ _ _ (62, [some (.ref 143), some (.int (zI sq)), some (.int (zI kd)), some (.int (zI sd))], [.int (zI 1)], es14)
              refine x_ifF i_196_62 (by unfold i32 iLO iHI; omega) rfl (by simp only [zC, cR]; omega) ?_
              refine x_ret (v := none) i_196_65 rfl (fun _ => rfl) rfl rfl rfl ?_
              exact K6 es1 e_es1 c2 c4 c6 v8 e_v8 c9 c11 c13 es14 e_es14
            · refine x_cmpF i_193_2 (by unfold i32 iLO iHI; omega) (by unfold i32 iLO iHI; omega) rfl (by simp only [zC, cR]; omega) ?_
              refine x0 (r := (6, [some (.int (zI sd)), some (.int (zI 0)), some (.int (zI 1))], [.int (zI sd)], es1)) i_193_5 rfl ?_
              refine x0 (r := (7, [some (.int (zI sd)), some (.int (zI 0)), some (.int (zI 1))], [.int (zI 1), .int (zI sd)], es1)) i_193_6 rfl ?_
              by_cases c15 : 1 < sd
              · refine x_cmpT i_193_7 (by unfold i32 iLO iHI; omega) (by unfold i32 iLO iHI; omega) rfl (by simp only [zC, cR]; omega) ?_
                refine x0 (r := (15, [some (.int (zI sd)), some (.int (zI 0)), some (.int (zI 1))], [.int (zI 0)], es1)) i_193_14 (by rfl) ?_
                refine x_ret (v := some (.int (zI 0))) i_193_15 rfl (fun _ => rfl) rfl rfl (pFin_b (by omega)) ?_
                show aW _ _ _ _ _ _ (50, [some (.ref 143), some (.int (zI sq)), some (.int (zI kd)), some (.int (zI sd))], [.int (zI 0), .ref 143], es1)
                refine x_ifF i_196_50 (by unfold i32 iLO iHI; omega) rfl (by simp only [zC, cR]; omega) ?_
                refine x0 (r := (54, [some (.ref 143), some (.int (zI sq)), some (.int (zI kd)), some (.int (zI sd))], [.int (zI 1), .ref 143], es1)) i_196_53 (by rfl) ?_
                refine x0 (r := (58, [some (.ref 143), some (.int (zI sq)), some (.int (zI kd)), some (.int (zI sd))], [.int (zI 1), .ref 143], es1)) i_196_54 rfl ?_
                refine x0 (r := (59, [some (.ref 143), some (.int (zI sq)), some (.int (zI kd)), some (.int (zI sd))], [.int (zI 2), .int (zI 1), .ref 143], es1)) i_196_58 (by rfl) ?_
                refine x_call (vs := [.ref 143, .int (zI 1), .int (zI 2)]) (rs := []) i_196_59 rfl (fun _ => rfl) rfl rfl rfl rfl rfl (pCall_v (p := 79) hs_es1 rfl rfl rfl rfl rfl (by decide) rfl rfl rfl rfl rfl) ?_
                show aW _ _ _ _ _ _ (0, [some (.ref 143), some (.int (zI 1)), some (.int (zI 2))], [], es1)
                refine x0 (r := (1, [some (.ref 143), some (.int (zI 1)), some (.int (zI 2))], [.int (zI 1)], es1)) i_194_0 rfl ?_
                refine x_ifF i_194_1 (by unfold i32 iLO iHI; omega) rfl (by simp only [zC, cR]; omega) ?_
                refine x0 (r := (5, [some (.ref 143), some (.int (zI 1)), some (.int (zI 2))], [.ref 143], es1)) i_194_4 rfl ?_
                refine x0 (r := (6, [some (.ref 143), some (.int (zI 1)), some (.int (zI 2))], [.int (zI 2), .ref 143], es1)) i_194_5 rfl ?_
                refine x_puti (p := 79) (ty := .int) i_194_6 hs_es1 rfl rfl rfl (Or.inl rfl) ?_
                obtain ⟨es16, e_es16⟩ : ∃ z : PH, z = sI es1 79 0 (.int (zI 2)) := ⟨_, rfl⟩
                have hs_es16 : sh es16 := by rw [e_es16]; exact sh_sI hs_es1 (p := 79) (b := 0) rfl rfl
                have hT_es16 : hOK tT es16 := by rw [e_es16]; exact hOK_sI hT_es1 (p := 79) (b := 0) (lo := iLO) (hi := iHI) rfl rfl (i32_rng _)
                rw [← e_es16]
                refine x0 (r := (10, [some (.ref 143), some (.int (zI 1)), some (.int (zI 2))], [.int (zI 1)], es16)) i_194_9 rfl ?_
                refine x_ret (v := some (.int (zI 1))) i_194_10 rfl (fun _ => rfl) rfl rfl (pFin_b (by omega)) ?_
                show aW _ _ _ _ _ _ (62, [some (.ref 143), some (.int (zI sq)), some (.int (zI kd)), some (.int (zI sd))], [.int (zI 1)], es16)
                refine x_ifF i_196_62 (by unfold i32 iLO iHI; omega) rfl (by simp only [zC, cR]; omega) ?_
                refine x_ret (v := none) i_196_65 rfl (fun _ => rfl) rfl rfl rfl ?_
                exact K7 es1 e_es1 c2 c4 c6 v8 e_v8 c9 c11 c13 c15 es16 e_es16
              · refine x_cmpF i_193_7 (by unfold i32 iLO iHI; omega) (by unfold i32 iLO iHI; omega) rfl (by simp only [zC, cR]; omega) ?_
                refine x0 (r := (11, [some (.int (zI sd)), some (.int (zI 0)), some (.int (zI 1))], [.int (zI 1)], es1)) i_193_10 (by rfl) ?_
                refine x0 (r := (15, [some (.int (zI sd)), some (.int (zI 0)), some (.int (zI 1))], [.int (zI 1)], es1)) i_193_11 rfl ?_
                refine x_ret (v := some (.int (zI 1))) i_193_15 rfl (fun _ => rfl) rfl rfl (pFin_b (by omega)) ?_
                show aW _ _ _ _ _ _ (50, [some (.ref 143), some (.int (zI sq)), some (.int (zI kd)), some (.int (zI sd))], [.int (zI 1), .ref 143], es1)
                refine x_ifT i_196_50 (by unfold i32 iLO iHI; omega) rfl (by simp only [zC, cR]; omega) ?_
                refine x0 (r := (58, [some (.ref 143), some (.int (zI sq)), some (.int (zI kd)), some (.int (zI sd))], [.int (zI 0), .ref 143], es1)) i_196_57 (by rfl) ?_
                refine x0 (r := (59, [some (.ref 143), some (.int (zI sq)), some (.int (zI kd)), some (.int (zI sd))], [.int (zI 2), .int (zI 0), .ref 143], es1)) i_196_58 (by rfl) ?_
                refine x_call (vs := [.ref 143, .int (zI 0), .int (zI 2)]) (rs := []) i_196_59 rfl (fun _ => rfl) rfl rfl rfl rfl rfl (pCall_v (p := 79) hs_es1 rfl rfl rfl rfl rfl (by decide) rfl rfl rfl rfl rfl) ?_
                show aW _ _ _ _ _ _ (0, [some (.ref 143), some (.int (zI 0)), some (.int (zI 2))], [], es1)
                refine x0 (r := (1, [some (.ref 143), some (.int (zI 0)), some (.int (zI 2))], [.int (zI 0)], es1)) i_194_0 rfl ?_
                refine x_ifT i_194_1 (by unfold i32 iLO iHI; omega) rfl (by simp only [zC, cR]; omega) ?_
                refine x0 (r := (10, [some (.ref 143), some (.int (zI 0)), some (.int (zI 2))], [.int (zI 0)], es1)) i_194_9 rfl ?_
                refine x_ret (v := some (.int (zI 0))) i_194_10 rfl (fun _ => rfl) rfl rfl (pFin_b (by omega)) ?_
                show aW _ _ _ _ _ _ (62, [some (.ref 143), some (.int (zI sq)), some (.int (zI kd)), some (.int (zI sd))], [.int (zI 0)], es1)
                refine x_ifT i_196_62 (by unfold i32 iLO iHI; omega) rfl (by simp only [zC, cR]; omega) ?_
                refine x0 (r := (67, [some (.ref 143), some (.int (zI sq)), some (.int (zI kd)), some (.int (zI sd))], [.ref 143], es1)) i_196_66 rfl ?_
                refine x_getr (p := 79) (k := 144) i_196_67 hs_es1 rfl rfl ?_
                show aW _ _ _ _ _ _ (70, [some (.ref 143), some (.int (zI sq)), some (.int (zI kd)), some (.int (zI sd))], [.ref 144], es1)
                refine x0 (r := (72, [some (.ref 143), some (.int (zI sq)), some (.int (zI kd)), some (.int (zI sd))], [.int (zI 13), .ref 144], es1)) i_196_70 (by rfl) ?_
                refine x0 (r := (73, [some (.ref 143), some (.int (zI sq)), some (.int (zI kd)), some (.int (zI sd))], [.int (zI sq), .int (zI 13), .ref 144], es1)) i_196_72 rfl ?_
                refine x_iadd i_196_73 ?_
                refine x0 (r := (75, [some (.ref 143), some (.int (zI sq)), some (.int (zI kd)), some (.int (zI sd))], [.int (zI kd), .int (zI (13 + sq)), .ref 144], es1)) i_196_74 rfl ?_
                refine x0 (r := (76, [some (.ref 143), some (.int (zI sq)), some (.int (zI kd)), some (.int (zI sd))], [.int (zI sd), .int (zI kd), .int (zI (13 + sq)), .ref 144], es1)) i_196_75 rfl ?_
                refine x_call (vs := [.int (zI kd), .int (zI sd)]) (rs := [.int (zI (13 + sq)), .ref 144]) i_196_76 rfl (fun _ => rfl) rfl rfl rfl rfl rfl rfl ?_
                show aW _ _ _ _ _ _ (0, [some (.int (zI kd)), some (.int (zI sd))], [], es1)
                refine x0 (r := (1, [some (.int (zI kd)), some (.int (zI sd))], [.int (zI kd)], es1)) i_200_0 rfl ?_
                refine x_ifT i_200_1 (by unfold i32 iLO iHI; omega) rfl (by simp only [zC, cR]; omega) ?_
                refine x0 (r := (9, [some (.int (zI kd)), some (.int (zI sd))], [.int (zI 2)], es1)) i_200_8 (by rfl) ?_
                refine x0 (r := (10, [some (.int (zI kd)), some (.int (zI sd))], [.int (zI kd), .int (zI 2)], es1)) i_200_9 rfl ?_
                refine x_imul i_200_10 ?_
                refine x0 (r := (12, [some (.int (zI kd)), some (.int (zI sd))], [.int (zI sd), .int (zI (2 * kd))], es1)) i_200_11 rfl ?_
                refine x_iadd i_200_12 ?_
                refine x_ret (v := some (.int (zI ((2 * kd) + sd)))) i_200_13 rfl (fun _ => rfl) rfl rfl rfl ?_
                show aW _ _ _ _ _ _ (79, [some (.ref 143), some (.int (zI sq)), some (.int (zI kd)), some (.int (zI sd))], [.int (zI ((2 * kd) + sd)), .int (zI (13 + sq)), .ref 144], es1)
                refine x_iast (p := 80) i_196_79 hs_es1 rfl (by unfold i32 iLO iHI; omega) (by omega) (by omega) ?_
                obtain ⟨es17, e_es17⟩ : ∃ z : PH, z = sA es1 80 (13 + sq).toNat (zI ((2 * kd) + sd)) := ⟨_, rfl⟩
                have hs_es17 : sh es17 := by rw [e_es17]; exact sh_sA hs_es1
                rw [← e_es17]
                refine x_ret (v := none) i_196_80 rfl (fun _ => rfl) rfl rfl rfl ?_
                exact K8 es1 e_es1 c2 c4 c6 v8 e_v8 c9 c11 c13 c15 es17 e_es17
def putmP (sq : Int) (kd : Int) (sd : Int) (es : PH) (r : Option Value ⊕ Nat) (es1 : PH) : Prop := sh es1 ∧ True ∧ r = .inl none ∧ (((gI es1 79 0).toInt = 1 ∧ (sq < 0 ∨ 35 < sq ∨ (¬ kd = -1 ∧ (kd < 0 ∨ (gA es 80 0).toInt ≤ kd))) ∧ gA es1 80 = gA es 80) ∨ ((gI es1 79 0).toInt = 2 ∧ ((0 ≤ sq ∧ sq ≤ 35) ∧ ¬ kd = -1 ∧ (0 ≤ kd ∧ kd < (gA es 80 0).toInt) ∧ (sd < 0 ∨ 1 < sd)) ∧ gA es1 80 = gA es 80) ∨ ((gI es1 79 0).toInt = 0 ∧ ((0 ≤ sq ∧ sq ≤ 35) ∧ kd = -1) ∧ gA es1 80 = upd (gA es 80) (13 + sq).toNat (zI (-1))) ∨ ((gI es1 79 0).toInt = 0 ∧ ((0 ≤ sq ∧ sq ≤ 35) ∧ ¬ kd = -1 ∧ (0 ≤ kd ∧ kd < (gA es 80 0).toInt) ∧ (0 ≤ sd ∧ sd ≤ 1)) ∧ gA es1 80 = upd (gA es 80) (13 + sq).toNat (zI ((2 * kd) + sd))))
theorem fn_putm {O : pOut} {d : Nat} {es : PH} {sq kd sd : Int} (hq : i32 sq) (hk : i32 kd) (hd : i32 sd) (hT : hOK tT es) : aW O (d + 3) 196 0 0 (fun o => putmP sq kd sd es o.1 o.2.1) (0, [some (.ref 143), some (.int (zI sq)), some (.int (zI kd)), some (.int (zI sd))], [], es) := by
  have hs_es := sh_of hT
  refine s_mput (d := d) (kc := 0) (ks := 0) hs_es hq hk hd hT (fun es1 e_es1 c2 es3 e_es3 => ?_) (fun es1 e_es1 c2 c4 es5 e_es5 => ?_) (fun es1 e_es1 c2 c4 c6 es7 e_es7 => ?_) (fun es1 e_es1 c2 c4 c6 v8 e_v8 c9 es10 e_es10 => ?_) (fun es1 e_es1 c2 c4 c6 v8 e_v8 c9 c11 es12 e_es12 => ?_) (fun es1 e_es1 c2 c4 c6 v8 e_v8 c9 c11 c13 es14 e_es14 => ?_) (fun es1 e_es1 c2 c4 c6 v8 e_v8 c9 c11 c13 c15 es16 e_es16 => ?_) (fun es1 e_es1 c2 c4 c6 v8 e_v8 c9 c11 c13 c15 es17 e_es17 => ?_)
  · have hs_es1 : sh es1 := by rw [e_es1]; exact sh_sI hs_es (p := 79) (b := 0) rfl rfl
    have hs_es3 : sh es3 := by rw [e_es3]; exact sh_sI hs_es1 (p := 79) (b := 0) rfl rfl
    exact ⟨hs_es3, trivial, rfl, Or.inl ⟨by show (gI es3 79 0).toInt = _; rw [e_es3, gI_sI hs_es1 (p := 79) (b := 0) rfl (by decide)]; rfl, by omega, by show gA es3 80 = _; rw [e_es3, gA_sI, e_es1, gA_sI]⟩⟩
  · have hs_es1 : sh es1 := by rw [e_es1]; exact sh_sI hs_es (p := 79) (b := 0) rfl rfl
    have hs_es5 : sh es5 := by rw [e_es5]; exact sh_sI hs_es1 (p := 79) (b := 0) rfl rfl
    exact ⟨hs_es5, trivial, rfl, Or.inl ⟨by show (gI es5 79 0).toInt = _; rw [e_es5, gI_sI hs_es1 (p := 79) (b := 0) rfl (by decide)]; rfl, by omega, by show gA es5 80 = _; rw [e_es5, gA_sI, e_es1, gA_sI]⟩⟩
  · have hs_es1 : sh es1 := by rw [e_es1]; exact sh_sI hs_es (p := 79) (b := 0) rfl rfl
    have hs_es7 : sh es7 := by rw [e_es7]; exact sh_sA hs_es1
    exact ⟨hs_es7, trivial, rfl, Or.inr (Or.inr (Or.inl ⟨by show (gI es7 79 0).toInt = _; rw [e_es7, gI_sA, e_es1, gI_sI hs_es (p := 79) (b := 0) rfl (by decide)]; rfl, by omega, by show gA es7 80 = _; rw [e_es7, gA_sA hs_es1 (p := 80) (t := 0) (n := 2125) (sp := tS80) rfl (by decide), e_es1, gA_sI]⟩))⟩
  · have hs_es1 : sh es1 := by rw [e_es1]; exact sh_sI hs_es (p := 79) (b := 0) rfl rfl
    have hs_es10 : sh es10 := by rw [e_es10]; exact sh_sI hs_es1 (p := 79) (b := 0) rfl rfl
    have b_v8 : v8 = (gA es 80 0).toInt := by
      have h := e_v8
      rw [e_es1, gA_sI] at h
      exact h
    exact ⟨hs_es10, trivial, rfl, Or.inl ⟨by show (gI es10 79 0).toInt = _; rw [e_es10, gI_sI hs_es1 (p := 79) (b := 0) rfl (by decide)]; rfl, by omega, by show gA es10 80 = _; rw [e_es10, gA_sI, e_es1, gA_sI]⟩⟩
  · have hs_es1 : sh es1 := by rw [e_es1]; exact sh_sI hs_es (p := 79) (b := 0) rfl rfl
    have hs_es12 : sh es12 := by rw [e_es12]; exact sh_sI hs_es1 (p := 79) (b := 0) rfl rfl
    have b_v8 : v8 = (gA es 80 0).toInt := by
      have h := e_v8
      rw [e_es1, gA_sI] at h
      exact h
    exact ⟨hs_es12, trivial, rfl, Or.inl ⟨by show (gI es12 79 0).toInt = _; rw [e_es12, gI_sI hs_es1 (p := 79) (b := 0) rfl (by decide)]; rfl, by omega, by show gA es12 80 = _; rw [e_es12, gA_sI, e_es1, gA_sI]⟩⟩
  · have hs_es1 : sh es1 := by rw [e_es1]; exact sh_sI hs_es (p := 79) (b := 0) rfl rfl
    have hs_es14 : sh es14 := by rw [e_es14]; exact sh_sI hs_es1 (p := 79) (b := 0) rfl rfl
    have b_v8 : v8 = (gA es 80 0).toInt := by
      have h := e_v8
      rw [e_es1, gA_sI] at h
      exact h
    exact ⟨hs_es14, trivial, rfl, Or.inr (Or.inl ⟨by show (gI es14 79 0).toInt = _; rw [e_es14, gI_sI hs_es1 (p := 79) (b := 0) rfl (by decide)]; rfl, by omega, by show gA es14 80 = _; rw [e_es14, gA_sI, e_es1, gA_sI]⟩)⟩
  · have hs_es1 : sh es1 := by rw [e_es1]; exact sh_sI hs_es (p := 79) (b := 0) rfl rfl
    have hs_es16 : sh es16 := by rw [e_es16]; exact sh_sI hs_es1 (p := 79) (b := 0) rfl rfl
    have b_v8 : v8 = (gA es 80 0).toInt := by
      have h := e_v8
      rw [e_es1, gA_sI] at h
      exact h
    exact ⟨hs_es16, trivial, rfl, Or.inr (Or.inl ⟨by show (gI es16 79 0).toInt = _; rw [e_es16, gI_sI hs_es1 (p := 79) (b := 0) rfl (by decide)]; rfl, by omega, by show gA es16 80 = _; rw [e_es16, gA_sI, e_es1, gA_sI]⟩)⟩
  · have hs_es1 : sh es1 := by rw [e_es1]; exact sh_sI hs_es (p := 79) (b := 0) rfl rfl
    have hs_es17 : sh es17 := by rw [e_es17]; exact sh_sA hs_es1
    have b_v8 : v8 = (gA es 80 0).toInt := by
      have h := e_v8
      rw [e_es1, gA_sI] at h
      exact h
    exact ⟨hs_es17, trivial, rfl, Or.inr (Or.inr (Or.inr (⟨by show (gI es17 79 0).toInt = _; rw [e_es17, gI_sA, e_es1, gI_sI hs_es (p := 79) (b := 0) rfl (by decide)]; rfl, by omega, by show gA es17 80 = _; rw [e_es17, gA_sA hs_es1 (p := 80) (t := 0) (n := 2125) (sp := tS80) rfl (by decide), e_es1, gA_sI]⟩)))⟩
