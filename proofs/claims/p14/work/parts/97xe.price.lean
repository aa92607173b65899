/-! PRICE of both sides; printed by wip/rel/price.py -/
theorem i_130_0 : iRow 130 0 = some (.iload_n 1, 0, 0, 0, (some (Jvm.ClassFile.FieldType.int))) := rfl
theorem i_130_1 : iRow 130 1 = some (.invokestatic 226, 186, 131, 0, (some (Jvm.ClassFile.FieldType.int))) := rfl
theorem i_130_4 : iRow 130 4 = some (.ifCond .ne 13, 0, 0, 0, (some (Jvm.ClassFile.FieldType.int))) := rfl
theorem i_130_7 : iRow 130 7 = some (.new 125, 18, 2, 1, (some (Jvm.ClassFile.FieldType.int))) := rfl
theorem i_130_17 : iRow 130 17 = some (.iload_n 2, 0, 0, 0, (some (Jvm.ClassFile.FieldType.int))) := rfl
theorem i_130_18 : iRow 130 18 = some (.ifCond .lt 9, 0, 0, 0, (some (Jvm.ClassFile.FieldType.int))) := rfl
theorem i_130_21 : iRow 130 21 = some (.iload_n 2, 0, 0, 0, (some (Jvm.ClassFile.FieldType.int))) := rfl
theorem i_130_22 : iRow 130 22 = some (.bipush 9, 0, 0, 0, (some (Jvm.ClassFile.FieldType.int))) := rfl
theorem i_130_24 : iRow 130 24 = some (.if_icmp .le 13, 0, 0, 0, (some (Jvm.ClassFile.FieldType.int))) := rfl
theorem i_130_27 : iRow 130 27 = some (.new 85, 15, 0, 1, (some (Jvm.ClassFile.FieldType.int))) := rfl
theorem i_130_37 : iRow 130 37 = some (.aload_n 0, 0, 0, 0, (some (Jvm.ClassFile.FieldType.int))) := rfl
theorem i_130_38 : iRow 130 38 = some (.getfield 28, 139, 11, 2, (some (Jvm.ClassFile.FieldType.int))) := rfl
theorem i_130_41 : iRow 130 41 = some (.getfield 233, 40, 1, 9, (some (Jvm.ClassFile.FieldType.int))) := rfl
theorem i_130_44 : iRow 130 44 = some (.iload_n 1, 0, 0, 0, (some (Jvm.ClassFile.FieldType.int))) := rfl
theorem i_130_45 : iRow 130 45 = some (.invokestatic 236, 187, 28, 0, (some (Jvm.ClassFile.FieldType.int))) := rfl
theorem i_130_48 : iRow 130 48 = some (.istore_n 3, 0, 0, 0, (some (Jvm.ClassFile.FieldType.int))) := rfl
theorem i_130_49 : iRow 130 49 = some (.aload_n 0, 0, 0, 0, (some (Jvm.ClassFile.FieldType.int))) := rfl
theorem i_130_50 : iRow 130 50 = some (.getfield 28, 139, 11, 2, (some (Jvm.ClassFile.FieldType.int))) := rfl
theorem i_130_53 : iRow 130 53 = some (.getfield 233, 40, 1, 9, (some (Jvm.ClassFile.FieldType.int))) := rfl
theorem i_130_56 : iRow 130 56 = some (.iload_n 1, 0, 0, 0, (some (Jvm.ClassFile.FieldType.int))) := rfl
theorem i_130_57 : iRow 130 57 = some (.iload_n 2, 0, 0, 0, (some (Jvm.ClassFile.FieldType.int))) := rfl
theorem i_130_58 : iRow 130 58 = some (.invokestatic 143, 140, 14, 0, (some (Jvm.ClassFile.FieldType.int))) := rfl
theorem i_130_61 : iRow 130 61 = some (.aload_n 0, 0, 0, 0, (some (Jvm.ClassFile.FieldType.int))) := rfl
theorem i_130_62 : iRow 130 62 = some (.invokevirtual 104, 78, 73, 1, (some (Jvm.ClassFile.FieldType.int))) := rfl
theorem i_130_65 : iRow 130 65 = some (.iload_n 3, 0, 0, 0, (some (Jvm.ClassFile.FieldType.int))) := rfl
theorem i_130_66 : iRow 130 66 = some (.ireturn, 0, 0, 0, (some (Jvm.ClassFile.FieldType.int))) := rfl
theorem i_131_0 : iRow 131 0 = some (.iload_n 0, 0, 0, 0, (some (Jvm.ClassFile.FieldType.boolean))) := rfl
theorem i_131_1 : iRow 131 1 = some (.iconst 1, 0, 0, 0, (some (Jvm.ClassFile.FieldType.boolean))) := rfl
theorem i_131_2 : iRow 131 2 = some (.if_icmp .lt 13, 0, 0, 0, (some (Jvm.ClassFile.FieldType.boolean))) := rfl
theorem i_131_5 : iRow 131 5 = some (.iload_n 0, 0, 0, 0, (some (Jvm.ClassFile.FieldType.boolean))) := rfl
theorem i_131_6 : iRow 131 6 = some (.bipush 7, 0, 0, 0, (some (Jvm.ClassFile.FieldType.boolean))) := rfl
theorem i_131_8 : iRow 131 8 = some (.if_icmp .gt 7, 0, 0, 0, (some (Jvm.ClassFile.FieldType.boolean))) := rfl
theorem i_131_11 : iRow 131 11 = some (.iconst 1, 0, 0, 0, (some (Jvm.ClassFile.FieldType.boolean))) := rfl
theorem i_131_12 : iRow 131 12 = some (.goto 4, 0, 0, 0, (some (Jvm.ClassFile.FieldType.boolean))) := rfl
theorem i_131_15 : iRow 131 15 = some (.iconst 0, 0, 0, 0, (some (Jvm.ClassFile.FieldType.boolean))) := rfl
theorem i_131_16 : iRow 131 16 = some (.ireturn, 0, 0, 0, (some (Jvm.ClassFile.FieldType.boolean))) := rfl
theorem i_213_0 : iRow 213 0 = some (.aload_n 0, 0, 0, 0, (some (Jvm.ClassFile.FieldType.int))) := rfl
theorem i_213_1 : iRow 213 1 = some (.iconst 0, 0, 0, 0, (some (Jvm.ClassFile.FieldType.int))) := rfl
theorem i_213_2 : iRow 213 2 = some (.putfield 3, 164, 12, 0, (some (Jvm.ClassFile.FieldType.int))) := rfl
theorem i_213_5 : iRow 213 5 = some (.aload_n 0, 0, 0, 0, (some (Jvm.ClassFile.FieldType.int))) := rfl
theorem i_213_6 : iRow 213 6 = some (.iload_n 1, 0, 0, 0, (some (Jvm.ClassFile.FieldType.int))) := rfl
theorem i_213_7 : iRow 213 7 = some (.iconst 1, 0, 0, 0, (some (Jvm.ClassFile.FieldType.int))) := rfl
theorem i_213_8 : iRow 213 8 = some (.bipush 7, 0, 0, 0, (some (Jvm.ClassFile.FieldType.int))) := rfl
theorem i_213_10 : iRow 213 10 = some (.invokestatic 106, 282, 193, 0, (some (Jvm.ClassFile.FieldType.int))) := rfl
theorem i_213_13 : iRow 213 13 = some (.ifCond .ne 7, 0, 0, 0, (some (Jvm.ClassFile.FieldType.int))) := rfl
theorem i_213_16 : iRow 213 16 = some (.iconst 1, 0, 0, 0, (some (Jvm.ClassFile.FieldType.int))) := rfl
theorem i_213_17 : iRow 213 17 = some (.goto 4, 0, 0, 0, (some (Jvm.ClassFile.FieldType.int))) := rfl
theorem i_213_20 : iRow 213 20 = some (.iconst 0, 0, 0, 0, (some (Jvm.ClassFile.FieldType.int))) := rfl
theorem i_213_21 : iRow 213 21 = some (.iconst 1, 0, 0, 0, (some (Jvm.ClassFile.FieldType.int))) := rfl
theorem i_213_22 : iRow 213 22 = some (.invokevirtual 235, 283, 194, 1, (some (Jvm.ClassFile.FieldType.int))) := rfl
theorem i_213_25 : iRow 213 25 = some (.ifCond .ne 26, 0, 0, 0, (some (Jvm.ClassFile.FieldType.int))) := rfl
theorem i_213_28 : iRow 213 28 = some (.aload_n 0, 0, 0, 0, (some (Jvm.ClassFile.FieldType.int))) := rfl
theorem i_213_29 : iRow 213 29 = some (.iload_n 2, 0, 0, 0, (some (Jvm.ClassFile.FieldType.int))) := rfl
theorem i_213_30 : iRow 213 30 = some (.iconst 0, 0, 0, 0, (some (Jvm.ClassFile.FieldType.int))) := rfl
theorem i_213_31 : iRow 213 31 = some (.bipush 9, 0, 0, 0, (some (Jvm.ClassFile.FieldType.int))) := rfl
theorem i_213_33 : iRow 213 33 = some (.invokestatic 106, 282, 193, 0, (some (Jvm.ClassFile.FieldType.int))) := rfl
theorem i_213_36 : iRow 213 36 = some (.ifCond .ne 7, 0, 0, 0, (some (Jvm.ClassFile.FieldType.int))) := rfl
theorem i_213_39 : iRow 213 39 = some (.iconst 1, 0, 0, 0, (some (Jvm.ClassFile.FieldType.int))) := rfl
theorem i_213_40 : iRow 213 40 = some (.goto 4, 0, 0, 0, (some (Jvm.ClassFile.FieldType.int))) := rfl
theorem i_213_43 : iRow 213 43 = some (.iconst 0, 0, 0, 0, (some (Jvm.ClassFile.FieldType.int))) := rfl
theorem i_213_44 : iRow 213 44 = some (.iconst 2, 0, 0, 0, (some (Jvm.ClassFile.FieldType.int))) := rfl
theorem i_213_45 : iRow 213 45 = some (.invokevirtual 235, 283, 194, 1, (some (Jvm.ClassFile.FieldType.int))) := rfl
theorem i_213_48 : iRow 213 48 = some (.ifCond .eq 5, 0, 0, 0, (some (Jvm.ClassFile.FieldType.int))) := rfl
theorem i_213_51 : iRow 213 51 = some (.iconst 0, 0, 0, 0, (some (Jvm.ClassFile.FieldType.int))) := rfl
theorem i_213_52 : iRow 213 52 = some (.ireturn, 0, 0, 0, (some (Jvm.ClassFile.FieldType.int))) := rfl
theorem i_213_53 : iRow 213 53 = some (.aload_n 0, 0, 0, 0, (some (Jvm.ClassFile.FieldType.int))) := rfl
theorem i_213_54 : iRow 213 54 = some (.getfield 13, 165, 12, 1, (some (Jvm.ClassFile.FieldType.int))) := rfl
theorem i_213_57 : iRow 213 57 = some (.iconst 5, 0, 0, 0, (some (Jvm.ClassFile.FieldType.int))) := rfl
theorem i_213_58 : iRow 213 58 = some (.iload_n 1, 0, 0, 0, (some (Jvm.ClassFile.FieldType.int))) := rfl
theorem i_213_59 : iRow 213 59 = some (.iadd, 0, 0, 0, (some (Jvm.ClassFile.FieldType.int))) := rfl
theorem i_213_60 : iRow 213 60 = some (.iaload, 0, 0, 0, (some (Jvm.ClassFile.FieldType.int))) := rfl
theorem i_213_61 : iRow 213 61 = some (.istore_n 3, 0, 0, 0, (some (Jvm.ClassFile.FieldType.int))) := rfl
theorem i_213_62 : iRow 213 62 = some (.aload_n 0, 0, 0, 0, (some (Jvm.ClassFile.FieldType.int))) := rfl
theorem i_213_63 : iRow 213 63 = some (.getfield 13, 165, 12, 1, (some (Jvm.ClassFile.FieldType.int))) := rfl
theorem i_213_66 : iRow 213 66 = some (.iconst 5, 0, 0, 0, (some (Jvm.ClassFile.FieldType.int))) := rfl
theorem i_213_67 : iRow 213 67 = some (.iload_n 1, 0, 0, 0, (some (Jvm.ClassFile.FieldType.int))) := rfl
theorem i_213_68 : iRow 213 68 = some (.iadd, 0, 0, 0, (some (Jvm.ClassFile.FieldType.int))) := rfl
theorem i_213_69 : iRow 213 69 = some (.iload_n 2, 0, 0, 0, (some (Jvm.ClassFile.FieldType.int))) := rfl
theorem i_213_70 : iRow 213 70 = some (.iastore, 0, 0, 0, (some (Jvm.ClassFile.FieldType.int))) := rfl
theorem i_213_71 : iRow 213 71 = some (.iload_n 3, 0, 0, 0, (some (Jvm.ClassFile.FieldType.int))) := rfl
theorem i_213_72 : iRow 213 72 = some (.ireturn, 0, 0, 0, (some (Jvm.ClassFile.FieldType.int))) := rfl
theorem i_286_0 : iRow 286 0 = some (.aload_n 3, 0, 0, 0, (some (Jvm.ClassFile.FieldType.int))) := rfl
theorem i_286_1 : iRow 286 1 = some (.iconst 0, 0, 0, 0, (some (Jvm.ClassFile.FieldType.int))) := rfl
theorem i_286_2 : iRow 286 2 = some (.aload_n 0, 0, 0, 0, (some (Jvm.ClassFile.FieldType.int))) := rfl
theorem i_286_3 : iRow 286 3 = some (.iload_n 1, 0, 0, 0, (some (Jvm.ClassFile.FieldType.int))) := rfl
theorem i_286_4 : iRow 286 4 = some (.iload_n 2, 0, 0, 0, (some (Jvm.ClassFile.FieldType.int))) := rfl
theorem i_286_5 : iRow 286 5 = some (.invokevirtual 52, 185, 130, 1, (some (Jvm.ClassFile.FieldType.int))) := rfl
theorem i_286_8 : iRow 286 8 = some (.i2l, 0, 0, 0, (some (Jvm.ClassFile.FieldType.int))) := rfl
theorem i_286_9 : iRow 286 9 = some (.lastore, 0, 0, 0, (some (Jvm.ClassFile.FieldType.int))) := rfl
theorem i_286_10 : iRow 286 10 = some (.goto 11, 0, 0, 0, (some (Jvm.ClassFile.FieldType.int))) := rfl
theorem i_286_15 : iRow 286 15 = some (.iconst 1, 0, 0, 0, (some (Jvm.ClassFile.FieldType.int))) := rfl
theorem i_286_16 : iRow 286 16 = some (.ireturn, 0, 0, 0, (some (Jvm.ClassFile.FieldType.int))) := rfl
theorem i_286_19 : iRow 286 19 = some (.iconst 2, 0, 0, 0, (some (Jvm.ClassFile.FieldType.int))) := rfl
theorem i_286_20 : iRow 286 20 = some (.ireturn, 0, 0, 0, (some (Jvm.ClassFile.FieldType.int))) := rfl
theorem i_286_21 : iRow 286 21 = some (.iconst 0, 0, 0, 0, (some (Jvm.ClassFile.FieldType.int))) := rfl
theorem i_286_22 : iRow 286 22 = some (.ireturn, 0, 0, 0, (some (Jvm.ClassFile.FieldType.int))) := rfl
theorem s_xpr {O : pOut} {d kc ks : Nat} {Q : pRes → Prop} {es : PH} {s n : Int} (hs_es : sh es) (h_s : -2147483648 ≤ s ∧ s ≤ 2147483647) (h_n : -2147483648 ≤ n ∧ n ≤ 2147483647) (hT_es : hOK tT es)
    (K1 : s < 1 → Q (.inr 2, es, kc + 1, ks + 6))
    (K2 : ¬ (s < 1) → 7 < s → Q (.inr 2, es, kc + 1, ks + 6))
    (K3 : ¬ (s < 1) → ¬ (7 < s) → n < 0 → Q (.inr 0, es, kc + 1, ks + 6))
    (K4 : ¬ (s < 1) → ¬ (7 < s) → ¬ (n < 0) → n ≤ 9 → ∀ v5 : Int, v5 = (gA es 15 s.toNat).toInt → ∀ es6 : PH, es6 = sA es 15 s.toNat (zI n) → ∀ es7 : PH, es7 = sI es6 0 10 (.int (zI 0)) → ∀ es8 : PH, es8 = sI es7 73 3 (.int (zI 0)) → Q (.inl (some (.int (zI v5))), es8, kc, ks))
    (K5 : ¬ (s < 1) → ¬ (7 < s) → ¬ (n < 0) → ¬ (n ≤ 9) → Q (.inr 0, es, kc + 1, ks + 6)) :
    aW O (d + 1) 130 kc ks Q (0, [some (.ref 64), some (.int (zI s)), some (.int (zI n)), none], [], es) := by
  refine x0 (r := (1, [some (.ref 64), some (.int (zI s)), some (.int (zI n)), none], [.int (zI s)], es)) i_130_0 rfl ?_
  refine x_call (vs := [.int (zI s)]) (rs := []) i_130_1 rfl (fun _ => rfl) rfl rfl rfl rfl rfl rfl ?_
  show aW _ _ _ _ _ _ (0, [some (.int (zI s))], [], es)
  refine x0 (r := (1, [some (.int (zI s))], [.int (zI s)], es)) i_131_0 rfl ?_
  refine x0 (r := (2, [some (.int (zI s))], [.int (zI 1), .int (zI s)], es)) i_131_1 (by rfl) ?_
  by_cases c1 : s < 1
  · refine x_cmpT i_131_2 (by unfold i32 iLO iHI; omega) (by unfold i32 iLO iHI; omega) rfl (by simp only [zC, cR]; omega) ?_
    refine x0 (r := (16, [some (.int (zI s))], [.int (zI 0)], es)) i_131_15 (by rfl) ?_
    refine x_ret (v := some (.int (zI 0))) i_131_16 rfl (fun _ => rfl) rfl rfl (pFin_b (by omega)) ?_
    show aW _ _ _ _ _ _ (4, [some (.ref 64), some (.int (zI s)), some (.int (zI n)), none], [.int (zI 0)], es)
    refine x_ifF i_130_4 (by unfold i32 iLO iHI; omega) rfl (by simp only [zC, cR]; omega) ?_
    refine x_thr i_130_7 rfl (fun _ => rfl) rfl rfl rfl rfl ?_
    exact K1 c1
  · refine x_cmpF i_131_2 (by unfold i32 iLO iHI; omega) (by unfold i32 iLO iHI; omega) rfl (by simp only [zC, cR]; omega) ?_
    refine x0 (r := (6, [some (.int (zI s))], [.int (zI s)], es)) i_131_5 rfl ?_
    refine x0 (r := (8, [some (.int (zI s))], [.int (zI 7), .int (zI s)], es)) i_131_6 (by rfl) ?_
    by_cases c2 : 7 < s
    · refine x_cmpT i_131_8 (by unfold i32 iLO iHI; omega) (by unfold i32 iLO iHI; omega) rfl (by simp only [zC, cR]; omega) ?_
      refine x0 (r := (16, [some (.int (zI s))], [.int (zI 0)], es)) i_131_15 (by rfl) ?_
      refine x_ret (v := some (.int (zI 0))) i_131_16 rfl (fun _ => rfl) rfl rfl (pFin_b (by omega)) ?_
      show aW _ _ _ _ _ _ (4, [some (.ref 64), some (.int (zI s)), some (.int (zI n)), none], [.int (zI 0)], es)
      refine x_ifF i_130_4 (by unfold i32 iLO iHI; omega) rfl (by simp only [zC, cR]; omega) ?_
      refine x_thr i_130_7 rfl (fun _ => rfl) rfl rfl rfl rfl ?_
      exact K2 c1 c2
    · refine x_cmpF i_131_8 (by unfold i32 iLO iHI; omega) (by unfold i32 iLO iHI; omega) rfl (by simp only [zC, cR]; omega) ?_
      refine x0 (r := (12, [some (.int (zI s))], [.int (zI 1)], es)) i_131_11 (by rfl) ?_
      refine x0 (r := (16, [some (.int (zI s))], [.int (zI 1)], es)) i_131_12 rfl ?_
      refine x_ret (v := some (.int (zI 1))) i_131_16 rfl (fun _ => rfl) rfl rfl (pFin_b (by omega)) ?_
      show aW _ _ _ _ _ _ (4, [some (.ref 64), some (.int (zI s)), some (.int (zI n)), none], [.int (zI 1)], es)
      refine x_ifT i_130_4 (by unfold i32 iLO iHI; omega) rfl (by simp only [zC, cR]; omega) ?_
      refine x0 (r := (18, [some (.ref 64), some (.int (zI s)), some (.int (zI n)), none], [.int (zI n)], es)) i_130_17 rfl ?_
      by_cases c3 : n < 0
      · refine x_ifT i_130_18 (by unfold i32 iLO iHI; omega) rfl (by simp only [zC, cR]; omega) ?_
        refine x_thr i_130_27 rfl (fun _ => rfl) rfl rfl rfl rfl ?_
        exact K3 c1 c2 c3
      · refine x_ifF i_130_18 (by unfold i32 iLO iHI; omega) rfl (by simp only [zC, cR]; omega) ?_
        refine x0 (r := (22, [some (.ref 64), some (.int (zI s)), some (.int (zI n)), none], [.int (zI n)], es)) i_130_21 rfl ?_
        refine x0 (r := (24, [some (.ref 64), some (.int (zI s)), some (.int (zI n)), none], [.int (zI 9), .int (zI n)], es)) i_130_22 (by rfl) ?_
        by_cases c4 : n ≤ 9
        · refine x_cmpT i_130_24 (by unfold i32 iLO iHI; omega) (by unfold i32 iLO iHI; omega) rfl (by simp only [zC, cR]; omega) ?_
          refine x0 (r := (38, [some (.ref 64), some (.int (zI s)), some (.int (zI n)), none], [.ref 64], es)) i_130_37 rfl ?_
          refine x_getr (p := 0) (k := 71) i_130_38 hs_es rfl rfl ?_
          show aW _ _ _ _ _ _ (41, [some (.ref 64), some (.int (zI s)), some (.int (zI n)), none], [.ref 71], es)
          refine x_getr (p := 7) (k := 79) i_130_41 hs_es rfl rfl ?_
          show aW _ _ _ _ _ _ (44, [some (.ref 64), some (.int (zI s)), some (.int (zI n)), none], [.ref 79], es)
          refine x0 (r := (45, [some (.ref 64), some (.int (zI s)), some (.int (zI n)), none], [.int (zI s), .ref 79], es)) i_130_44 rfl ?_
          refine x_call (vs := [.ref 79, .int (zI s)]) (rs := []) i_130_45 rfl (fun _ => rfl) rfl rfl rfl rfl rfl rfl ?_
          show aW _ _ _ _ _ _ (0, [some (.ref 79), some (.int (zI s))], [], es)
          refine x0 (r := (1, [some (.ref 79), some (.int (zI s))], [.int (zI s)], es)) i_28_0 rfl ?_
          refine x_ifF i_28_1 (by unfold i32 iLO iHI; omega) rfl (by simp only [zC, cR]; omega) ?_
          refine x0 (r := (5, [some (.ref 79), some (.int (zI s))], [.int (zI s)], es)) i_28_4 rfl ?_
          refine x0 (r := (6, [some (.ref 79), some (.int (zI s))], [.ref 79, .int (zI s)], es)) i_28_5 rfl ?_
          refine x_alen (p := 15) (n := 8) i_28_6 hs_es rfl ?_
          refine x_cmpF i_28_7 (by unfold i32 iLO iHI; omega) (by unfold i32 iLO iHI; omega) rfl (by simp only [zC, cR]; omega) ?_
          refine x0 (r := (11, [some (.ref 79), some (.int (zI s))], [.ref 79], es)) i_28_10 rfl ?_
          refine x0 (r := (12, [some (.ref 79), some (.int (zI s))], [.int (zI s), .ref 79], es)) i_28_11 rfl ?_
          refine x_iald (p := 15) i_28_12 hs_es rfl (by unfold i32 iLO iHI; omega) (by omega) (by omega) ?_
          obtain ⟨v5, e_v5⟩ : ∃ z : Int, z = (gA es 15 s.toNat).toInt := ⟨_, rfl⟩
          rw [← e_v5]
          have r_v5 : iLO ≤ v5 ∧ v5 ≤ iHI := by rw [e_v5]; exact i32_rng _
          unfold iLO iHI at r_v5
          refine x0 (r := (17, [some (.ref 79), some (.int (zI s))], [.int (zI v5)], es)) i_28_13 rfl ?_
          refine x_ret (v := some (.int (zI v5))) i_28_17 rfl (fun _ => rfl) rfl rfl rfl ?_
          show aW _ _ _ _ _ _ (48, [some (.ref 64), some (.int (zI s)), some (.int (zI n)), none], [.int (zI v5)], es)
          refine x0 (r := (49, [some (.ref 64), some (.int (zI s)), some (.int (zI n)), some (.int (zI v5))], [], es)) i_130_48 rfl ?_
          refine x0 (r := (50, [some (.ref 64), some (.int (zI s)), some (.int (zI n)), some (.int (zI v5))], [.ref 64], es)) i_130_49 rfl ?_
          refine x_getr (p := 0) (k := 71) i_130_50 hs_es rfl rfl ?_
          show aW _ _ _ _ _ _ (53, [some (.ref 64), some (.int (zI s)), some (.int (zI n)), some (.int (zI v5))], [.ref 71], es)
          refine x_getr (p := 7) (k := 79) i_130_53 hs_es rfl rfl ?_
          show aW _ _ _ _ _ _ (56, [some (.ref 64), some (.int (zI s)), some (.int (zI n)), some (.int (zI v5))], [.ref 79], es)
          refine x0 (r := (57, [some (.ref 64), some (.int (zI s)), some (.int (zI n)), some (.int (zI v5))], [.int (zI s), .ref 79], es)) i_130_56 rfl ?_
          refine x0 (r := (58, [some (.ref 64), some (.int (zI s)), some (.int (zI n)), some (.int (zI v5))], [.int (zI n), .int (zI s), .ref 79], es)) i_130_57 rfl ?_
          refine x_call (vs := [.ref 79, .int (zI s), .int (zI n)]) (rs := []) i_130_58 rfl (fun _ => rfl) rfl rfl rfl rfl rfl rfl ?_
          show aW _ _ _ _ _ _ (0, [some (.ref 79), some (.int (zI s)), some (.int (zI n))], [], es)
          refine x0 (r := (1, [some (.ref 79), some (.int (zI s)), some (.int (zI n))], [.int (zI s)], es)) i_14_0 rfl ?_
          refine x_ifF i_14_1 (by unfold i32 iLO iHI; omega) rfl (by simp only [zC, cR]; omega) ?_
          refine x0 (r := (5, [some (.ref 79), some (.int (zI s)), some (.int (zI n))], [.int (zI s)], es)) i_14_4 rfl ?_
          refine x0 (r := (6, [some (.ref 79), some (.int (zI s)), some (.int (zI n))], [.ref 79, .int (zI s)], es)) i_14_5 rfl ?_
          refine x_alen (p := 15) (n := 8) i_14_6 hs_es rfl ?_
          refine x_cmpF i_14_7 (by unfold i32 iLO iHI; omega) (by unfold i32 iLO iHI; omega) rfl (by simp only [zC, cR]; omega) ?_
          refine x0 (r := (11, [some (.ref 79), some (.int (zI s)), some (.int (zI n))], [.ref 79], es)) i_14_10 rfl ?_
          refine x0 (r := (12, [some (.ref 79), some (.int (zI s)), some (.int (zI n))], [.int (zI s), .ref 79], es)) i_14_11 rfl ?_
          refine x0 (r := (13, [some (.ref 79), some (.int (zI s)), some (.int (zI n))], [.int (zI n), .int (zI s), .ref 79], es)) i_14_12 rfl ?_
          refine x_iast (p := 15) i_14_13 hs_es rfl (by unfold i32 iLO iHI; omega) (by omega) (by omega) ?_
          obtain ⟨es6, e_es6⟩ : ∃ z : PH, z = sA es 15 s.toNat (zI n) := ⟨_, rfl⟩
          have hs_es6 : sh es6 := by rw [e_es6]; exact sh_sA hs_es
          have hT_es6 : hOK tT es6 := by rw [e_es6]; exact hOK_sA hT_es (p := 15) (n := 8) rfl (fun _ => i32_rng _)
          rw [← e_es6]
          refine x_ret (v := none) i_14_14 rfl (fun _ => rfl) rfl rfl rfl ?_
          show aW _ _ _ _ _ _ (61, [some (.ref 64), some (.int (zI s)), some (.int (zI n)), some (.int (zI v5))], [], es6)
          refine x0 (r := (62, [some (.ref 64), some (.int (zI s)), some (.int (zI n)), some (.int (zI v5))], [.ref 64], es6)) i_130_61 rfl ?_
          refine x_call (vs := [.ref 64]) (rs := []) i_130_62 rfl (fun _ => rfl) rfl rfl rfl rfl rfl (pCall_v (p := 0) hs_es6 rfl rfl rfl rfl rfl (by decide) rfl rfl rfl rfl rfl) ?_
          show aW _ _ _ _ _ _ (0, [some (.ref 64)], [], es6)
          refine x0 (r := (1, [some (.ref 64)], [.ref 64], es6)) i_73_0 rfl ?_
          refine x0 (r := (2, [some (.ref 64)], [.int (zI 0), .ref 64], es6)) i_73_1 (by rfl) ?_
          refine x_puti (p := 0) (ty := .boolean) i_73_2 hs_es6 rfl rfl rfl (Or.inr ⟨rfl, by omega⟩) ?_
          obtain ⟨es7, e_es7⟩ : ∃ z : PH, z = sI es6 0 10 (.int (zI 0)) := ⟨_, rfl⟩
          have hs_es7 : sh es7 := by rw [e_es7]; exact sh_sI hs_es6 (p := 0) (b := 10) rfl rfl
          have hT_es7 : hOK tT es7 := by rw [e_es7]; exact hOK_sI hT_es6 (p := 0) (b := 10) rfl rfl (by rw [zI_toInt (by unfold i32 iLO iHI; omega)]; exact ⟨by show (0 : Int) ≤ 0; omega, by show 0 ≤ (1 : Int); omega⟩)
          rw [← e_es7]
          refine x0 (r := (6, [some (.ref 64)], [.ref 64], es7)) i_73_5 rfl ?_
          refine x_getr (p := 0) (k := 137) i_73_6 hs_es7 rfl rfl ?_
          show aW _ _ _ _ _ _ (9, [some (.ref 64)], [.ref 137], es7)
          refine x0 (r := (10, [some (.ref 64)], [.int (zI 0), .ref 137], es7)) i_73_9 (by rfl) ?_
          refine x_puti (p := 73) (ty := .boolean) i_73_10 hs_es7 rfl rfl rfl (Or.inr ⟨rfl, by omega⟩) ?_
          obtain ⟨es8, e_es8⟩ : ∃ z : PH, z = sI es7 73 3 (.int (zI 0)) := ⟨_, rfl⟩
          have hs_es8 : sh es8 := by rw [e_es8]; exact sh_sI hs_es7 (p := 73) (b := 3) rfl rfl
          have hT_es8 : hOK tT es8 := by rw [e_es8]; exact hOK_sI hT_es7 (p := 73) (b := 3) rfl rfl (by rw [zI_toInt (by unfold i32 iLO iHI; omega)]; exact ⟨by show (0 : Int) ≤ 0; omega, by show 0 ≤ (1 : Int); omega⟩)
          rw [← e_es8]
          refine x_ret (v := none) i_73_13 rfl (fun _ => rfl) rfl rfl rfl ?_
          show aW _ _ _ _ _ _ (65, [some (.ref 64), some (.int (zI s)), some (.int (zI n)), some (.int (zI v5))], [], es8)
          refine x0 (r := (66, [some (.ref 64), some (.int (zI s)), some (.int (zI n)), some (.int (zI v5))], [.int (zI v5)], es8)) i_130_65 rfl ?_
          refine x_ret (v := some (.int (zI v5))) i_130_66 rfl (fun _ => rfl) rfl rfl rfl ?_
          exact K4 c1 c2 c3 c4 v5 e_v5 es6 e_es6 es7 e_es7 es8 e_es8
        · refine x_cmpF i_130_24 (by unfold i32 iLO iHI; omega) (by unfold i32 iLO iHI; omega) rfl (by simp only [zC, cR]; omega) ?_
          refine x_thr i_130_27 rfl (fun _ => rfl) rfl rfl rfl rfl ?_
          exact K5 c1 c2 c3 c4
theorem s_ypr0 {O : pOut} {d kc ks : Nat} {Q : pRes → Prop} {es : PH} {s n : Int} (hs_es : sh es)
    (K1 : aW O d 286 kc ks Q (5, [some (.ref 64), some (.int (zI s)), some (.int (zI n)), some (.ref 171), none], [.int (zI n), .int (zI s), .ref 64, .int (zI 0), .ref 171], es)) :
    aW O d 286 kc ks Q (0, [some (.ref 64), some (.int (zI s)), some (.int (zI n)), some (.ref 171), none], [], es) := by
  refine x0 (r := (1, [some (.ref 64), some (.int (zI s)), some (.int (zI n)), some (.ref 171), none], [.ref 171], es)) i_286_0 rfl ?_
  refine x0 (r := (2, [some (.ref 64), some (.int (zI s)), some (.int (zI n)), some (.ref 171), none], [.int (zI 0), .ref 171], es)) i_286_1 (by rfl) ?_
  refine x0 (r := (3, [some (.ref 64), some (.int (zI s)), some (.int (zI n)), some (.ref 171), none], [.ref 64, .int (zI 0), .ref 171], es)) i_286_2 rfl ?_
  refine x0 (r := (4, [some (.ref 64), some (.int (zI s)), some (.int (zI n)), some (.ref 171), none], [.int (zI s), .ref 64, .int (zI 0), .ref 171], es)) i_286_3 rfl ?_
  refine x0 (r := (5, [some (.ref 64), some (.int (zI s)), some (.int (zI n)), some (.ref 171), none], [.int (zI n), .int (zI s), .ref 64, .int (zI 0), .ref 171], es)) i_286_4 rfl ?_
  exact K1
theorem s_ypr8 {O : pOut} {d kc ks : Nat} {Q : pRes → Prop} {es : PH} {s n v : Int} (hs_es : sh es)
    (K1 : ∀ es1 : PH, es1 = sJ es 107 (Int.toNat 0) ((zI v).toInt64) → Q (.inl (some (.int (zI 0))), es1, kc, ks)) :
    aW O d 286 kc ks Q (8, [some (.ref 64), some (.int (zI s)), some (.int (zI n)), some (.ref 171), none], [.int (zI v), .int (zI 0), .ref 171], es) := by
  refine x0 (r := (9, [some (.ref 64), some (.int (zI s)), some (.int (zI n)), some (.ref 171), none], [.long ((zI v).toInt64), .int (zI 0), .ref 171], es)) i_286_8 rfl ?_
  refine x_last (p := 107) i_286_9 hs_es rfl (by unfold i32 iLO iHI; omega) (by omega) (by omega) ?_
  obtain ⟨es1, e_es1⟩ : ∃ z : PH, z = sJ es 107 (Int.toNat 0) ((zI v).toInt64) := ⟨_, rfl⟩
  have hs_es1 : sh es1 := by rw [e_es1]; exact sh_sJ hs_es
  rw [← e_es1]
  refine x0 (r := (21, [some (.ref 64), some (.int (zI s)), some (.int (zI n)), some (.ref 171), none], [], es1)) i_286_10 rfl ?_
  refine x0 (r := (22, [some (.ref 64), some (.int (zI s)), some (.int (zI n)), some (.ref 171), none], [.int (zI 0)], es1)) i_286_21 (by rfl) ?_
  refine x_ret (v := some (.int (zI 0))) i_286_22 rfl (fun _ => rfl) rfl rfl rfl ?_
  exact K1 es1 e_es1
theorem s_ypr15 {O : pOut} {d kc ks : Nat} {Q : pRes → Prop} {es : PH} {s n : Int} (hs_es : sh es)
    (K1 : Q (.inl (some (.int (zI 1))), es, kc, ks)) :
    aW O d 286 kc ks Q (15, [some (.ref 64), some (.int (zI s)), some (.int (zI n)), some (.ref 171), none], [], es) := by
  refine x0 (r := (16, [some (.ref 64), some (.int (zI s)), some (.int (zI n)), some (.ref 171), none], [.int (zI 1)], es)) i_286_15 (by rfl) ?_
  refine x_ret (v := some (.int (zI 1))) i_286_16 rfl (fun _ => rfl) rfl rfl rfl ?_
  exact K1
theorem s_ypr19 {O : pOut} {d kc ks : Nat} {Q : pRes → Prop} {es : PH} {s n : Int} (hs_es : sh es)
    (K1 : Q (.inl (some (.int (zI 2))), es, kc, ks)) :
    aW O d 286 kc ks Q (19, [some (.ref 64), some (.int (zI s)), some (.int (zI n)), some (.ref 171), none], [], es) := by
  refine x0 (r := (20, [some (.ref 64), some (.int (zI s)), some (.int (zI n)), some (.ref 171), none], [.int (zI 2)], es)) i_286_19 (by rfl) ?_
  refine x_ret (v := some (.int (zI 2))) i_286_20 rfl (fun _ => rfl) rfl rfl rfl ?_
  exact K1
theorem s_mpr {O : pOut} {d kc ks : Nat} {Q : pRes → Prop} {es : PH} {s n : Int} (hs_es : sh es) (h_s : -2147483648 ≤ s ∧ s ≤ 2147483647) (h_n : -2147483648 ≤ n ∧ n ≤ 2147483647) (hT_es : hOK tT es)
    (K1 : ∀ es1 : PH, es1 = sI es 79 0 (.int (zI 0)) → s < 1 → ∀ es3 : PH, es3 = sI es1 79 0 (.int (zI 1)) → Q (.inl (some (.int (zI 0))), es3, kc, ks))
    (K2 : ∀ es1 : PH, es1 = sI es 79 0 (.int (zI 0)) → ¬ (s < 1) → 7 < s → ∀ es5 : PH, es5 = sI es1 79 0 (.int (zI 1)) → Q (.inl (some (.int (zI 0))), es5, kc, ks))
    (K3 : ∀ es1 : PH, es1 = sI es 79 0 (.int (zI 0)) → ¬ (s < 1) → ¬ (7 < s) → n < 0 → ∀ es7 : PH, es7 = sI es1 79 0 (.int (zI 2)) → Q (.inl (some (.int (zI 0))), es7, kc, ks))
    (K4 : ∀ es1 : PH, es1 = sI es 79 0 (.int (zI 0)) → ¬ (s < 1) → ¬ (7 < s) → ¬ (n < 0) → 9 < n → ∀ es9 : PH, es9 = sI es1 79 0 (.int (zI 2)) → Q (.inl (some (.int (zI 0))), es9, kc, ks))
    (K5 : ∀ es1 : PH, es1 = sI es 79 0 (.int (zI 0)) → ¬ (s < 1) → ¬ (7 < s) → ¬ (n < 0) → ¬ (9 < n) → ∀ v10 : Int, v10 = (gA es1 80 (5 + s).toNat).toInt → ∀ es11 : PH, es11 = sA es1 80 (5 + s).toNat (zI n) → Q (.inl (some (.int (zI v10))), es11, kc, ks)) :
    aW O (d + 1) 213 kc ks Q (0, [some (.ref 143), some (.int (zI s)), some (.int (zI n)), none], [], es) := by
  refine x0 (r := (1, [some (.ref 143), some (.int (zI s)), some (.int (zI n)), none], [.ref 143], es)) i_213_0 rfl ?_
  refine x0 (r := (2, [some (.ref 143), some (.int (zI s)), some (.int (zI n)), none], [.int (zI 0), .ref 143], es)) i_213_1 (by rfl) ?_
  refine x_puti (p := 79) (ty := .int) i_213_2 hs_es rfl rfl rfl (Or.inl rfl) ?_
  obtain ⟨es1, e_es1⟩ : ∃ z : PH, z = sI es 79 0 (.int (zI 0)) := ⟨_, rfl⟩
  have hs_es1 : sh es1 := by rw [e_es1]; exact sh_sI hs_es (p := 79) (b := 0) rfl rfl
  have hT_es1 : hOK tT es1 := by rw [e_es1]; exact hOK_sI hT_es (p := 79) (b := 0) (lo := iLO) (hi := iHI) rfl rfl (i32_rng _)
  rw [← e_es1]
  refine x0 (r := (6, [some (.ref 143), some (.int (zI s)), some (.int (zI n)), none], [.ref 143], es1)) i_213_5 rfl ?_
  refine x0 (r := (7, [some (.ref 143), some (.int (zI s)), some (.int (zI n)), none], [.int (zI s), .ref 143], es1)) i_213_6 rfl ?_
  refine x0 (r := (8, [some (.ref 143), some (.int (zI s)), some (.int (zI n)), none], [.int (zI 1), .int (zI s), .ref 143], es1)) i_213_7 (by rfl) ?_
  refine x0 (r := (10, [some (.ref 143), some (.int (zI s)), some (.int (zI n)), none], [.int (zI 7), .int (zI 1), .int (zI s), .ref 143], es1)) i_213_8 (by rfl) ?_
  refine x_call (vs := [.int (zI s), .int (zI 1), .int (zI 7)]) (rs := [.ref 143]) i_213_10 rfl (fun _ => rfl) rfl rfl rfl rfl rfl rfl ?_
  show aW _ _ _ _ _ _ (0, [some (.int (zI s)), some (.int (zI 1)), some (.int (zI 7))], [], es1)
  refine x0 (r := (1, [some (.int (zI s)), some (.int (zI 1)), some (.int (zI 7))], [.int (zI s)], es1)) i_193_0 rfl ?_
  refine x0 (r := (2, [some (.int (zI s)), some (.int (zI 1)), some (.int (zI 7))], [.int (zI 1), .int (zI s)], es1)) i_193_1 rfl ?_
  by_cases c2 : s < 1
  · refine x_cmpT i_193_2 (by unfold i32 iLO iHI; omega) (by unfold i32 iLO iHI; omega) rfl (by simp only [zC, cR]; omega) ?_
    refine x0 (r := (15, [some (.int (zI s)), some (.int (zI 1)), some (.int (zI 7))], [.int (zI 0)], es1)) i_193_14 (by rfl) ?_
    refine x_ret (v := some (.int (zI 0))) i_193_15 rfl (fun _ => rfl) rfl rfl (pFin_b (by omega)) ?_
    show aW _ _ _ _ _ _ (13, [some (.ref 143), some (.int (zI s)), some (.int (zI n)), none], [.int (zI 0), .ref 143], es1)
    refine x_ifF i_213_13 (by unfold i32 iLO iHI; omega) rfl (by simp only [zC, cR]; omega) ?_
    refine x0 (r := (17, [some (.ref 143), some (.int (zI s)), some (.int (zI n)), none], [.int (zI 1), .ref 143], es1)) i_213_16 (by rfl) ?_
    refine x0 (r := (21, [some (.ref 143), some (.int (zI s)), some (.int (zI n)), none], [.int (zI 1), .ref 143], es1)) i_213_17 rfl ?_
    refine x0 (r := (22, [some (.ref 143), some (.int (zI s)), some (.int (zI n)), none], [.int (zI 1), .int (zI 1), .ref 143], es1)) i_213_21 (by rfl) ?_
    refine x_call (vs := [.ref 143, .int (zI 1), .int (zI 1)]) (rs := []) i_213_22 rfl (fun _ => rfl) rfl rfl rfl rfl rfl (pCall_v (p := 79) hs_es1 rfl rfl rfl rfl rfl (by decide) rfl rfl rfl rfl rfl) ?_
    show aW _ _ _ _ _ _ (0, [some (.ref 143), some (.int (zI 1)), some (.int (zI 1))], [], es1)
    refine x0 (r := (1, [some (.ref 143), some (.int (zI 1)), some (.int (zI 1))], [.int (zI 1)], es1)) i_194_0 rfl ?_
    refine x_ifF i_194_1 (by unfold i32 iLO iHI; omega) rfl (by simp only [zC, cR]; omega) ?_
    refine x0 (r := (5, [some (.ref 143), some (.int (zI 1)), some (.int (zI 1))], [.ref 143], es1)) i_194_4 rfl ?_
    refine x0 (r := (6, [some (.ref 143), some (.int (zI 1)), some (.int (zI 1))], [.int (zI 1), .ref 143], es1)) i_194_5 rfl ?_
    refine x_puti (p := 79) (ty := .int) i_194_6 hs_es1 rfl rfl rfl (Or.inl rfl) ?_
    obtain ⟨es3, e_es3⟩ : ∃ z : PH, z = sI es1 79 0 (.int (zI 1)) := ⟨_, rfl⟩
    have hs_es3 : sh es3 := by rw [e_es3]; exact sh_sI hs_es1 (p := 79) (b := 0) rfl rfl
    have hT_es3 : hOK tT es3 := by rw [e_es3]; exact hOK_sI hT_es1 (p := 79) (b := 0) (lo := iLO) (hi := iHI) rfl rfl (i32_rng _)
    rw [← e_es3]
    refine x0 (r := (10, [some (.ref 143), some (.int (zI 1)), some (.int (zI 1))], [.int (zI 1)], es3)) i_194_9 rfl ?_
    refine x_ret (v := some (.int (zI 1))) i_194_10 rfl (fun _ => rfl) rfl rfl (pFin_b (by omega)) ?_
    show aW _ _ _ _ _ _ (25, [some (.ref 143), some (.int (zI s)), some (.int (zI n)), none], [.int (zI 1)], es3)
    refine x_ifT i_213_25 (by unfold i32 iLO iHI; omega) rfl (by simp only [zC, cR]; omega) ?_
    refine x0 (r := (52, [some (.ref 143), some (.int (zI s)), some (.int (zI n)), none], [.int (zI 0)], es3)) i_213_51 (by rfl) ?_
    refine x_ret (v := some (.int (zI 0))) i_213_52 rfl (fun _ => rfl) rfl rfl rfl ?_
    exact K1 es1 e_es1 c2 es3 e_es3
  · refine x_cmpF i_193_2 (by unfold i32 iLO iHI; omega) (by unfold i32 iLO iHI; omega) rfl (by simp only [zC, cR]; omega) ?_
    refine x0 (r := (6, [some (.int (zI s)), some (.int (zI 1)), some (.int (zI 7))], [.int (zI s)], es1)) i_193_5 rfl ?_
    refine x0 (r := (7, [some (.int (zI s)), some (.int (zI 1)), some (.int (zI 7))], [.int (zI 7), .int (zI s)], es1)) i_193_6 rfl ?_
    by_cases c4 : 7 < s
    · refine x_cmpT i_193_7 (by unfold i32 iLO iHI; omega) (by unfold i32 iLO iHI; omega) rfl (by simp only [zC, cR]; omega) ?_
      refine x0 (r := (15, [some (.int (zI s)), some (.int (zI 1)), some (.int (zI 7))], [.int (zI 0)], es1)) i_193_14 (by rfl) ?_
      refine x_ret (v := some (.int (zI 0))) i_193_15 rfl (fun _ => rfl) rfl rfl (pFin_b (by omega)) ?_
      show aW _ _ _ _ _ _ (13, [some (.ref 143), some (.int (zI s)), some (.int (zI n)), none], [.int (zI 0), .ref 143], es1)
      refine x_ifF i_213_13 (by unfold i32 iLO iHI; omega) rfl (by simp only [zC, cR]; omega) ?_
      refine x0 (r := (17, [some (.ref 143), some (.int (zI s)), some (.int (zI n)), none], [.int (zI 1), .ref 143], es1)) i_213_16 (by rfl) ?_
      refine x0 (r := (21, [some (.ref 143), some (.int (zI s)), some (.int (zI n)), none], [.int (zI 1), .ref 143], es1)) i_213_17 rfl ?_
      refine x0 (r := (22, [some (.ref 143), some (.int (zI s)), some (.int (zI n)), none], [.int (zI 1), .int (zI 1), .ref 143], es1)) i_213_21 (by rfl) ?_
      refine x_call (vs := [.ref 143, .int (zI 1), .int (zI 1)]) (rs := []) i_213_22 rfl (fun _ => rfl) rfl rfl rfl rfl rfl (pCall_v (p := 79) hs_es1 rfl rfl rfl rfl rfl (by decide) rfl rfl rfl rfl rfl) ?_
      show aW _ _ _ _ _ _ (0, [some (.ref 143), some (.int (zI 1)), some (.int (zI 1))], [], es1)
      refine x0 (r := (1, [some (.ref 143), some (.int (zI 1)), some (.int (zI 1))], [.int (zI 1)], es1)) i_194_0 rfl ?_
      refine x_ifF i_194_1 (by unfold i32 iLO iHI; omega) rfl (by simp only [zC, cR]; omega) ?_
      refine x0 (r := (5, [some (.ref 143), some (.int (zI 1)), some (.int (zI 1))], [.ref 143], es1)) i_194_4 rfl ?_
      refine x0 (r := (6, [some (.ref 143), some (.int (zI 1)), some (.int (zI 1))], [.int (zI 1), .ref 143], es1)) i_194_5 rfl ?_
      refine x_puti (p := 79) (ty := .int) i_194_6 hs_es1 rfl rfl rfl (Or.inl rfl) ?_
      obtain ⟨es5, e_es5⟩ : ∃ z : PH, z = sI es1 79 0 (.int (zI 1)) := ⟨_, rfl⟩
      have hs_es5 : sh es5 := by rw [e_es5]; exact sh_sI hs_es1 (p := 79) (b := 0) rfl rfl
      have hT_es5 : hOK tT es5 := by rw [e_es5]; exact hOK_sI hT_es1 (p := 79) (b := 0) (lo := iLO) (hi := iHI) rfl rfl (i32_rng _)
      rw [← e_es5]
      refine x0 (r := (10, [some (.ref 143), some (.int (zI 1)), some (.int (zI 1))], [.int (zI 1)], es5)) i_194_9 rfl ?_
      refine x_ret (v := some (.int (zI 1))) i_194_10 rfl (fun _ => rfl) rfl rfl (pFin_b (by omega)) ?_
      show aW _ _ _ _ _ _ (25, [some (.ref 143), some (.int (zI s)), some (.int (zI n)), none], [.int (zI 1)], es5)
      refine x_ifT i_213_25 (by unfold i32 iLO iHI; omega) rfl (by simp only [zC, cR]; omega) ?_
      refine x0 (r := (52, [some (.ref 143), some (.int (zI s)), some (.int (zI n)), none], [.int (zI 0)], es5)) i_213_51 (by rfl) ?_
      refine x_ret (v := some (.int (zI 0))) i_213_52 rfl (fun _ => rfl) rfl rfl rfl ?_
      exact K2 es1 e_es1 c2 c4 es5 e_es5
    · refine x_cmpF i_193_7 (by unfold i32 iLO iHI; omega) (by unfold i32 iLO iHI; omega) rfl (by simp only [zC, cR]; omega) ?_
      refine x0 (r := (11, [some (.int (zI s)), some (.int (zI 1)), some (.int (zI 7))], [.int (zI 1)], es1)) i_193_10 (by rfl) ?_
      refine x0 (r := (15, [some (.int (zI s)), some (.int (zI 1)), some (.int (zI 7))], [.int (zI 1)], es1)) i_193_11 rfl ?_
      refine x_ret (v := some (.int (zI 1))) i_193_15 rfl (fun _ => rfl) rfl rfl (pFin_b (by omega)) ?_
      show aW _ _ _ _ _ _ (13, [some (.ref 143), some (.int (zI s)), some (.int (zI n)), none], [.int (zI 1), .ref 143], es1)
      refine x_ifT i_213_13 (by unfold i32 iLO iHI; omega) rfl (by simp only [zC, cR]; omega) ?_
      refine x0 (r := (21, [some (.ref 143), some (.int (zI s)), some (.int (zI n)), none], [.int (zI 0), .ref 143], es1)) i_213_20 (by rfl) ?_
      refine x0 (r := (22, [some (.ref 143), some (.int (zI s)), some (.int (zI n)), none], [.int (zI 1), .int (zI 0), .ref 143], es1)) i_213_21 (by rfl) ?_
      refine x_call (vs := [.ref 143, .int (zI 0), .int (zI 1)]) (rs := []) i_213_22 rfl (fun _ => rfl) rfl rfl rfl rfl rfl (pCall_v (p := 79) hs_es1 rfl rfl rfl rfl rfl (by decide) rfl rfl rfl rfl rfl) ?_
      show aW _ _ _ _ _ _ (0, [some (.ref 143), some (.int (zI 0)), some (.int (zI 1))], [], es1)
      refine x0 (r := (1, [some (.ref 143), some (.int (zI 0)), some (.int (zI 1))], [.int (zI 0)], es1)) i_194_0 rfl ?_
      refine x_ifT i_194_1 (by unfold i32 iLO iHI; omega) rfl (by simp only [zC, cR]; omega) ?_
      refine x0 (r := (10, [some (.ref 143), some (.int (zI 0)), some (.int (zI 1))], [.int (zI 0)], es1)) i_194_9 rfl ?_
      refine x_ret (v := some (.int (zI 0))) i_194_10 rfl (fun _ => rfl) rfl rfl (pFin_b (by omega)) ?_
      show aW _ _ _ _ _ _ (25, [some (.ref 143), some (.int (zI s)), some (.int (zI n)), none], [.int (zI 0)], es1)
      refine x_ifF i_213_25 (by unfold i32 iLO iHI; omega) rfl (by simp only [zC, cR]; omega) ?_
      refine x0 (r := (29, [some (.ref 143), some (.int (zI s)), some (.int (zI n)), none], [.ref 143], es1)) i_213_28 rfl ?_
      refine x0 (r := (30, [some (.ref 143), some (.int (zI s)), some (.int (zI n)), none], [.int (zI n), .ref 143], es1)) i_213_29 rfl ?_
      refine x0 (r := (31, [some (.ref 143), some (.int (zI s)), some (.int (zI n)), none], [.int (zI 0), .int (zI n), .ref 143], es1)) i_213_30 (by rfl) ?_
      refine x0 (r := (33, [some (.ref 143), some (.int (zI s)), some (.int (zI n)), none], [.int (zI 9), .int (zI 0), .int (zI n), .ref 143], es1)) i_213_31 (by rfl) ?_
      refine x_call (vs := [.int (zI n), .int (zI 0), .int (zI 9)]) (rs := [.ref 143]) i_213_33 rfl (fun _ => rfl) rfl rfl rfl rfl rfl rfl ?_
      show aW _ _ _ _ _ _ (0, [some (.int (zI n)), some (.int (zI 0)), some (.int (zI 9))], [], es1)
      refine x0 (r := (1, [some (.int (zI n)), some (.int (zI 0)), some (.int (zI 9))], [.int (zI n)], es1)) i_193_0 rfl ?_
      refine x0 (r := (2, [some (.int (zI n)), some (.int (zI 0)), some (.int (zI 9))], [.int (zI 0), .int (zI n)], es1)) i_193_1 rfl ?_
      by_cases c6 : n < 0
      · refine x_cmpT i_193_2 (by unfold i32 iLO iHI; omega) (by unfold i32 iLO iHI; omega) rfl (by simp only [zC, cR]; omega) ?_
        refine x0 (r := (15, [some (.int (zI n)), some (.int (zI 0)), some (.int (zI 9))], [.int (zI 0)], es1)) i_193_14 (by rfl) ?_
        refine x_ret (v := some (.int (zI 0))) i_193_15 rfl (fun _ => rfl) rfl rfl (pFin_b (by omega)) ?_
        show aW _ _ _ _ _ _ (36, [some (.ref 143), some (.int (zI s)), some (.int (zI n)), none], [.int (zI 0), .ref 143], es1)
        refine x_ifF i_213_36 (by unfold i32 iLO iHI; omega) rfl (by simp only [zC, cR]; omega) ?_
        refine x0 (r := (40, [some (.ref 143), some (.int (zI s)), some (.int (zI n)), none], [.int (zI 1), .ref 143], es1)) i_213_39 (by rfl) ?_
        refine x0 (r := (44, [some (.ref 143), some (.int (zI s)), some (.int (zI n)), none], [.int (zI 1), .ref 143], es1)) i_213_40 rfl ?_
        refine x0 (r := (45, [some (.ref 143), some (.int (zI s)), some (.int (zI n)), none], [.int (zI 2), .int (zI 1), .ref 143], es1)) i_213_44 (by rfl) ?_
        refine x_call (vs := [.ref 143, .int (zI 1), .int (zI 2)]) (rs := []) i_213_45 rfl (fun _ => rfl) rfl rfl rfl rfl rfl (pCall_v (p := 79) hs_es1 rfl rfl rfl rfl rfl (by decide) rfl rfl rfl rfl rfl) ?_
        show aW _ _ _ _ _ _ (0, [some (.ref 143), some (.int (zI 1)), some (.int (zI 2))], [], es1)
        refine x0 (r := (1, [some (.ref 143), some (.int (zI 1)), some (.int (zI 2))], [.int (zI 1)], es1)) i_194_0 rfl ?_
        refine x_ifF i_194_1 (by unfold i32 iLO iHI; omega) rfl (by simp only [zC, cR]; omega) ?_
        refine x0 (r := (5, [some (.ref 143), some (.int (zI 1)), some (.int (zI 2))], [.ref 143], es1)) i_194_4 rfl ?_
        refine x0 (r := (6, [some (.ref 143), some (.int (zI 1)), some (.int (zI 2))], [.int (zI 2), .ref 143], es1)) i_194_5 rfl ?_
        refine x_puti (p := 79) (ty := .int) i_194_6 hs_es1 rfl rfl rfl (Or.inl rfl) ?_
        obtain ⟨es7, e_es7⟩ : ∃ z : PH, z = sI es1 79 0 (.int (zI 2)) := ⟨_, rfl⟩
        have hs_es7 : sh es7 := by rw [e_es7]; exact sh_sI hs_es1 (p := 79) (b := 0) rfl rfl
        have hT_es7 : hOK tT es7 := by rw [e_es7]; exact hOK_sI hT_es1 (p := 79) (b := 0) (lo := iLO) (hi := iHI) rfl rfl (i32_rng _)
        rw [← e_es7]
        refine x0 (r := (10, [some (.ref 143), some (.int (zI 1)), some (.int (zI 2))], [.int (zI 1)], es7)) i_194_9 rfl ?_
        refine x_ret (v := some (.int (zI 1))) i_194_10 rfl (fun _ => rfl) rfl rfl (pFin_b (by omega)) ?_
        show aW _ _ _ _ _ _ (48, [some (.ref 143), some (.int (zI s)), some (.int (zI n)), none], [.int (zI 1)], es7)
        refine x_ifF i_213_48 (by unfold i32 iLO iHI; omega) rfl (by simp only [zC, cR]; omega) ?_
        refine x0 (r := (52, [some (.ref 143), some (.int (zI s)), some (.int (zI n)), none], [.int (zI 0)], es7)) i_213_51 (by rfl) ?_
        refine x_ret (v := some (.int (zI 0))) i_213_52 rfl (fun _ => rfl) rfl rfl rfl ?_
        exact K3 es1 e_es1 c2 c4 c6 es7 e_es7
      · refine x_cmpF i_193_2 (by unfold i32 iLO iHI; omega) (by unfold i32 iLO iHI; omega) rfl (by simp only [zC, cR]; omega) ?_
        refine x0 (r := (6, [some (.int (zI n)), some (.int (zI 0)), some (.int (zI 9))], [.int (zI n)], es1)) i_193_5 rfl ?_
        refine x0 (r := (7, [some (.int (zI n)), some (.int (zI 0)), some (.int (zI 9))], [.int (zI 9), .int (zI n)], es1)) i_193_6 rfl ?_
        by_cases c8 : 9 < n
        · refine x_cmpT i_193_7 (by unfold i32 iLO iHI; omega) (by unfold i32 iLO iHI; omega) rfl (by simp only [zC, cR]; omega) ?_
          refine x0 (r := (15, [some (.int (zI n)), some (.int (zI 0)), some (.int (zI 9))], [.int (zI 0)], es1)) i_193_14 (by rfl) ?_
          refine x_ret (v := some (.int (zI 0))) i_193_15 rfl (fun _ => rfl) rfl rfl (pFin_b (by omega)) ?_
          show aW _ _ _ _ _ _ (36, [some (.ref 143), some (.int (zI s)), some (.int (zI n)), none], [.int (zI 0), .ref 143], es1)
          refine x_ifF i_213_36 (by unfold i32 iLO iHI; omega) rfl (by simp only [zC, cR]; omega) ?_
          refine x0 (r := (40, [some (.ref 143), some (.int (zI s)), some (.int (zI n)), none], [.int (zI 1), .ref 143], es1)) i_213_39 (by rfl) ?_
          refine x0 (r := (44, [some (.ref 143), some (.int (zI s)), some (.int (zI n)), none], [.int (zI 1), .ref 143], es1)) i_213_40 rfl ?_
          refine x0 (r := (45, [some (.ref 143), some (.int (zI s)), some (.int (zI n)), none], [.int (zI 2), .int (zI 1), .ref 143], es1)) i_213_44 (by rfl) ?_
          refine x_call (vs := [.ref 143, .int (zI 1), .int (zI 2)]) (rs := []) i_213_45 rfl (fun _ => rfl) rfl rfl rfl rfl rfl (pCall_v (p := 79) hs_es1 rfl rfl rfl rfl rfl (by decide) rfl rfl rfl rfl rfl) ?_
          show aW _ _ _ _ _ _ (0, [some (.ref 143), some (.int (zI 1)), some (.int (zI 2))], [], es1)
          refine x0 (r := (1, [some (.ref 143), some (.int (zI 1)), some (.int (zI 2))], [.int (zI 1)], es1)) i_194_0 rfl ?_
          refine x_ifF i_194_1 (by unfold i32 iLO iHI; omega) rfl (by simp only [zC, cR]; omega) ?_
          refine x0 (r := (5, [some (.ref 143), some (.int (zI 1)), some (.int (zI 2))], [.ref 143], es1)) i_194_4 rfl ?_
          refine x0 (r := (6, [some (.ref 143), some (.int (zI 1)), some (.int (zI 2))], [.int (zI 2), .ref 143], es1)) i_194_5 rfl ?_
          refine x_puti (p := 79) (ty := .int) i_194_6 hs_es1 rfl rfl rfl (Or.inl rfl) ?_
          obtain ⟨es9, e_es9⟩ : ∃ z : PH, z = sI es1 79 0 (.int (zI 2)) := ⟨_, rfl⟩
          have hs_es9 : sh es9 := by rw [e_es9]; exact sh_sI hs_es1 (p := 79) (b := 0) rfl rfl
          have hT_es9 : hOK tT es9 := by rw [e_es9]; exact hOK_sI hT_es1 (p := 79) (b := 0) (lo := iLO) (hi := iHI) rfl rfl (i32_rng _)
          rw [← e_es9]
          refine x0 (r := (10, [some (.ref 143), some (.int (zI 1)), some (.int (zI 2))], [.int (zI 1)], es9)) i_194_9 rfl ?_
          refine x_ret (v := some (.int (zI 1))) i_194_10 rfl (fun _ => rfl) rfl rfl (pFin_b (by omega)) ?_
          show aW _ _ _ _ _ _ (48, [some (.ref 143), some (.int (zI s)), some (.int (zI n)), none], [.int (zI 1)], es9)
          refine x_ifF i_213_48 (by unfold i32 iLO iHI; omega) rfl (by simp only [zC, cR]; omega) ?_
          refine x0 (r := (52, [some (.ref 143), some (.int (zI s)), some (.int (zI n)), none], [.int (zI 0)], es9)) i_213_51 (by rfl) ?_
          refine x_ret (v := some (.int (zI 0))) i_213_52 rfl (fun _ => rfl) rfl rfl rfl ?_
          exact K4 es1 e_es1 c2 c4 c6 c8 es9 e_es9
        · refine x_cmpF i_193_7 (by unfold i32 iLO iHI; omega) (by unfold i32 iLO iHI; omega) rfl (by simp only [zC, cR]; omega) ?_
          refine x0 (r := (11, [some (.int (zI n)), some (.int (zI 0)), some (.int (zI 9))], [.int (zI 1)], es1)) i_193_10 (by rfl) ?_
          refine x0 (r := (15, [some (.int (zI n)), some (.int (zI 0)), some (.int (zI 9))], [.int (zI 1)], es1)) i_193_11 rfl ?_
          refine x_ret (v := some (.int (zI 1))) i_193_15 rfl (fun _ => rfl) rfl rfl (pFin_b (by omega)) ?_
          show aW _ _ _ _ _ _ (36, [some (.ref 143), some (.int (zI s)), some (.int (zI n)), none], [.int (zI 1), .ref 143], es1)
          refine x_ifT i_213_36 (by unfold i32 iLO iHI; omega) rfl (by simp only [zC, cR]; omega) ?_
          refine x0 (r := (44, [some (.ref 143), some (.int (zI s)), some (.int (zI n)), none], [.int (zI 0), .ref 143], es1)) i_213_43 (by rfl) ?_
          refine x0 (r := (45, [some (.ref 143), some (.int (zI s)), some (.int (zI n)), none], [.int (zI 2), .int (zI 0), .ref 143], es1)) i_213_44 (by rfl) ?_
          refine x_call (vs := [.ref 143, .int (zI 0), .int (zI 2)]) (rs := []) i_213_45 rfl (fun _ => rfl) rfl rfl rfl rfl rfl (pCall_v (p := 79) hs_es1 rfl rfl rfl rfl rfl (by decide) rfl rfl rfl rfl rfl) ?_
          show aW _ _ _ _ _ _ (0, [some (.ref 143), some (.int (zI 0)), some (.int (zI 2))], [], es1)
          refine x0 (r := (1, [some (.ref 143), some (.int (zI 0)), some (.int (zI 2))], [.int (zI 0)], es1)) i_194_0 rfl ?_
          refine x_ifT i_194_1 (by unfold i32 iLO iHI; omega) rfl (by simp only [zC, cR]; omega) ?_
          refine x0 (r := (10, [some (.ref 143), some (.int (zI 0)), some (.int (zI 2))], [.int (zI 0)], es1)) i_194_9 rfl ?_
          refine x_ret (v := some (.int (zI 0))) i_194_10 rfl (fun _ => rfl) rfl rfl (pFin_b (by omega)) ?_
          show aW _ _ _ _ _ _ (48, [some (.ref 143), some (.int (zI s)), some (.int (zI n)), none], [.int (zI 0)], es1)
          refine x_ifT i_213_48 (by unfold i32 iLO iHI; omega) rfl (by simp only [zC, cR]; omega) ?_
          refine x0 (r := (54, [some (.ref 143), some (.int (zI s)), some (.int (zI n)), none], [.ref 143], es1)) i_213_53 rfl ?_
          refine x_getr (p := 79) (k := 144) i_213_54 hs_es1 rfl rfl ?_
          show aW _ _ _ _ _ _ (57, [some (.ref 143), some (.int (zI s)), some (.int (zI n)), none], [.ref 144], es1)
          refine x0 (r := (58, [some (.ref 143), some (.int (zI s)), some (.int (zI n)), none], [.int (zI 5), .ref 144], es1)) i_213_57 (by rfl) ?_
          refine x0 (r := (59, [some (.ref 143), some (.int (zI s)), some (.int (zI n)), none], [.int (zI s), .int (zI 5), .ref 144], es1)) i_213_58 rfl ?_
          refine x_iadd i_213_59 ?_
          refine x_iald (p := 80) i_213_60 hs_es1 rfl (by unfold i32 iLO iHI; omega) (by omega) (by omega) ?_
          obtain ⟨v10, e_v10⟩ : ∃ z : Int, z = (gA es1 80 (5 + s).toNat).toInt := ⟨_, rfl⟩
          rw [← e_v10]
          have r_v10 : iLO ≤ v10 ∧ v10 ≤ iHI := by rw [e_v10]; exact i32_rng _
          unfold iLO iHI at r_v10
          refine x0 (r := (62, [some (.ref 143), some (.int (zI s)), some (.int (zI n)), some (.int (zI v10))], [], es1)) i_213_61 rfl ?_
          refine x0 (r := (63, [some (.ref 143), some (.int (zI s)), some (.int (zI n)), some (.int (zI v10))], [.ref 143], es1)) i_213_62 rfl ?_
          refine x_getr (p := 79) (k := 144) i_213_63 hs_es1 rfl rfl ?_
          show aW _ _ _ _ _ _ (66, [some (.ref 143), some (.int (zI s)), some (.int (zI n)), some (.int (zI v10))], [.ref 144], es1)
          refine x0 (r := (67, [some (.ref 143), some (.int (zI s)), some (.int (zI n)), some (.int (zI v10))], [.int (zI 5), .ref 144], es1)) i_213_66 (by rfl) ?_
          refine x0 (r := (68, [some (.ref 143), some (.int (zI s)), some (.int (zI n)), some (.int (zI v10))], [.int (zI s), .int (zI 5), .ref 144], es1)) i_213_67 rfl ?_
          refine x_iadd i_213_68 ?_
          refine x0 (r := (70, [some (.ref 143), some (.int (zI s)), some (.int (zI n)), some (.int (zI v10))], [.int (zI n), .int (zI (5 + s)), .ref 144], es1)) i_213_69 rfl ?_
          refine x_iast (p := 80) i_213_70 hs_es1 rfl (by unfold i32 iLO iHI; omega) (by omega) (by omega) ?_
          obtain ⟨es11, e_es11⟩ : ∃ z : PH, z = sA es1 80 (5 + s).toNat (zI n) := ⟨_, rfl⟩
          have hs_es11 : sh es11 := by rw [e_es11]; exact sh_sA hs_es1
          rw [← e_es11]
          refine x0 (r := (72, [some (.ref 143), some (.int (zI s)), some (.int (zI n)), some (.int (zI v10))], [.int (zI v10)], es11)) i_213_71 rfl ?_
          refine x_ret (v := some (.int (zI v10))) i_213_72 rfl (fun _ => rfl) rfl rfl rfl ?_
          exact K5 es1 e_es1 c2 c4 c6 c8 v10 e_v10 es11 e_es11
def xprP (s n : Int) (es : PH) (r : Option Value ⊕ Nat) (es1 : PH) : Prop := sh es1 ∧ ((r = .inr 2 ∧ (s < 1 ∨ 7 < s) ∧ es1 = es) ∨ (r = .inr 0 ∧ (1 ≤ s ∧ s ≤ 7) ∧ (n < 0 ∨ 9 < n) ∧ es1 = es) ∨ (r = .inl (some (.int (zI (gA es 15 s.toNat).toInt))) ∧ (1 ≤ s ∧ s ≤ 7) ∧ (0 ≤ n ∧ n ≤ 9) ∧ gA es1 15 = upd (gA es 15) s.toNat (zI n)))
theorem fn_xprice {O : pOut} {d : Nat} {es : PH} {s n : Int} (hs : i32 s) (hn : i32 n) (hT : hOK tT es) : aW O (d + 1) 130 0 0 (fun o => xprP s n es o.1 o.2.1) (0, [some (.ref 64), some (.int (zI s)), some (.int (zI n)), none], [], es) := by
  have hs_es := sh_of hT
  refine s_xpr (d := d) (kc := 0) (ks := 0) hs_es hs hn hT (fun c1 => ?_) (fun c1 c2 => ?_) (fun c1 c2 c3 => ?_) (fun c1 c2 c3 c4 v5 e_v5 es6 e_es6 es7 e_es7 es8 e_es8 => ?_) (fun c1 c2 c3 c4 => ?_)
  · exact ⟨hs_es, Or.inl ⟨rfl, by omega, rfl⟩⟩
  · exact ⟨hs_es, Or.inl ⟨rfl, by omega, rfl⟩⟩
  · exact ⟨hs_es, Or.inr (Or.inl ⟨rfl, by omega, by omega, rfl⟩)⟩
  · have hs_es6 : sh es6 := by rw [e_es6]; exact sh_sA hs_es
    have hs_es7 : sh es7 := by rw [e_es7]; exact sh_sI hs_es6 (p := 0) (b := 10) rfl rfl
    have hs_es8 : sh es8 := by rw [e_es8]; exact sh_sI hs_es7 (p := 73) (b := 3) rfl rfl
    exact ⟨hs_es8, Or.inr (Or.inr ⟨by rw [e_v5], by omega, by omega, by show gA es8 15 = _; rw [e_es8, gA_sI, e_es7, gA_sI, e_es6, gA_sA hs_es (p := 15) (t := 0) (n := 8) rfl (by decide)]⟩)⟩
  · exact ⟨hs_es, Or.inr (Or.inl ⟨rfl, by omega, by omega, rfl⟩)⟩
def yprP (s n : Int) (es : PH) (r : Option Value ⊕ Nat) (es1 : PH) : Prop := sh es1 ∧ ∃ k : Int, r = .inl (some (.int (zI k))) ∧ ((k = 1 ∧ (s < 1 ∨ 7 < s) ∧ gA es1 15 = gA es 15) ∨ (k = 2 ∧ ((1 ≤ s ∧ s ≤ 7) ∧ (n < 0 ∨ 9 < n)) ∧ gA es1 15 = gA es 15) ∨ (k = 0 ∧ ((1 ≤ s ∧ s ≤ 7) ∧ (0 ≤ n ∧ n ≤ 9)) ∧ gA es1 15 = upd (gA es 15) s.toNat (zI n) ∧ (gJ es1 107 (Int.toNat 0)).toInt = (gA es 15 s.toNat).toInt))
theorem fn_yprice {O : pOut} {d : Nat} {es : PH} {s n : Int} (hs : i32 s) (hn : i32 n) (hT : hOK tT es) : aW O (d + 2) 286 0 0 (fun o => yprP s n es o.1 o.2.1) (0, [some (.ref 64), some (.int (zI s)), some (.int (zI n)), some (.ref 171), none], [], es) := by
  refine s_ypr0 (sh_of hT) ?_
  refine x_call (vs := [.ref 64, .int (zI s), .int (zI n)]) (rs := [.int (zI 0), .ref 171]) i_286_5 rfl (fun _ => rfl) rfl rfl rfl rfl rfl (pCall_v (p := 0) (sh_of hT) rfl rfl rfl rfl rfl (by decide) rfl rfl rfl rfl rfl) ?_
  show aW _ _ _ _ _ _ (0, [some (.ref 64), some (.int (zI s)), some (.int (zI n)), none], [], es)
  refine aW_mono (Nat.le_refl _) (fun o ho => ?_) (fn_xprice (O := O) (d := d) hs hn hT)
  obtain ⟨r, es', kc', ks'⟩ := o
  obtain ⟨hs1, h⟩ : xprP s n es r es' := ho
  rcases h with ⟨rfl, h1, h2⟩ | ⟨rfl, h1, h2, h3⟩ | ⟨rfl, h1, h2, h3⟩
  · refine ⟨_, _, _, _, rfl, rfl, rfl, ?_⟩
    show aW _ _ _ _ _ _ (15, [some (.ref 64), some (.int (zI s)), some (.int (zI n)), some (.ref 171), none], [], es')
    exact s_ypr15 hs1 ⟨hs1, 1, rfl, Or.inl ⟨rfl, h1, by rw [h2]⟩⟩
  · refine ⟨_, _, _, _, rfl, rfl, rfl, ?_⟩
    show aW _ _ _ _ _ _ (19, [some (.ref 64), some (.int (zI s)), some (.int (zI n)), some (.ref 171), none], [], es')
    exact s_ypr19 hs1 ⟨hs1, 2, rfl, Or.inr (Or.inl ⟨rfl, ⟨h1, h2⟩, by rw [h3]⟩)⟩
  · refine aK_inl ?_
    show aW _ _ _ _ _ _ (8, [some (.ref 64), some (.int (zI s)), some (.int (zI n)), some (.ref 171), none], [.int (zI (gA es 15 s.toNat).toInt), .int (zI 0), .ref 171], es')
    refine s_ypr8 hs1 (fun es1 e_es1 => ?_)
    have g1 : gA es1 15 = upd (gA es 15) s.toNat (zI n) := by rw [e_es1, gA_sJ]; exact h3
    have g2 : (gJ es1 107 (Int.toNat 0)).toInt = (gA es 15 s.toNat).toInt := by
      rw [e_es1, gJ_sJ hs1 (p := 107) (n := 1) rfl]
      unfold vp_updL
      rw [if_pos rfl, i2l_int (i32_rng _)]
    exact ⟨by show sh es1; rw [e_es1]; exact sh_sJ hs1, 0, rfl, Or.inr (Or.inr ⟨rfl, ⟨h1, h2⟩, g1, g2⟩)⟩
def mprP (s n : Int) (es : PH) (r : Option Value ⊕ Nat) (es1 : PH) : Prop := sh es1 ∧ gJ es1 107 = gJ es 107 ∧ ∃ v : Int, r = .inl (some (.int (zI v))) ∧ i32 v ∧ (((gI es1 79 0).toInt = 1 ∧ (s < 1 ∨ 7 < s) ∧ gA es1 80 = gA es 80) ∨ ((gI es1 79 0).toInt = 2 ∧ ((1 ≤ s ∧ s ≤ 7) ∧ (n < 0 ∨ 9 < n)) ∧ gA es1 80 = gA es 80) ∨ ((gI es1 79 0).toInt = 0 ∧ ((1 ≤ s ∧ s ≤ 7) ∧ (0 ≤ n ∧ n ≤ 9)) ∧ v = (gA es 80 (5 + s).toNat).toInt ∧ gA es1 80 = upd (gA es 80) (5 + s).toNat (zI n)))
theorem fn_mprice {O : pOut} {d : Nat} {es : PH} {s n : Int} (hs : i32 s) (hn : i32 n) (hT : hOK tT es) : aW O (d + 1) 213 0 0 (fun o => mprP s n es o.1 o.2.1) (0, [some (.ref 143), some (.int (zI s)), some (.int (zI n)), none], [], es) := by
  have hs_es := sh_of hT
  refine s_mpr (d := d) (kc := 0) (ks := 0) hs_es hs hn hT (fun es1 e_es1 c2 es3 e_es3 => ?_) (fun es1 e_es1 c2 c4 es5 e_es5 => ?_) (fun es1 e_es1 c2 c4 c6 es7 e_es7 => ?_) (fun es1 e_es1 c2 c4 c6 c8 es9 e_es9 => ?_) (fun es1 e_es1 c2 c4 c6 c8 v10 e_v10 es11 e_es11 => ?_)
  · have hs_es1 : sh es1 := by rw [e_es1]; exact sh_sI hs_es (p := 79) (b := 0) rfl rfl
    have hs_es3 : sh es3 := by rw [e_es3]; exact sh_sI hs_es1 (p := 79) (b := 0) rfl rfl
    exact ⟨hs_es3, by show gJ es3 107 = _; rw [e_es3, gJ_sI, e_es1, gJ_sI], _, rfl, by unfold i32 iLO iHI; omega, Or.inl ⟨by show (gI es3 79 0).toInt = _; rw [e_es3, gI_sI hs_es1 (p := 79) (b := 0) rfl (by decide)]; rfl, by omega, by show gA es3 80 = _; rw [e_es3, gA_sI, e_es1, gA_sI]⟩⟩
  · have hs_es1 : sh es1 := by rw [e_es1]; exact sh_sI hs_es (p := 79) (b := 0) rfl rfl
    have hs_es5 : sh es5 := by rw [e_es5]; exact sh_sI hs_es1 (p := 79) (b := 0) rfl rfl
    exact ⟨hs_es5, by show gJ es5 107 = _; rw [e_es5, gJ_sI, e_es1, gJ_sI], _, rfl, by unfold i32 iLO iHI; omega, Or.inl ⟨by show (gI es5 79 0).toInt = _; rw [e_es5, gI_sI hs_es1 (p := 79) (b := 0) rfl (by decide)]; rfl, by omega, by show gA es5 80 = _; rw [e_es5, gA_sI, e_es1, gA_sI]⟩⟩
  · have hs_es1 : sh es1 := by rw [e_es1]; exact sh_sI hs_es (p := 79) (b := 0) rfl rfl
    have hs_es7 : sh es7 := by rw [e_es7]; exact sh_sI hs_es1 (p := 79) (b := 0) rfl rfl
    exact ⟨hs_es7, by show gJ es7 107 = _; rw [e_es7, gJ_sI, e_es1, gJ_sI], _, rfl, by unfold i32 iLO iHI; omega, Or.inr (Or.inl ⟨by show (gI es7 79 0).toInt = _; rw [e_es7, gI_sI hs_es1 (p := 79) (b := 0) rfl (by decide)]; rfl, by omega, by show gA es7 80 = _; rw [e_es7, gA_sI, e_es1, gA_sI]⟩)⟩
  · have hs_es1 : sh es1 := by rw [e_es1]; exact sh_sI hs_es (p := 79) (b := 0) rfl rfl
    have hs_es9 : sh es9 := by rw [e_es9]; exact sh_sI hs_es1 (p := 79) (b := 0) rfl rfl
    exact ⟨hs_es9, by show gJ es9 107 = _; rw [e_es9, gJ_sI, e_es1, gJ_sI], _, rfl, by unfold i32 iLO iHI; omega, Or.inr (Or.inl ⟨by show (gI es9 79 0).toInt = _; rw [e_es9, gI_sI hs_es1 (p := 79) (b := 0) rfl (by decide)]; rfl, by omega, by show gA es9 80 = _; rw [e_es9, gA_sI, e_es1, gA_sI]⟩)⟩
  · have hs_es1 : sh es1 := by rw [e_es1]; exact sh_sI hs_es (p := 79) (b := 0) rfl rfl
    have hs_es11 : sh es11 := by rw [e_es11]; exact sh_sA hs_es1
    exact ⟨hs_es11, by show gJ es11 107 = _; rw [e_es11, gJ_sA, e_es1, gJ_sI], _, rfl, by rw [e_v10]; exact i32_rng _, Or.inr (Or.inr ⟨by show (gI es11 79 0).toInt = _; rw [e_es11, gI_sA, e_es1, gI_sI hs_es (p := 79) (b := 0) rfl (by decide)]; rfl, by omega, by rw [e_v10, e_es1, gA_sI], by show gA es11 80 = _; rw [e_es11, gA_sA hs_es1 (p := 80) (t := 0) (n := 2125) (sp := tS80) rfl (by decide), e_es1, gA_sI]⟩)⟩
