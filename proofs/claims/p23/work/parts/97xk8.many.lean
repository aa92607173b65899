theorem i_108_0 : iRow 108 0 = some (.iconst 0, 0, 0, 0, (some (Jvm.ClassFile.FieldType.int))) := rfl
theorem i_108_1 : iRow 108 1 = some (.istore_n 2, 0, 0, 0, (some (Jvm.ClassFile.FieldType.int))) := rfl
theorem i_108_2 : iRow 108 2 = some (.iconst 0, 0, 0, 0, (some (Jvm.ClassFile.FieldType.int))) := rfl
theorem i_108_3 : iRow 108 3 = some (.istore_n 3, 0, 0, 0, (some (Jvm.ClassFile.FieldType.int))) := rfl
theorem i_108_4 : iRow 108 4 = some (.iload_n 3, 0, 0, 0, (some (Jvm.ClassFile.FieldType.int))) := rfl
theorem i_108_5 : iRow 108 5 = some (.bipush 36, 0, 0, 0, (some (Jvm.ClassFile.FieldType.int))) := rfl
theorem i_108_7 : iRow 108 7 = some (.if_icmp .ge 21, 0, 0, 0, (some (Jvm.ClassFile.FieldType.int))) := rfl
theorem i_108_10 : iRow 108 10 = some (.iload_n 2, 0, 0, 0, (some (Jvm.ClassFile.FieldType.int))) := rfl
theorem i_108_11 : iRow 108 11 = some (.aload_n 0, 0, 0, 0, (some (Jvm.ClassFile.FieldType.int))) := rfl
theorem i_108_12 : iRow 108 12 = some (.iload_n 3, 0, 0, 0, (some (Jvm.ClassFile.FieldType.int))) := rfl
theorem i_108_13 : iRow 108 13 = some (.iload_n 1, 0, 0, 0, (some (Jvm.ClassFile.FieldType.int))) := rfl
theorem i_108_14 : iRow 108 14 = some (.invokevirtual 40, 145, 47, 1, (some (Jvm.ClassFile.FieldType.int))) := rfl
theorem i_108_17 : iRow 108 17 = some (.invokestatic 44, 146, 109, 0, (some (Jvm.ClassFile.FieldType.int))) := rfl
theorem i_108_20 : iRow 108 20 = some (.iadd, 0, 0, 0, (some (Jvm.ClassFile.FieldType.int))) := rfl
theorem i_108_21 : iRow 108 21 = some (.istore_n 2, 0, 0, 0, (some (Jvm.ClassFile.FieldType.int))) := rfl
theorem i_108_22 : iRow 108 22 = some (.iinc 3 1, 0, 0, 0, (some (Jvm.ClassFile.FieldType.int))) := rfl
theorem i_108_25 : iRow 108 25 = some (.goto (-21), 0, 0, 0, (some (Jvm.ClassFile.FieldType.int))) := rfl
theorem i_108_28 : iRow 108 28 = some (.iload_n 2, 0, 0, 0, (some (Jvm.ClassFile.FieldType.int))) := rfl
theorem i_108_29 : iRow 108 29 = some (.ireturn, 0, 0, 0, (some (Jvm.ClassFile.FieldType.int))) := rfl
theorem i_109_0 : iRow 109 0 = some (.lload_n 0, 0, 0, 0, (some (Jvm.ClassFile.FieldType.int))) := rfl
theorem i_109_1 : iRow 109 1 = some (.lload_n 0, 0, 0, 0, (some (Jvm.ClassFile.FieldType.int))) := rfl
theorem i_109_2 : iRow 109 2 = some (.iconst 1, 0, 0, 0, (some (Jvm.ClassFile.FieldType.int))) := rfl
theorem i_109_3 : iRow 109 3 = some (.lushr, 0, 0, 0, (some (Jvm.ClassFile.FieldType.int))) := rfl
theorem i_109_4 : iRow 109 4 = some (.ldc2_w 314, 1, 0, 0, (some (Jvm.ClassFile.FieldType.int))) := rfl
theorem i_109_7 : iRow 109 7 = some (.land, 0, 0, 0, (some (Jvm.ClassFile.FieldType.int))) := rfl
theorem i_109_8 : iRow 109 8 = some (.lsub, 0, 0, 0, (some (Jvm.ClassFile.FieldType.int))) := rfl
theorem i_109_9 : iRow 109 9 = some (.lstore_n 0, 0, 0, 0, (some (Jvm.ClassFile.FieldType.int))) := rfl
theorem i_109_10 : iRow 109 10 = some (.lload_n 0, 0, 0, 0, (some (Jvm.ClassFile.FieldType.int))) := rfl
theorem i_109_11 : iRow 109 11 = some (.ldc2_w 316, 2, 0, 0, (some (Jvm.ClassFile.FieldType.int))) := rfl
theorem i_109_14 : iRow 109 14 = some (.land, 0, 0, 0, (some (Jvm.ClassFile.FieldType.int))) := rfl
theorem i_109_15 : iRow 109 15 = some (.lload_n 0, 0, 0, 0, (some (Jvm.ClassFile.FieldType.int))) := rfl
theorem i_109_16 : iRow 109 16 = some (.iconst 2, 0, 0, 0, (some (Jvm.ClassFile.FieldType.int))) := rfl
theorem i_109_17 : iRow 109 17 = some (.lushr, 0, 0, 0, (some (Jvm.ClassFile.FieldType.int))) := rfl
theorem i_109_18 : iRow 109 18 = some (.ldc2_w 316, 2, 0, 0, (some (Jvm.ClassFile.FieldType.int))) := rfl
theorem i_109_21 : iRow 109 21 = some (.land, 0, 0, 0, (some (Jvm.ClassFile.FieldType.int))) := rfl
theorem i_109_22 : iRow 109 22 = some (.ladd, 0, 0, 0, (some (Jvm.ClassFile.FieldType.int))) := rfl
theorem i_109_23 : iRow 109 23 = some (.lstore_n 0, 0, 0, 0, (some (Jvm.ClassFile.FieldType.int))) := rfl
theorem i_109_24 : iRow 109 24 = some (.lload_n 0, 0, 0, 0, (some (Jvm.ClassFile.FieldType.int))) := rfl
theorem i_109_25 : iRow 109 25 = some (.lload_n 0, 0, 0, 0, (some (Jvm.ClassFile.FieldType.int))) := rfl
theorem i_109_26 : iRow 109 26 = some (.iconst 4, 0, 0, 0, (some (Jvm.ClassFile.FieldType.int))) := rfl
theorem i_109_27 : iRow 109 27 = some (.lushr, 0, 0, 0, (some (Jvm.ClassFile.FieldType.int))) := rfl
theorem i_109_28 : iRow 109 28 = some (.ladd, 0, 0, 0, (some (Jvm.ClassFile.FieldType.int))) := rfl
theorem i_109_29 : iRow 109 29 = some (.ldc2_w 318, 3, 0, 0, (some (Jvm.ClassFile.FieldType.int))) := rfl
theorem i_109_32 : iRow 109 32 = some (.land, 0, 0, 0, (some (Jvm.ClassFile.FieldType.int))) := rfl
theorem i_109_33 : iRow 109 33 = some (.lstore_n 0, 0, 0, 0, (some (Jvm.ClassFile.FieldType.int))) := rfl
theorem i_109_34 : iRow 109 34 = some (.lload_n 0, 0, 0, 0, (some (Jvm.ClassFile.FieldType.int))) := rfl
theorem i_109_35 : iRow 109 35 = some (.lload_n 0, 0, 0, 0, (some (Jvm.ClassFile.FieldType.int))) := rfl
theorem i_109_36 : iRow 109 36 = some (.bipush 8, 0, 0, 0, (some (Jvm.ClassFile.FieldType.int))) := rfl
theorem i_109_38 : iRow 109 38 = some (.lushr, 0, 0, 0, (some (Jvm.ClassFile.FieldType.int))) := rfl
theorem i_109_39 : iRow 109 39 = some (.ladd, 0, 0, 0, (some (Jvm.ClassFile.FieldType.int))) := rfl
theorem i_109_40 : iRow 109 40 = some (.lstore_n 0, 0, 0, 0, (some (Jvm.ClassFile.FieldType.int))) := rfl
theorem i_109_41 : iRow 109 41 = some (.lload_n 0, 0, 0, 0, (some (Jvm.ClassFile.FieldType.int))) := rfl
theorem i_109_42 : iRow 109 42 = some (.lload_n 0, 0, 0, 0, (some (Jvm.ClassFile.FieldType.int))) := rfl
theorem i_109_43 : iRow 109 43 = some (.bipush 16, 0, 0, 0, (some (Jvm.ClassFile.FieldType.int))) := rfl
theorem i_109_45 : iRow 109 45 = some (.lushr, 0, 0, 0, (some (Jvm.ClassFile.FieldType.int))) := rfl
theorem i_109_46 : iRow 109 46 = some (.ladd, 0, 0, 0, (some (Jvm.ClassFile.FieldType.int))) := rfl
theorem i_109_47 : iRow 109 47 = some (.lstore_n 0, 0, 0, 0, (some (Jvm.ClassFile.FieldType.int))) := rfl
theorem i_109_48 : iRow 109 48 = some (.lload_n 0, 0, 0, 0, (some (Jvm.ClassFile.FieldType.int))) := rfl
theorem i_109_49 : iRow 109 49 = some (.lload_n 0, 0, 0, 0, (some (Jvm.ClassFile.FieldType.int))) := rfl
theorem i_109_50 : iRow 109 50 = some (.bipush 32, 0, 0, 0, (some (Jvm.ClassFile.FieldType.int))) := rfl
theorem i_109_52 : iRow 109 52 = some (.lushr, 0, 0, 0, (some (Jvm.ClassFile.FieldType.int))) := rfl
theorem i_109_53 : iRow 109 53 = some (.ladd, 0, 0, 0, (some (Jvm.ClassFile.FieldType.int))) := rfl
theorem i_109_54 : iRow 109 54 = some (.lstore_n 0, 0, 0, 0, (some (Jvm.ClassFile.FieldType.int))) := rfl
theorem i_109_55 : iRow 109 55 = some (.lload_n 0, 0, 0, 0, (some (Jvm.ClassFile.FieldType.int))) := rfl
theorem i_109_56 : iRow 109 56 = some (.l2i, 0, 0, 0, (some (Jvm.ClassFile.FieldType.int))) := rfl
theorem i_109_57 : iRow 109 57 = some (.bipush 127, 0, 0, 0, (some (Jvm.ClassFile.FieldType.int))) := rfl
theorem i_109_59 : iRow 109 59 = some (.iand, 0, 0, 0, (some (Jvm.ClassFile.FieldType.int))) := rfl
theorem i_109_60 : iRow 109 60 = some (.ireturn, 0, 0, 0, (some (Jvm.ClassFile.FieldType.int))) := rfl
theorem i_110_0 : iRow 110 0 = some (.iload_n 2, 0, 0, 0, (some (Jvm.ClassFile.FieldType.int))) := rfl
theorem i_110_1 : iRow 110 1 = some (.istore_n 3, 0, 0, 0, (some (Jvm.ClassFile.FieldType.int))) := rfl
theorem i_110_2 : iRow 110 2 = some (.iconst 0, 0, 0, 0, (some (Jvm.ClassFile.FieldType.int))) := rfl
theorem i_110_3 : iRow 110 3 = some (.istore 4, 0, 0, 0, (some (Jvm.ClassFile.FieldType.int))) := rfl
theorem i_110_5 : iRow 110 5 = some (.iload 4, 0, 0, 0, (some (Jvm.ClassFile.FieldType.int))) := rfl
theorem i_110_7 : iRow 110 7 = some (.bipush 36, 0, 0, 0, (some (Jvm.ClassFile.FieldType.int))) := rfl
theorem i_110_9 : iRow 110 9 = some (.if_icmp .ge 49, 0, 0, 0, (some (Jvm.ClassFile.FieldType.int))) := rfl
theorem i_110_12 : iRow 110 12 = some (.aload_n 0, 0, 0, 0, (some (Jvm.ClassFile.FieldType.int))) := rfl
theorem i_110_13 : iRow 110 13 = some (.iload 4, 0, 0, 0, (some (Jvm.ClassFile.FieldType.int))) := rfl
theorem i_110_15 : iRow 110 15 = some (.iload_n 1, 0, 0, 0, (some (Jvm.ClassFile.FieldType.int))) := rfl
theorem i_110_16 : iRow 110 16 = some (.invokevirtual 40, 145, 47, 1, (some (Jvm.ClassFile.FieldType.int))) := rfl
theorem i_110_19 : iRow 110 19 = some (.lstore 5, 0, 0, 0, (some (Jvm.ClassFile.FieldType.int))) := rfl
theorem i_110_21 : iRow 110 21 = some (.lload 5, 0, 0, 0, (some (Jvm.ClassFile.FieldType.int))) := rfl
theorem i_110_23 : iRow 110 23 = some (.invokestatic 44, 146, 109, 0, (some (Jvm.ClassFile.FieldType.int))) := rfl
theorem i_110_26 : iRow 110 26 = some (.istore 7, 0, 0, 0, (some (Jvm.ClassFile.FieldType.int))) := rfl
theorem i_110_28 : iRow 110 28 = some (.iload_n 3, 0, 0, 0, (some (Jvm.ClassFile.FieldType.int))) := rfl
theorem i_110_29 : iRow 110 29 = some (.iload 7, 0, 0, 0, (some (Jvm.ClassFile.FieldType.int))) := rfl
theorem i_110_31 : iRow 110 31 = some (.if_icmp .ge 16, 0, 0, 0, (some (Jvm.ClassFile.FieldType.int))) := rfl
theorem i_110_34 : iRow 110 34 = some (.bipush 36, 0, 0, 0, (some (Jvm.ClassFile.FieldType.int))) := rfl
theorem i_110_36 : iRow 110 36 = some (.iload 4, 0, 0, 0, (some (Jvm.ClassFile.FieldType.int))) := rfl
theorem i_110_38 : iRow 110 38 = some (.imul, 0, 0, 0, (some (Jvm.ClassFile.FieldType.int))) := rfl
theorem i_110_39 : iRow 110 39 = some (.lload 5, 0, 0, 0, (some (Jvm.ClassFile.FieldType.int))) := rfl
theorem i_110_41 : iRow 110 41 = some (.iload_n 3, 0, 0, 0, (some (Jvm.ClassFile.FieldType.int))) := rfl
theorem i_110_42 : iRow 110 42 = some (.invokestatic 50, 148, 111, 0, (some (Jvm.ClassFile.FieldType.int))) := rfl
theorem i_110_45 : iRow 110 45 = some (.iadd, 0, 0, 0, (some (Jvm.ClassFile.FieldType.int))) := rfl
theorem i_110_46 : iRow 110 46 = some (.ireturn, 0, 0, 0, (some (Jvm.ClassFile.FieldType.int))) := rfl
theorem i_110_47 : iRow 110 47 = some (.iload_n 3, 0, 0, 0, (some (Jvm.ClassFile.FieldType.int))) := rfl
theorem i_110_48 : iRow 110 48 = some (.iload 7, 0, 0, 0, (some (Jvm.ClassFile.FieldType.int))) := rfl
theorem i_110_50 : iRow 110 50 = some (.isub, 0, 0, 0, (some (Jvm.ClassFile.FieldType.int))) := rfl
theorem i_110_51 : iRow 110 51 = some (.istore_n 3, 0, 0, 0, (some (Jvm.ClassFile.FieldType.int))) := rfl
theorem i_110_52 : iRow 110 52 = some (.iinc 4 1, 0, 0, 0, (some (Jvm.ClassFile.FieldType.int))) := rfl
theorem i_110_55 : iRow 110 55 = some (.goto (-50), 0, 0, 0, (some (Jvm.ClassFile.FieldType.int))) := rfl
theorem i_110_58 : iRow 110 58 = some (.iconst (-1), 0, 0, 0, (some (Jvm.ClassFile.FieldType.int))) := rfl
theorem i_110_59 : iRow 110 59 = some (.ireturn, 0, 0, 0, (some (Jvm.ClassFile.FieldType.int))) := rfl
theorem i_111_0 : iRow 111 0 = some (.iload_n 2, 0, 0, 0, (some (Jvm.ClassFile.FieldType.int))) := rfl
theorem i_111_1 : iRow 111 1 = some (.istore_n 3, 0, 0, 0, (some (Jvm.ClassFile.FieldType.int))) := rfl
theorem i_111_2 : iRow 111 2 = some (.iconst 0, 0, 0, 0, (some (Jvm.ClassFile.FieldType.int))) := rfl
theorem i_111_3 : iRow 111 3 = some (.istore 4, 0, 0, 0, (some (Jvm.ClassFile.FieldType.int))) := rfl
theorem i_111_5 : iRow 111 5 = some (.iload 4, 0, 0, 0, (some (Jvm.ClassFile.FieldType.int))) := rfl
theorem i_111_7 : iRow 111 7 = some (.bipush 36, 0, 0, 0, (some (Jvm.ClassFile.FieldType.int))) := rfl
theorem i_111_9 : iRow 111 9 = some (.if_icmp .ge 30, 0, 0, 0, (some (Jvm.ClassFile.FieldType.int))) := rfl
theorem i_111_12 : iRow 111 12 = some (.lload_n 0, 0, 0, 0, (some (Jvm.ClassFile.FieldType.int))) := rfl
theorem i_111_13 : iRow 111 13 = some (.iload 4, 0, 0, 0, (some (Jvm.ClassFile.FieldType.int))) := rfl
theorem i_111_15 : iRow 111 15 = some (.lushr, 0, 0, 0, (some (Jvm.ClassFile.FieldType.int))) := rfl
theorem i_111_16 : iRow 111 16 = some (.lconst 1, 0, 0, 0, (some (Jvm.ClassFile.FieldType.int))) := rfl
theorem i_111_17 : iRow 111 17 = some (.land, 0, 0, 0, (some (Jvm.ClassFile.FieldType.int))) := rfl
theorem i_111_18 : iRow 111 18 = some (.lconst 0, 0, 0, 0, (some (Jvm.ClassFile.FieldType.int))) := rfl
theorem i_111_19 : iRow 111 19 = some (.lcmp, 0, 0, 0, (some (Jvm.ClassFile.FieldType.int))) := rfl
theorem i_111_20 : iRow 111 20 = some (.ifCond .eq 13, 0, 0, 0, (some (Jvm.ClassFile.FieldType.int))) := rfl
theorem i_111_23 : iRow 111 23 = some (.iload_n 3, 0, 0, 0, (some (Jvm.ClassFile.FieldType.int))) := rfl
theorem i_111_24 : iRow 111 24 = some (.ifCond .ne 6, 0, 0, 0, (some (Jvm.ClassFile.FieldType.int))) := rfl
theorem i_111_27 : iRow 111 27 = some (.iload 4, 0, 0, 0, (some (Jvm.ClassFile.FieldType.int))) := rfl
theorem i_111_29 : iRow 111 29 = some (.ireturn, 0, 0, 0, (some (Jvm.ClassFile.FieldType.int))) := rfl
theorem i_111_30 : iRow 111 30 = some (.iinc 3 (-1), 0, 0, 0, (some (Jvm.ClassFile.FieldType.int))) := rfl
theorem i_111_33 : iRow 111 33 = some (.iinc 4 1, 0, 0, 0, (some (Jvm.ClassFile.FieldType.int))) := rfl
theorem i_111_36 : iRow 111 36 = some (.goto (-31), 0, 0, 0, (some (Jvm.ClassFile.FieldType.int))) := rfl
theorem i_111_39 : iRow 111 39 = some (.iconst 0, 0, 0, 0, (some (Jvm.ClassFile.FieldType.int))) := rfl
theorem i_111_40 : iRow 111 40 = some (.ireturn, 0, 0, 0, (some (Jvm.ClassFile.FieldType.int))) := rfl
theorem s_hm0 {O : pOut} {d kc ks : Nat} {Q : pRes → Prop} {es : PH} {sd : Int} (hs_es : sh es) (hT_es : hOK tT es)
    (K1 : aW O d 108 kc ks Q (4, [some (.ref 93), some (.int (zI sd)), some (.int (zI 0)), some (.int (zI 0))], [], es)) :
    aW O d 108 kc ks Q (0, [some (.ref 93), some (.int (zI sd)), none, none], [], es) := by
  refine x0 (r := (1, [some (.ref 93), some (.int (zI sd)), none, none], [.int (zI 0)], es)) i_108_0 (by rfl) ?_
  refine x0 (r := (2, [some (.ref 93), some (.int (zI sd)), some (.int (zI 0)), none], [], es)) i_108_1 rfl ?_
  refine x0 (r := (3, [some (.ref 93), some (.int (zI sd)), some (.int (zI 0)), none], [.int (zI 0)], es)) i_108_2 (by rfl) ?_
  refine x0 (r := (4, [some (.ref 93), some (.int (zI sd)), some (.int (zI 0)), some (.int (zI 0))], [], es)) i_108_3 rfl ?_
  exact K1
theorem s_hm4 {O : pOut} {d kc ks : Nat} {Q : pRes → Prop} {es : PH} {sd su fr : Int} (hs_es : sh es) (h3 : 0 ≤ fr ∧ fr ≤ 36) (hT_es : hOK tT es)
    (K1 : 36 ≤ fr → Q (.inl (some (.int (zI su))), es, kc, ks))
    (K2 : ¬ (36 ≤ fr) → aW O d 108 kc ks Q (14, [some (.ref 93), some (.int (zI sd)), some (.int (zI su)), some (.int (zI fr))], [.int (zI sd), .int (zI fr), .ref 93, .int (zI su)], es)) :
    aW O d 108 kc ks Q (4, [some (.ref 93), some (.int (zI sd)), some (.int (zI su)), some (.int (zI fr))], [], es) := by
  refine x0 (r := (5, [some (.ref 93), some (.int (zI sd)), some (.int (zI su)), some (.int (zI fr))], [.int (zI fr)], es)) i_108_4 rfl ?_
  refine x0 (r := (7, [some (.ref 93), some (.int (zI sd)), some (.int (zI su)), some (.int (zI fr))], [.int (zI 36), .int (zI fr)], es)) i_108_5 (by rfl) ?_
  by_cases c1 : 36 ≤ fr
  · refine x_cmpT i_108_7 (by unfold i32 iLO iHI; omega) (by unfold i32 iLO iHI; omega) rfl (by simp only [zC, cR]; omega) ?_
    refine x0 (r := (29, [some (.ref 93), some (.int (zI sd)), some (.int (zI su)), some (.int (zI fr))], [.int (zI su)], es)) i_108_28 rfl ?_
    refine x_ret (v := some (.int (zI su))) i_108_29 rfl (fun _ => rfl) rfl rfl rfl ?_
    exact K1 c1
  · refine x_cmpF i_108_7 (by unfold i32 iLO iHI; omega) (by unfold i32 iLO iHI; omega) rfl (by simp only [zC, cR]; omega) ?_
    refine x0 (r := (11, [some (.ref 93), some (.int (zI sd)), some (.int (zI su)), some (.int (zI fr))], [.int (zI su)], es)) i_108_10 rfl ?_
    refine x0 (r := (12, [some (.ref 93), some (.int (zI sd)), some (.int (zI su)), some (.int (zI fr))], [.ref 93, .int (zI su)], es)) i_108_11 rfl ?_
    refine x0 (r := (13, [some (.ref 93), some (.int (zI sd)), some (.int (zI su)), some (.int (zI fr))], [.int (zI fr), .ref 93, .int (zI su)], es)) i_108_12 rfl ?_
    refine x0 (r := (14, [some (.ref 93), some (.int (zI sd)), some (.int (zI su)), some (.int (zI fr))], [.int (zI sd), .int (zI fr), .ref 93, .int (zI su)], es)) i_108_13 rfl ?_
    exact K2 c1
theorem s_hm20 {O : pOut} {d kc ks : Nat} {Q : pRes → Prop} {es : PH} {sd su fr v : Int} (hs_es : sh es) (h3 : 0 ≤ fr ∧ fr ≤ 35) (hT_es : hOK tT es)
    (K1 : aW O d 108 kc ks Q (4, [some (.ref 93), some (.int (zI sd)), some (.int (zI (su + v))), some (.int (zI (fr + 1)))], [], es)) :
    aW O d 108 kc ks Q (20, [some (.ref 93), some (.int (zI sd)), some (.int (zI su)), some (.int (zI fr))], [.int (zI v), .int (zI su)], es) := by
  refine x_iadd i_108_20 ?_
  refine x0 (r := (22, [some (.ref 93), some (.int (zI sd)), some (.int (zI (su + v))), some (.int (zI fr))], [], es)) i_108_21 rfl ?_
  refine x_iinc (x := fr) i_108_22 rfl (by show 3 < 4; decide) ?_
  show aW _ _ _ _ _ _ (25, [some (.ref 93), some (.int (zI sd)), some (.int (zI (su + v))), some (.int (zI (fr + 1)))], [], es)
  refine x0 (r := (4, [some (.ref 93), some (.int (zI sd)), some (.int (zI (su + v))), some (.int (zI (fr + 1)))], [], es)) i_108_25 rfl ?_
  exact K1
theorem s_ma110_0 {O : pOut} {d kc ks : Nat} {Q : pRes → Prop} {es : PH} {sd i : Int} (hs_es : sh es) (hT_es : hOK tT es)
    (K1 : aW O d 110 kc ks Q (5, [some (.ref 93), some (.int (zI sd)), some (.int (zI i)), some (.int (zI i)), some (.int (zI 0)), none, none, none], [], es)) :
    aW O d 110 kc ks Q (0, [some (.ref 93), some (.int (zI sd)), some (.int (zI i)), none, none, none, none, none], [], es) := by
  refine x0 (r := (1, [some (.ref 93), some (.int (zI sd)), some (.int (zI i)), none, none, none, none, none], [.int (zI i)], es)) i_110_0 rfl ?_
  refine x0 (r := (2, [some (.ref 93), some (.int (zI sd)), some (.int (zI i)), some (.int (zI i)), none, none, none, none], [], es)) i_110_1 rfl ?_
  refine x0 (r := (3, [some (.ref 93), some (.int (zI sd)), some (.int (zI i)), some (.int (zI i)), none, none, none, none], [.int (zI 0)], es)) i_110_2 (by rfl) ?_
  refine x0 (r := (5, [some (.ref 93), some (.int (zI sd)), some (.int (zI i)), some (.int (zI i)), some (.int (zI 0)), none, none, none], [], es)) i_110_3 rfl ?_
  exact K1
theorem s_mv5 {O : pOut} {d kc ks : Nat} {Q : pRes → Prop} {es : PH} {sd i le fr : Int} {x5 x6 x7 : Option Value} (hs_es : sh es) (h3 : 0 ≤ fr ∧ fr ≤ 36) (hT_es : hOK tT es)
    (K1 : 36 ≤ fr → Q (.inl (some (.int (zI (-1)))), es, kc, ks))
    (K2 : ¬ (36 ≤ fr) → aW O d 110 kc ks Q (16, [some (.ref 93), some (.int (zI sd)), some (.int (zI i)), some (.int (zI le)), some (.int (zI fr)), x5, x6, x7], [.int (zI sd), .int (zI fr), .ref 93], es)) :
    aW O d 110 kc ks Q (5, [some (.ref 93), some (.int (zI sd)), some (.int (zI i)), some (.int (zI le)), some (.int (zI fr)), x5, x6, x7], [], es) := by
  refine x0 (r := (7, [some (.ref 93), some (.int (zI sd)), some (.int (zI i)), some (.int (zI le)), some (.int (zI fr)), x5, x6, x7], [.int (zI fr)], es)) i_110_5 rfl ?_
  refine x0 (r := (9, [some (.ref 93), some (.int (zI sd)), some (.int (zI i)), some (.int (zI le)), some (.int (zI fr)), x5, x6, x7], [.int (zI 36), .int (zI fr)], es)) i_110_7 (by rfl) ?_
  by_cases c1 : 36 ≤ fr
  · refine x_cmpT i_110_9 (by unfold i32 iLO iHI; omega) (by unfold i32 iLO iHI; omega) rfl (by simp only [zC, cR]; omega) ?_
    refine x0 (r := (59, [some (.ref 93), some (.int (zI sd)), some (.int (zI i)), some (.int (zI le)), some (.int (zI fr)), x5, x6, x7], [.int (zI (-1))], es)) i_110_58 (by rfl) ?_
    refine x_ret (v := some (.int (zI (-1)))) i_110_59 rfl (fun _ => rfl) rfl rfl rfl ?_
    exact K1 c1
  · refine x_cmpF i_110_9 (by unfold i32 iLO iHI; omega) (by unfold i32 iLO iHI; omega) rfl (by simp only [zC, cR]; omega) ?_
    refine x0 (r := (13, [some (.ref 93), some (.int (zI sd)), some (.int (zI i)), some (.int (zI le)), some (.int (zI fr)), x5, x6, x7], [.ref 93], es)) i_110_12 rfl ?_
    refine x0 (r := (15, [some (.ref 93), some (.int (zI sd)), some (.int (zI i)), some (.int (zI le)), some (.int (zI fr)), x5, x6, x7], [.int (zI fr), .ref 93], es)) i_110_13 rfl ?_
    refine x0 (r := (16, [some (.ref 93), some (.int (zI sd)), some (.int (zI i)), some (.int (zI le)), some (.int (zI fr)), x5, x6, x7], [.int (zI sd), .int (zI fr), .ref 93], es)) i_110_15 rfl ?_
    exact K2 c1
theorem s_ba0 {O : pOut} {d kc ks : Nat} {Q : pRes → Prop} {es : PH} {bi : Int64} {i : Int} (hs_es : sh es) (hT_es : hOK tT es)
    (K1 : aW O d 111 kc ks Q (5, [some (.long bi), none, some (.int (zI i)), some (.int (zI i)), some (.int (zI 0))], [], es)) :
    aW O d 111 kc ks Q (0, [some (.long bi), none, some (.int (zI i)), none, none], [], es) := by
  refine x0 (r := (1, [some (.long bi), none, some (.int (zI i)), none, none], [.int (zI i)], es)) i_111_0 rfl ?_
  refine x0 (r := (2, [some (.long bi), none, some (.int (zI i)), some (.int (zI i)), none], [], es)) i_111_1 rfl ?_
  refine x0 (r := (3, [some (.long bi), none, some (.int (zI i)), some (.int (zI i)), none], [.int (zI 0)], es)) i_111_2 (by rfl) ?_
  refine x0 (r := (5, [some (.long bi), none, some (.int (zI i)), some (.int (zI i)), some (.int (zI 0))], [], es)) i_111_3 rfl ?_
  exact K1
theorem s_ba5 {O : pOut} {d kc ks : Nat} {Q : pRes → Prop} {es : PH} {bi : Int64} {i le n : Int} (hs_es : sh es) (h3 : 0 ≤ n ∧ n ≤ 36) (h4 : 0 ≤ le ∧ le ≤ 2147483647) (hT_es : hOK tT es)
    (K1 : 36 ≤ n → Q (.inl (some (.int (zI 0))), es, kc, ks))
    (K2 : ¬ (36 ≤ n) → ∀ w2 : Int64, w2 = (bi.toUInt64 >>> ((zI n).toInt64.toUInt64 &&& Int64.toUInt64 63)).toInt64 → ∀ w3 : Int64, w3 = w2 &&& (Int64.ofNat 1) → ∀ v4 : Int, v4 = sgn (w3.toInt - (Int64.ofNat 0).toInt) → v4 = 0 → aW O d 111 kc ks Q (5, [some (.long bi), none, some (.int (zI i)), some (.int (zI le)), some (.int (zI (n + 1)))], [], es))
    (K3 : ¬ (36 ≤ n) → ∀ w2 : Int64, w2 = (bi.toUInt64 >>> ((zI n).toInt64.toUInt64 &&& Int64.toUInt64 63)).toInt64 → ∀ w3 : Int64, w3 = w2 &&& (Int64.ofNat 1) → ∀ v4 : Int, v4 = sgn (w3.toInt - (Int64.ofNat 0).toInt) → ¬ (v4 = 0) → le ≠ 0 → aW O d 111 kc ks Q (5, [some (.long bi), none, some (.int (zI i)), some (.int (zI (le + (-1)))), some (.int (zI (n + 1)))], [], es))
    (K4 : ¬ (36 ≤ n) → ∀ w2 : Int64, w2 = (bi.toUInt64 >>> ((zI n).toInt64.toUInt64 &&& Int64.toUInt64 63)).toInt64 → ∀ w3 : Int64, w3 = w2 &&& (Int64.ofNat 1) → ∀ v4 : Int, v4 = sgn (w3.toInt - (Int64.ofNat 0).toInt) → ¬ (v4 = 0) → ¬ (le ≠ 0) → Q (.inl (some (.int (zI n))), es, kc, ks)) :
    aW O d 111 kc ks Q (5, [some (.long bi), none, some (.int (zI i)), some (.int (zI le)), some (.int (zI n))], [], es) := by
  refine x0 (r := (7, [some (.long bi), none, some (.int (zI i)), some (.int (zI le)), some (.int (zI n))], [.int (zI n)], es)) i_111_5 rfl ?_
  refine x0 (r := (9, [some (.long bi), none, some (.int (zI i)), some (.int (zI le)), some (.int (zI n))], [.int (zI 36), .int (zI n)], es)) i_111_7 (by rfl) ?_
  by_cases c1 : 36 ≤ n
  · refine x_cmpT i_111_9 (by unfold i32 iLO iHI; omega) (by unfold i32 iLO iHI; omega) rfl (by simp only [zC, cR]; omega) ?_
    refine x0 (r := (40, [some (.long bi), none, some (.int (zI i)), some (.int (zI le)), some (.int (zI n))], [.int (zI 0)], es)) i_111_39 (by rfl) ?_
    refine x_ret (v := some (.int (zI 0))) i_111_40 rfl (fun _ => rfl) rfl rfl rfl ?_
    exact K1 c1
  · refine x_cmpF i_111_9 (by unfold i32 iLO iHI; omega) (by unfold i32 iLO iHI; omega) rfl (by simp only [zC, cR]; omega) ?_
    refine x0 (r := (13, [some (.long bi), none, some (.int (zI i)), some (.int (zI le)), some (.int (zI n))], [.long bi], es)) i_111_12 rfl ?_
    refine x0 (r := (15, [some (.long bi), none, some (.int (zI i)), some (.int (zI le)), some (.int (zI n))], [.int (zI n), .long bi], es)) i_111_13 rfl ?_
    refine x0 (r := (16, [some (.long bi), none, some (.int (zI i)), some (.int (zI le)), some (.int (zI n))], [.long ((bi.toUInt64 >>> ((zI n).toInt64.toUInt64 &&& Int64.toUInt64 63)).toInt64)], es)) i_111_15 rfl ?_
    obtain ⟨w2, e_w2⟩ : ∃ z : Int64, z = (bi.toUInt64 >>> ((zI n).toInt64.toUInt64 &&& Int64.toUInt64 63)).toInt64 := ⟨_, rfl⟩
    rw [← e_w2]
    refine x0 (r := (17, [some (.long bi), none, some (.int (zI i)), some (.int (zI le)), some (.int (zI n))], [.long (Int64.ofNat 1), .long w2], es)) i_111_16 rfl ?_
    refine x0 (r := (18, [some (.long bi), none, some (.int (zI i)), some (.int (zI le)), some (.int (zI n))], [.long (w2 &&& (Int64.ofNat 1))], es)) i_111_17 rfl ?_
    obtain ⟨w3, e_w3⟩ : ∃ z : Int64, z = w2 &&& (Int64.ofNat 1) := ⟨_, rfl⟩
    rw [← e_w3]
    refine x0 (r := (19, [some (.long bi), none, some (.int (zI i)), some (.int (zI le)), some (.int (zI n))], [.long (Int64.ofNat 0), .long w3], es)) i_111_18 rfl ?_
    refine x_lcmp i_111_19 ?_
    obtain ⟨v4, e_v4⟩ : ∃ z : Int, z = sgn (w3.toInt - (Int64.ofNat 0).toInt) := ⟨_, rfl⟩
    rw [← e_v4]
    have r_v4 : iLO ≤ v4 ∧ v4 ≤ iHI := by rw [e_v4]; exact sgn_i32
    unfold iLO iHI at r_v4
    by_cases c5 : v4 = 0
    · refine x_ifT i_111_20 (by unfold i32 iLO iHI; omega) rfl (by simp only [zC, cR]; omega) ?_
      refine x_iinc (x := n) i_111_33 rfl (by show 4 < 5; decide) ?_
      show aW _ _ _ _ _ _ (36, [some (.long bi), none, some (.int (zI i)), some (.int (zI le)), some (.int (zI (n + 1)))], [], es)
      refine x0 (r := (5, [some (.long bi), none, some (.int (zI i)), some (.int (zI le)), some (.int (zI (n + 1)))], [], es)) i_111_36 rfl ?_
      exact K2 c1 w2 e_w2 w3 e_w3 v4 e_v4 c5
    · refine x_ifF i_111_20 (by unfold i32 iLO iHI; omega) rfl (by simp only [zC, cR]; omega) ?_
      refine x0 (r := (24, [some (.long bi), none, some (.int (zI i)), some (.int (zI le)), some (.int (zI n))], [.int (zI le)], es)) i_111_23 rfl ?_
      by_cases c6 : le ≠ 0
      · refine x_ifT i_111_24 (by unfold i32 iLO iHI; omega) rfl (by simp only [zC, cR]; omega) ?_
        refine x_iinc (x := le) i_111_30 rfl (by show 3 < 5; decide) ?_
        show aW _ _ _ _ _ _ (33, [some (.long bi), none, some (.int (zI i)), some (.int (zI (le + (-1)))), some (.int (zI n))], [], es)
        refine x_iinc (x := n) i_111_33 rfl (by show 4 < 5; decide) ?_
        show aW _ _ _ _ _ _ (36, [some (.long bi), none, some (.int (zI i)), some (.int (zI (le + (-1)))), some (.int (zI (n + 1)))], [], es)
        refine x0 (r := (5, [some (.long bi), none, some (.int (zI i)), some (.int (zI (le + (-1)))), some (.int (zI (n + 1)))], [], es)) i_111_36 rfl ?_
        exact K3 c1 w2 e_w2 w3 e_w3 v4 e_v4 c5 c6
      · refine x_ifF i_111_24 (by unfold i32 iLO iHI; omega) rfl (by simp only [zC, cR]; omega) ?_
        refine x0 (r := (29, [some (.long bi), none, some (.int (zI i)), some (.int (zI le)), some (.int (zI n))], [.int (zI n)], es)) i_111_27 rfl ?_
        refine x_ret (v := some (.int (zI n))) i_111_29 rfl (fun _ => rfl) rfl rfl rfl ?_
        exact K4 c1 w2 e_w2 w3 e_w3 v4 e_v4 c5 c6
theorem s_bc0 {O : pOut} {d kc ks : Nat} {Q : pRes → Prop} {es : PH} {x : Int64} (hs_es : sh es) (hT_es : hOK tT es)
    (K1 : ∀ w1 : Int64, w1 = (x.toUInt64 >>> ((zI 1).toInt64.toUInt64 &&& Int64.toUInt64 63)).toInt64 → ∀ w2 : Int64, w2 = w1 &&& (6148914691236517205) → ∀ w3 : Int64, w3 = x - w2 → ∀ w4 : Int64, w4 = w3 &&& (3689348814741910323) → ∀ w5 : Int64, w5 = (w3.toUInt64 >>> ((zI 2).toInt64.toUInt64 &&& Int64.toUInt64 63)).toInt64 → ∀ w6 : Int64, w6 = w5 &&& (3689348814741910323) → ∀ w7 : Int64, w7 = w4 + w6 → ∀ w8 : Int64, w8 = (w7.toUInt64 >>> ((zI 4).toInt64.toUInt64 &&& Int64.toUInt64 63)).toInt64 → ∀ w9 : Int64, w9 = w7 + w8 → ∀ w10 : Int64, w10 = w9 &&& (1085102592571150095) → ∀ w11 : Int64, w11 = (w10.toUInt64 >>> ((zI 8).toInt64.toUInt64 &&& Int64.toUInt64 63)).toInt64 → ∀ w12 : Int64, w12 = w10 + w11 → ∀ w13 : Int64, w13 = (w12.toUInt64 >>> ((zI 16).toInt64.toUInt64 &&& Int64.toUInt64 63)).toInt64 → ∀ w14 : Int64, w14 = w12 + w13 → ∀ w15 : Int64, w15 = (w14.toUInt64 >>> ((zI 32).toInt64.toUInt64 &&& Int64.toUInt64 63)).toInt64 → ∀ w16 : Int64, w16 = w14 + w15 → ∀ v17 : Int, v17 = (w16.toInt32).toInt → ∀ v18 : Int, v18 = (zI v17 &&& zI 127).toInt → Q (.inl (some (.int (zI v18))), es, kc, ks)) :
    aW O d 109 kc ks Q (0, [some (.long x), none], [], es) := by
  refine x0 (r := (1, [some (.long x), none], [.long x], es)) i_109_0 rfl ?_
  refine x0 (r := (2, [some (.long x), none], [.long x, .long x], es)) i_109_1 rfl ?_
  refine x0 (r := (3, [some (.long x), none], [.int (zI 1), .long x, .long x], es)) i_109_2 (by rfl) ?_
  refine x0 (r := (4, [some (.long x), none], [.long ((x.toUInt64 >>> ((zI 1).toInt64.toUInt64 &&& Int64.toUInt64 63)).toInt64), .long x], es)) i_109_3 rfl ?_
  obtain ⟨w1, e_w1⟩ : ∃ z : Int64, z = (x.toUInt64 >>> ((zI 1).toInt64.toUInt64 &&& Int64.toUInt64 63)).toInt64 := ⟨_, rfl⟩
  rw [← e_w1]
  refine x1 (r := (7, [some (.long x), none], [.long (6148914691236517205), .long w1, .long x], es)) i_109_4 rfl (fun _ => rfl) rfl ?_
  refine x0 (r := (8, [some (.long x), none], [.long (w1 &&& (6148914691236517205)), .long x], es)) i_109_7 rfl ?_
  obtain ⟨w2, e_w2⟩ : ∃ z : Int64, z = w1 &&& (6148914691236517205) := ⟨_, rfl⟩
  rw [← e_w2]
  refine x0 (r := (9, [some (.long x), none], [.long (x - w2)], es)) i_109_8 rfl ?_
  obtain ⟨w3, e_w3⟩ : ∃ z : Int64, z = x - w2 := ⟨_, rfl⟩
  rw [← e_w3]
  refine x0 (r := (10, [some (.long w3), none], [], es)) i_109_9 rfl ?_
  refine x0 (r := (11, [some (.long w3), none], [.long w3], es)) i_109_10 rfl ?_
  refine x1 (r := (14, [some (.long w3), none], [.long (3689348814741910323), .long w3], es)) i_109_11 rfl (fun _ => rfl) rfl ?_
  refine x0 (r := (15, [some (.long w3), none], [.long (w3 &&& (3689348814741910323))], es)) i_109_14 rfl ?_
  obtain ⟨w4, e_w4⟩ : ∃ z : Int64, z = w3 &&& (3689348814741910323) := ⟨_, rfl⟩
  rw [← e_w4]
  refine x0 (r := (16, [some (.long w3), none], [.long w3, .long w4], es)) i_109_15 rfl ?_
  refine x0 (r := (17, [some (.long w3), none], [.int (zI 2), .long w3, .long w4], es)) i_109_16 (by rfl) ?_
  refine x0 (r := (18, [some (.long w3), none], [.long ((w3.toUInt64 >>> ((zI 2).toInt64.toUInt64 &&& Int64.toUInt64 63)).toInt64), .long w4], es)) i_109_17 rfl ?_
  obtain ⟨w5, e_w5⟩ : ∃ z : Int64, z = (w3.toUInt64 >>> ((zI 2).toInt64.toUInt64 &&& Int64.toUInt64 63)).toInt64 := ⟨_, rfl⟩
  rw [← e_w5]
  refine x1 (r := (21, [some (.long w3), none], [.long (3689348814741910323), .long w5, .long w4], es)) i_109_18 rfl (fun _ => rfl) rfl ?_
  refine x0 (r := (22, [some (.long w3), none], [.long (w5 &&& (3689348814741910323)), .long w4], es)) i_109_21 rfl ?_
  obtain ⟨w6, e_w6⟩ : ∃ z : Int64, z = w5 &&& (3689348814741910323) := ⟨_, rfl⟩
  rw [← e_w6]
  refine x0 (r := (23, [some (.long w3), none], [.long (w4 + w6)], es)) i_109_22 rfl ?_
  obtain ⟨w7, e_w7⟩ : ∃ z : Int64, z = w4 + w6 := ⟨_, rfl⟩
  rw [← e_w7]
  refine x0 (r := (24, [some (.long w7), none], [], es)) i_109_23 rfl ?_
  refine x0 (r := (25, [some (.long w7), none], [.long w7], es)) i_109_24 rfl ?_
  refine x0 (r := (26, [some (.long w7), none], [.long w7, .long w7], es)) i_109_25 rfl ?_
  refine x0 (r := (27, [some (.long w7), none], [.int (zI 4), .long w7, .long w7], es)) i_109_26 (by rfl) ?_
  refine x0 (r := (28, [some (.long w7), none], [.long ((w7.toUInt64 >>> ((zI 4).toInt64.toUInt64 &&& Int64.toUInt64 63)).toInt64), .long w7], es)) i_109_27 rfl ?_
  obtain ⟨w8, e_w8⟩ : ∃ z : Int64, z = (w7.toUInt64 >>> ((zI 4).toInt64.toUInt64 &&& Int64.toUInt64 63)).toInt64 := ⟨_, rfl⟩
  rw [← e_w8]
  refine x0 (r := (29, [some (.long w7), none], [.long (w7 + w8)], es)) i_109_28 rfl ?_
  obtain ⟨w9, e_w9⟩ : ∃ z : Int64, z = w7 + w8 := ⟨_, rfl⟩
  rw [← e_w9]
  refine x1 (r := (32, [some (.long w7), none], [.long (1085102592571150095), .long w9], es)) i_109_29 rfl (fun _ => rfl) rfl ?_
  refine x0 (r := (33, [some (.long w7), none], [.long (w9 &&& (1085102592571150095))], es)) i_109_32 rfl ?_
  obtain ⟨w10, e_w10⟩ : ∃ z : Int64, z = w9 &&& (1085102592571150095) := ⟨_, rfl⟩
  rw [← e_w10]
  refine x0 (r := (34, [some (.long w10), none], [], es)) i_109_33 rfl ?_
  refine x0 (r := (35, [some (.long w10), none], [.long w10], es)) i_109_34 rfl ?_
  refine x0 (r := (36, [some (.long w10), none], [.long w10, .long w10], es)) i_109_35 rfl ?_
  refine x0 (r := (38, [some (.long w10), none], [.int (zI 8), .long w10, .long w10], es)) i_109_36 (by rfl) ?_
  refine x0 (r := (39, [some (.long w10), none], [.long ((w10.toUInt64 >>> ((zI 8).toInt64.toUInt64 &&& Int64.toUInt64 63)).toInt64), .long w10], es)) i_109_38 rfl ?_
  obtain ⟨w11, e_w11⟩ : ∃ z : Int64, z = (w10.toUInt64 >>> ((zI 8).toInt64.toUInt64 &&& Int64.toUInt64 63)).toInt64 := ⟨_, rfl⟩
  rw [← e_w11]
  refine x0 (r := (40, [some (.long w10), none], [.long (w10 + w11)], es)) i_109_39 rfl ?_
  obtain ⟨w12, e_w12⟩ : ∃ z : Int64, z = w10 + w11 := ⟨_, rfl⟩
  rw [← e_w12]
  refine x0 (r := (41, [some (.long w12), none], [], es)) i_109_40 rfl ?_
  refine x0 (r := (42, [some (.long w12), none], [.long w12], es)) i_109_41 rfl ?_
  refine x0 (r := (43, [some (.long w12), none], [.long w12, .long w12], es)) i_109_42 rfl ?_
  refine x0 (r := (45, [some (.long w12), none], [.int (zI 16), .long w12, .long w12], es)) i_109_43 (by rfl) ?_
  refine x0 (r := (46, [some (.long w12), none], [.long ((w12.toUInt64 >>> ((zI 16).toInt64.toUInt64 &&& Int64.toUInt64 63)).toInt64), .long w12], es)) i_109_45 rfl ?_
  obtain ⟨w13, e_w13⟩ : ∃ z : Int64, z = (w12.toUInt64 >>> ((zI 16).toInt64.toUInt64 &&& Int64.toUInt64 63)).toInt64 := ⟨_, rfl⟩
  rw [← e_w13]
  refine x0 (r := (47, [some (.long w12), none], [.long (w12 + w13)], es)) i_109_46 rfl ?_
  obtain ⟨w14, e_w14⟩ : ∃ z : Int64, z = w12 + w13 := ⟨_, rfl⟩
  rw [← e_w14]
  refine x0 (r := (48, [some (.long w14), none], [], es)) i_109_47 rfl ?_
  refine x0 (r := (49, [some (.long w14), none], [.long w14], es)) i_109_48 rfl ?_
  refine x0 (r := (50, [some (.long w14), none], [.long w14, .long w14], es)) i_109_49 rfl ?_
  refine x0 (r := (52, [some (.long w14), none], [.int (zI 32), .long w14, .long w14], es)) i_109_50 (by rfl) ?_
  refine x0 (r := (53, [some (.long w14), none], [.long ((w14.toUInt64 >>> ((zI 32).toInt64.toUInt64 &&& Int64.toUInt64 63)).toInt64), .long w14], es)) i_109_52 rfl ?_
  obtain ⟨w15, e_w15⟩ : ∃ z : Int64, z = (w14.toUInt64 >>> ((zI 32).toInt64.toUInt64 &&& Int64.toUInt64 63)).toInt64 := ⟨_, rfl⟩
  rw [← e_w15]
  refine x0 (r := (54, [some (.long w14), none], [.long (w14 + w15)], es)) i_109_53 rfl ?_
  obtain ⟨w16, e_w16⟩ : ∃ z : Int64, z = w14 + w15 := ⟨_, rfl⟩
  rw [← e_w16]
  refine x0 (r := (55, [some (.long w16), none], [], es)) i_109_54 rfl ?_
  refine x0 (r := (56, [some (.long w16), none], [.long w16], es)) i_109_55 rfl ?_
  refine x0 (r := (57, [some (.long w16), none], [.int (w16.toInt32)], es)) i_109_56 rfl ?_
  rw [← zI_id (w16.toInt32)]
  obtain ⟨v17, e_v17⟩ : ∃ z : Int, z = (w16.toInt32).toInt := ⟨_, rfl⟩
  rw [← e_v17]
  have r_v17 : iLO ≤ v17 ∧ v17 ≤ iHI := by rw [e_v17]; exact i32_rng _
  unfold iLO iHI at r_v17
  refine x0 (r := (59, [some (.long w16), none], [.int (zI 127), .int (zI v17)], es)) i_109_57 (by rfl) ?_
  refine x_op i_109_59 (w := (zI v17 &&& zI 127)) rfl rfl ?_
  obtain ⟨v18, e_v18⟩ : ∃ z : Int, z = (zI v17 &&& zI 127).toInt := ⟨_, rfl⟩
  rw [← e_v18]
  have r_v18 : iLO ≤ v18 ∧ v18 ≤ iHI := by rw [e_v18]; exact i32_rng _
  unfold iLO iHI at r_v18
  refine x_ret (v := some (.int (zI v18))) i_109_60 rfl (fun _ => rfl) rfl rfl rfl ?_
  exact K1 w1 e_w1 w2 e_w2 w3 e_w3 w4 e_w4 w5 e_w5 w6 e_w6 w7 e_w7 w8 e_w8 w9 e_w9 w10 e_w10 w11 e_w11 w12 e_w12 w13 e_w13 w14 e_w14 w15 e_w15 w16 e_w16 v17 e_v17 v18 e_v18
theorem s_mv19 {O : pOut} {d kc ks : Nat} {Q : pRes → Prop} {es : PH} {re : Int64} {sd i le fr : Int} {x5 x6 x7 : Option Value} (hs_es : sh es) (hT_es : hOK tT es)
    (K1 : aW O d 110 kc ks Q (23, [some (.ref 93), some (.int (zI sd)), some (.int (zI i)), some (.int (zI le)), some (.int (zI fr)), some (.long re), none, x7], [.long re], es)) :
    aW O d 110 kc ks Q (19, [some (.ref 93), some (.int (zI sd)), some (.int (zI i)), some (.int (zI le)), some (.int (zI fr)), x5, x6, x7], [.long re], es) := by
  refine x0 (r := (21, [some (.ref 93), some (.int (zI sd)), some (.int (zI i)), some (.int (zI le)), some (.int (zI fr)), some (.long re), none, x7], [], es)) i_110_19 rfl ?_
  refine x0 (r := (23, [some (.ref 93), some (.int (zI sd)), some (.int (zI i)), some (.int (zI le)), some (.int (zI fr)), some (.long re), none, x7], [.long re], es)) i_110_21 rfl ?_
  exact K1
theorem s_mv26 {O : pOut} {d kc ks : Nat} {Q : pRes → Prop} {es : PH} {re : Int64} {sd i le fr v : Int} {x7 : Option Value} (hs_es : sh es) (h3 : 0 ≤ fr ∧ fr ≤ 35) (h5 : 0 ≤ le ∧ le ≤ 2147483647) (h6 : 0 ≤ v ∧ v ≤ 36) (hT_es : hOK tT es)
    (K1 : v ≤ le → aW O d 110 kc ks Q (5, [some (.ref 93), some (.int (zI sd)), some (.int (zI i)), some (.int (zI (le - v))), some (.int (zI (fr + 1))), some (.long re), none, some (.int (zI v))], [], es))
    (K2 : ¬ (v ≤ le) → aW O d 110 kc ks Q (42, [some (.ref 93), some (.int (zI sd)), some (.int (zI i)), some (.int (zI le)), some (.int (zI fr)), some (.long re), none, some (.int (zI v))], [.int (zI le), .long re, .int (zI (36 * fr))], es)) :
    aW O d 110 kc ks Q (26, [some (.ref 93), some (.int (zI sd)), some (.int (zI i)), some (.int (zI le)), some (.int (zI fr)), some (.long re), none, x7], [.int (zI v)], es) := by
  refine x0 (r := (28, [some (.ref 93), some (.int (zI sd)), some (.int (zI i)), some (.int (zI le)), some (.int (zI fr)), some (.long re), none, some (.int (zI v))], [], es)) i_110_26 rfl ?_
  refine x0 (r := (29, [some (.ref 93), some (.int (zI sd)), some (.int (zI i)), some (.int (zI le)), some (.int (zI fr)), some (.long re), none, some (.int (zI v))], [.int (zI le)], es)) i_110_28 rfl ?_
  refine x0 (r := (31, [some (.ref 93), some (.int (zI sd)), some (.int (zI i)), some (.int (zI le)), some (.int (zI fr)), some (.long re), none, some (.int (zI v))], [.int (zI v), .int (zI le)], es)) i_110_29 rfl ?_
  by_cases c1 : v ≤ le
  · refine x_cmpT i_110_31 (by unfold i32 iLO iHI; omega) (by unfold i32 iLO iHI; omega) rfl (by simp only [zC, cR]; omega) ?_
    refine x0 (r := (48, [some (.ref 93), some (.int (zI sd)), some (.int (zI i)), some (.int (zI le)), some (.int (zI fr)), some (.long re), none, some (.int (zI v))], [.int (zI le)], es)) i_110_47 rfl ?_
    refine x0 (r := (50, [some (.ref 93), some (.int (zI sd)), some (.int (zI i)), some (.int (zI le)), some (.int (zI fr)), some (.long re), none, some (.int (zI v))], [.int (zI v), .int (zI le)], es)) i_110_48 rfl ?_
    refine x_isub i_110_50 ?_
    refine x0 (r := (52, [some (.ref 93), some (.int (zI sd)), some (.int (zI i)), some (.int (zI (le - v))), some (.int (zI fr)), some (.long re), none, some (.int (zI v))], [], es)) i_110_51 rfl ?_
    refine x_iinc (x := fr) i_110_52 rfl (by show 4 < 8; decide) ?_
    show aW _ _ _ _ _ _ (55, [some (.ref 93), some (.int (zI sd)), some (.int (zI i)), some (.int (zI (le - v))), some (.int (zI (fr + 1))), some (.long re), none, some (.int (zI v))], [], es)
    refine x0 (r := (5, [some (.ref 93), some (.int (zI sd)), some (.int (zI i)), some (.int (zI (le - v))), some (.int (zI (fr + 1))), some (.long re), none, some (.int (zI v))], [], es)) i_110_55 rfl ?_
    exact K1 c1
  · refine x_cmpF i_110_31 (by unfold i32 iLO iHI; omega) (by unfold i32 iLO iHI; omega) rfl (by simp only [zC, cR]; omega) ?_
    refine x0 (r := (36, [some (.ref 93), some (.int (zI sd)), some (.int (zI i)), some (.int (zI le)), some (.int (zI fr)), some (.long re), none, some (.int (zI v))], [.int (zI 36)], es)) i_110_34 (by rfl) ?_
    refine x0 (r := (38, [some (.ref 93), some (.int (zI sd)), some (.int (zI i)), some (.int (zI le)), some (.int (zI fr)), some (.long re), none, some (.int (zI v))], [.int (zI fr), .int (zI 36)], es)) i_110_36 rfl ?_
    refine x_imul i_110_38 ?_
    refine x0 (r := (41, [some (.ref 93), some (.int (zI sd)), some (.int (zI i)), some (.int (zI le)), some (.int (zI fr)), some (.long re), none, some (.int (zI v))], [.long re, .int (zI (36 * fr))], es)) i_110_39 rfl ?_
    refine x0 (r := (42, [some (.ref 93), some (.int (zI sd)), some (.int (zI i)), some (.int (zI le)), some (.int (zI fr)), some (.long re), none, some (.int (zI v))], [.int (zI le), .long re, .int (zI (36 * fr))], es)) i_110_41 rfl ?_
    exact K2 c1
theorem s_mv45 {O : pOut} {d kc ks : Nat} {Q : pRes → Prop} {es : PH} {re : Int64} {sd i le fr h v b : Int} (hs_es : sh es) (h6 : 0 ≤ v ∧ v ≤ 36) (h7 : 0 ≤ b ∧ b ≤ 1296) (hT_es : hOK tT es)
    (K1 : Q (.inl (some (.int (zI (b + v)))), es, kc, ks)) :
    aW O d 110 kc ks Q (45, [some (.ref 93), some (.int (zI sd)), some (.int (zI i)), some (.int (zI le)), some (.int (zI fr)), some (.long re), none, some (.int (zI h))], [.int (zI v), .int (zI b)], es) := by
  refine x_iadd i_110_45 ?_
  refine x_ret (v := some (.int (zI (b + v)))) i_110_46 rfl (fun _ => rfl) rfl rfl rfl ?_
  exact K1
/-! Long.bitCount, how many MOVES and the i-th of the class -/
def nL (a : Int64) : Nat := a.toBitVec.toNat
theorem nL_lt (a : Int64) : nL a < 2 ^ 64 := a.toBitVec.isLt
theorem nL_and (a b : Int64) : nL (a &&& b) = nL a &&& nL b := by
  unfold nL
  rw [Int64.toBitVec_and, BitVec.toNat_and]
theorem nL_add {a b : Int64} (h : nL a + nL b < 2 ^ 64) : nL (a + b) = nL a + nL b := by
  unfold nL at *
  rw [Int64.toBitVec_add, BitVec.toNat_add, Nat.mod_eq_of_lt h]
theorem nL_sub {a b : Int64} (h : nL b ≤ nL a) : nL (a - b) = nL a - nL b := by
  unfold nL at *
  rw [Int64.toBitVec_sub, BitVec.toNat_sub_of_le h]
theorem shr_36 : ∀ x, x < 36 → (((Int32.ofNat x).toInt64.toUInt64 &&& Int64.toUInt64 63).toBitVec % 64).toNat = x := by decide
theorem nL_ushr {a : Int64} {x : Int} (h0 : 0 ≤ x) (h1 : x ≤ 35) : nL (a.toUInt64 >>> ((zI x).toInt64.toUInt64 &&& Int64.toUInt64 63)).toInt64 = nL a / 2 ^ x.toNat := by
  have hk := shr_36 x.toNat (by omega)
  rw [← zI_nat h0] at hk
  unfold nL
  rw [UInt64.toBitVec_toInt64, UInt64.toBitVec_shiftRight, BitVec.ushiftRight_eq', hk, BitVec.toNat_ushiftRight, Nat.shiftRight_eq_div_pow]
  rfl
theorem nL_bit {a : Int64} {t : Nat} : lbit a t = (nL a).testBit t := rfl
theorem pE_split {w : Nat} (hw : 0 < w) : ∀ (n y : Nat), y < 2 ^ (2 * w * n) → pE w n y + 2 ^ w * pE w n (y / 2 ^ w) = y := by
  intro n
  induction n with
  | zero =>
    intro y h
    rw [Nat.mul_zero, Nat.pow_zero] at h
    show 0 + 2 ^ w * 0 = y
    omega
  | succ n ih =>
    intro y h
    have h2 : y / 2 ^ (2 * w) < 2 ^ (2 * w * n) := by
      rw [Nat.div_lt_iff_lt_mul (Nat.two_pow_pos _), ← Nat.pow_add, show 2 * w * n + 2 * w = 2 * w * (n + 1) by rw [Nat.mul_add, Nat.mul_one]]
      exact h
    have e : y / 2 ^ w / 2 ^ (2 * w) = y / 2 ^ (2 * w) / 2 ^ w := by rw [Nat.div_div_eq_div_mul, Nat.div_div_eq_div_mul, Nat.mul_comm]
    have h3 := ih _ h2
    have h4 : 2 ^ (2 * w) = 2 ^ w * 2 ^ w := by rw [← Nat.pow_add, show w + w = 2 * w by omega]
    have h5 := Nat.div_add_mod y (2 ^ w)
    have h6 := Nat.div_add_mod (y / 2 ^ w) (2 ^ w)
    rw [two_w] at h6
    show (y % 2 ^ w + 2 ^ (2 * w) * pE w n (y / 2 ^ (2 * w))) + 2 ^ w * (y / 2 ^ w % 2 ^ w + 2 ^ (2 * w) * pE w n (y / 2 ^ w / 2 ^ (2 * w))) = y
    rw [e]
    generalize pE w n (y / 2 ^ (2 * w)) = p at *
    generalize pE w n (y / 2 ^ (2 * w) / 2 ^ w) = r at *
    have h7 : 2 ^ w * (y / 2 ^ w % 2 ^ w + 2 ^ (2 * w) * r) = 2 ^ w * (y / 2 ^ w % 2 ^ w) + 2 ^ (2 * w) * (2 ^ w * r) := by rw [Nat.mul_add, ← Nat.mul_assoc, ← Nat.mul_assoc, Nat.mul_comm (2 ^ w) (2 ^ (2 * w))]
    have h8 : 2 ^ (2 * w) * p + 2 ^ (2 * w) * (2 ^ w * r) = 2 ^ (2 * w) * (y / 2 ^ (2 * w)) := by rw [← Nat.mul_add, h3]
    have h9 : 2 ^ w * (2 ^ w * (y / 2 ^ (2 * w))) = 2 ^ (2 * w) * (y / 2 ^ (2 * w)) := by rw [← Nat.mul_assoc, ← h4]
    have h10 : 2 ^ w * (2 ^ w * (y / 2 ^ (2 * w)) + y / 2 ^ w % 2 ^ w) = y - y % 2 ^ w := by rw [h6]; omega
    rw [Nat.mul_add, h9] at h10
    rw [h7]
    have h11 : y % 2 ^ w ≤ y := Nat.mod_le _ _
    omega
theorem pAll_le {w c e : Nat} (h : c ≤ e) : ∀ (n y : Nat), pAll w c n y → pAll w e n y := by
  intro n
  induction n with
  | zero => intro y _; trivial
  | succ n ih => intro y h2; exact ⟨Nat.le_trans h2.1 h, ih _ h2.2⟩
theorem pF_lt {w : Nat} (hw : 0 < w) : ∀ (n y : Nat), pF w n y < 2 ^ (2 * w * n) := by
  intro n
  induction n with
  | zero => intro y; rw [Nat.mul_zero, Nat.pow_zero]; exact Nat.zero_lt_one
  | succ n ih =>
    intro y
    obtain ⟨s1, s2⟩ := pF_step hw n y
    have h := ih (y / 2 ^ (2 * w))
    rw [← s2, Nat.div_lt_iff_lt_mul (Nat.two_pow_pos _), ← Nat.pow_add, show 2 * w * n + 2 * w = 2 * w * (n + 1) by rw [Nat.mul_add, Nat.mul_one]] at h
    exact h
theorem top16 {z : Nat} (h : pAll 4 4 16 z) (hz : z < 2 ^ 64) : z < 5 * 2 ^ 60 := by
  obtain ⟨-, -, -, -, -, -, -, -, -, -, -, -, -, -, -, h15, -⟩ := h
  have p4 : (2 : Nat) ^ 4 = 16 := rfl
  rw [p4] at h15
  omega
theorem top8 {z : Nat} (h : pAll 8 8 8 z) (hz : z < 2 ^ 64) : z < 9 * 2 ^ 56 := by
  obtain ⟨-, -, -, -, -, -, -, h7, -⟩ := h
  have p8 : (2 : Nat) ^ 8 = 256 := rfl
  rw [p8] at h7
  omega
theorem cM1 : nL (6148914691236517205) = pMk 1 32 := by decide
theorem cM2 : nL (3689348814741910323) = pMk 2 16 := by decide
theorem cM4 : nL (1085102592571150095) = pMk 4 8 := by decide
theorem l2i_mod {a : Int64} (h : nL a < 2 ^ 63) : (a.toInt32).toInt % 128 = ((nL a % 128 : Nat) : Int) := by
  have e : a.toInt = (nL a : Int) := by
    show a.toBitVec.toInt = _
    rw [BitVec.toInt_eq_toNat_cond, if_pos (by show 2 * nL a < 2 ^ 64; omega)]
    rfl
  rw [Int64.toInt_toInt32, e, Int.bmod_def]
  split <;> omega
theorem pSum_cnt {X : Nat} : ∀ (n c : Nat), (pSum 1 n (X / 2 ^ c) : Int) = zCnt (fun t => X.testBit t) n c := by
  intro n
  induction n with
  | zero => intro c; rfl
  | succ n ih =>
    intro c
    have h := ih (c + 1)
    have e : X / 2 ^ c / 2 ^ 1 = X / 2 ^ (c + 1) := by rw [Nat.div_div_eq_div_mul, ← Nat.pow_add]
    show ((X / 2 ^ c % 2 ^ 1 + pSum 1 n (X / 2 ^ c / 2 ^ 1) : Nat) : Int) = (if X.testBit c = true then 1 else 0) + zCnt (fun t => X.testBit t) n (c + 1)
    rw [e, ← h, Nat.testBit_eq_decide_div_mod_eq]
    have h2 : X / 2 ^ c % 2 < 2 := Nat.mod_lt _ (by decide)
    rw [Nat.pow_one]
    by_cases hb : X / 2 ^ c % 2 = 1
    · rw [decide_eq_true hb, if_pos rfl]
      omega
    · rw [decide_eq_false hb, if_neg (by decide)]
      omega
theorem zCnt_none {P : Nat → Bool} : ∀ (f c : Nat), (∀ k, k < f → P (c + k) = false) → zCnt P f c = 0 := by
  intro f
  induction f with
  | zero => intro c _; rfl
  | succ f ih =>
    intro c h
    show (if P c = true then 1 else 0) + zCnt P f (c + 1) = 0
    rw [show P c = false from h 0 (by omega), if_neg (by decide), ih (c + 1) (fun k hk => by have := h (k + 1) (by omega); rw [show c + 1 + k = c + (k + 1) by omega]; exact this)]
    rfl
section
variable {O : pOut} {d kc ks : Nat} {Q : pRes → Prop} {es : PH}
theorem bc_spec {x : Int64} (hT : hOK tT es) (hb : ∀ t, 36 ≤ t → lbit x t = false) (K : Q (.inl (some (.int (zI (zCnt (lbit x) 36 0)))), es, kc, ks)) : aW O d 109 kc ks Q (0, [some (.long x), none], [], es) := by
  have hX := nL_lt x
  have y1 : pAll 2 2 32 (pF 1 32 (nL x)) := pF_all (by decide) 32 (nL x) (pAll_1 64 _)
  have yl : pF 1 32 (nL x) < 2 ^ 64 := pF_lt (w := 1) (by decide) 32 (nL x)
  have z1 : pAll 4 4 16 (pF 2 16 (pF 1 32 (nL x))) := pF_all (by decide) 16 _ y1
  have zl : pF 2 16 (pF 1 32 (nL x)) < 2 ^ 64 := pF_lt (w := 2) (by decide) 16 _
  have zt := top16 z1 zl
  have d1 : pAll 8 8 8 (pF 4 8 (pF 2 16 (pF 1 32 (nL x)))) := pF_all (by decide) 8 _ z1
  have dl : pF 4 8 (pF 2 16 (pF 1 32 (nL x))) < 2 ^ 64 := pF_lt (w := 4) (by decide) 8 _
  have dt := top8 d1 dl
  refine s_bc0 (sh_of hT) hT (fun w1 e1 w2 e2 w3 e3 w4 e4 w5 e5 w6 e6 w7 e7 w8 e8 w9 e9 w10 e10 w11 e11 w12 e12 w13 e13 w14 e14 w15 e15 w16 e16 v17 e17 v18 e18 => ?_)
  have n1 : nL w1 = nL x / 2 := by rw [e1, nL_ushr (by decide) (by decide)]; rfl
  have n2 : nL w2 = pE 1 32 (nL x / 2) := by rw [e2, nL_and, n1, cM1, pE_and (by decide)]
  have hs := pE_split (w := 1) (by decide) 32 (nL x) hX
  have hF := pE_F (w := 1) 32 (nL x)
  rw [Nat.pow_one] at hs hF
  have n3 : nL w3 = pF 1 32 (nL x) := by rw [e3, nL_sub (by omega), n2]; omega
  have n4 : nL w4 = pE 2 16 (pF 1 32 (nL x)) := by rw [e4, nL_and, n3, cM2, pE_and (by decide)]
  have n5 : nL w5 = pF 1 32 (nL x) / 4 := by rw [e5, nL_ushr (by decide) (by decide), n3]; rfl
  have n6 : nL w6 = pE 2 16 (pF 1 32 (nL x) / 4) := by rw [e6, nL_and, n5, cM2, pE_and (by decide)]
  have hF2 := pE_F (w := 2) 16 (pF 1 32 (nL x))
  rw [show (2 : Nat) ^ 2 = 4 from rfl] at hF2
  have n7 : nL w7 = pF 2 16 (pF 1 32 (nL x)) := by rw [e7, nL_add (by omega), n4, n6]; exact hF2
  have n8 : nL w8 = pF 2 16 (pF 1 32 (nL x)) / 16 := by rw [e8, nL_ushr (by decide) (by decide), n7]; rfl
  have n9 : nL w9 = pF 2 16 (pF 1 32 (nL x)) + pF 2 16 (pF 1 32 (nL x)) / 16 := by rw [e9, nL_add (by omega), n7, n8]
  have h16 : pF 2 16 (pF 1 32 (nL x)) / 16 ^ (2 * 8) = 0 := Nat.div_eq_of_lt (by show _ < 2 ^ 64; exact zl)
  have n10 : nL w10 = pF 4 8 (pF 2 16 (pF 1 32 (nL x))) := by rw [e10, nL_and, n9, cM4, pE_and (by decide), pE_carry 8 _ (pAll_le (by decide) _ _ z1) (by rw [h16]; decide)]
  generalize hD : pF 4 8 (pF 2 16 (pF 1 32 (nL x))) = D at *
  have n11 : nL w11 = D / 256 := by rw [e11, nL_ushr (by decide) (by decide), n10]; rfl
  have n12 : nL w12 = D + D / 256 := by rw [e12, nL_add (by omega), n10, n11]
  have n13 : nL w13 = (D + D / 256) / 65536 := by rw [e13, nL_ushr (by decide) (by decide), n12]; rfl
  have n14 : nL w14 = D + D / 256 + (D + D / 256) / 65536 := by rw [e14, nL_add (by omega), n12, n13]
  have n15 : nL w15 = (D + D / 256 + (D + D / 256) / 65536) / 4294967296 := by rw [e15, nL_ushr (by decide) (by decide), n14]; rfl
  have n16 : nL w16 = D + D / 256 + (D + D / 256) / 65536 + (D + D / 256 + (D + D / 256) / 65536) / 4294967296 := by rw [e16, nL_add (by omega), n14, n15]
  have hl := p_last d1 dl
  rw [← n16] at hl
  have hm := l2i_mod (a := w16) (by omega)
  have hsum : pSum 8 8 D = pSum 1 64 (nL x) := by
    rw [← hD]
    exact (pF_sum (w := 4) (by decide) 8 _).trans ((pF_sum (w := 2) (by decide) 16 _).trans (pF_sum (w := 1) (by decide) 32 _))
  have hc := pSum_cnt (X := nL x) 64 0
  rw [Nat.pow_zero, Nat.div_one] at hc
  have hc2 : zCnt (fun t => (nL x).testBit t) 64 0 = zCnt (lbit x) 36 0 := by
    show zCnt (lbit x) (36 + 28) 0 = _
    rw [zCnt_add, zCnt_none 28 (0 + 36) (fun k _ => hb _ (by omega)), Int.add_zero]
  have hv : v18 = zCnt (lbit x) 36 0 := by
    rw [e18, Jvm.Kit.i32_mask (zI v17) (zI 127) (k := 7) (by decide) (by decide), zI_toInt (by rw [e17]; exact i32_rng _), e17, ← hc2, ← hc, ← hsum, ← hl]
    exact hm
  rw [hv]
  exact K
/-- the i-th bit of a long -/
theorem ba_loop {bi : Int64} {i : Int} (hT : hOK tT es) (K : ∀ v, v = zNth (lbit bi) 36 0 i → Q (.inl (some (.int (zI v))), es, kc, ks)) : ∀ (m n : Nat) (le : Int), n + m = 36 → 0 ≤ le → le ≤ 2147483647 → le < zCnt (lbit bi) m n → zNth (lbit bi) m n le = zNth (lbit bi) 36 0 i → aW O d 111 kc ks Q (5, [some (.long bi), none, some (.int (zI i)), some (.int (zI le)), some (.int (zI (n : Int)))], [], es) := by
  intro m
  induction m with
  | zero =>
    intro n le hn h0 hi hc
    have : le < 0 := hc
    omega
  | succ m ih =>
    intro n le hn h0 hi hc hx
    have e1 : ((n + 1 : Nat) : Int) = (n : Int) + 1 := by omega
    have hc' : le < (if lbit bi n = true then 1 else 0) + zCnt (lbit bi) m (n + 1) := hc
    have hx' : (if lbit bi n = true then (if le = 0 then (n : Int) else zNth (lbit bi) m (n + 1) (le - 1)) else zNth (lbit bi) m (n + 1) le) = zNth (lbit bi) 36 0 i := hx
    have bit : ∀ {w2 w3 : Int64} {v4 : Int}, w2 = (bi.toUInt64 >>> ((zI (n : Int)).toInt64.toUInt64 &&& Int64.toUInt64 63)).toInt64 → w3 = w2 &&& (Int64.ofNat 1) → v4 = sgn (w3.toInt - (Int64.ofNat 0).toInt) → (v4 = 0 ↔ ¬ lbit bi n = true) := by
      intro w2 w3 v4 e2 e3 e4
      have h1 : nL w3 = nL bi / 2 ^ n % 2 := by
        rw [e3, nL_and, e2, nL_ushr (by omega) (by omega), Int.toNat_natCast]
        exact Nat.and_one_is_mod _
      have h2 : nL bi / 2 ^ n % 2 < 2 := Nat.mod_lt _ (by decide)
      have h3 : w3.toInt = (nL w3 : Int) := by
        show w3.toBitVec.toInt = _
        rw [BitVec.toInt_eq_toNat_cond, if_pos (by show 2 * nL w3 < 2 ^ 64; omega)]
        rfl
      have h4 : (Int64.ofNat 0).toInt = 0 := rfl
      rw [e4, sgn_z, h3, h4, h1, nL_bit, Nat.testBit_eq_decide_div_mod_eq, decide_eq_true_iff]
      constructor <;> intro h <;> omega
    refine s_ba5 (sh_of hT) ⟨by omega, by omega⟩ ⟨h0, hi⟩ hT (fun c => absurd c (by omega)) (fun c w2 e2 w3 e3 v4 e4 c4 => ?_) (fun c w2 e2 w3 e3 v4 e4 c4 c5 => ?_) (fun c w2 e2 w3 e3 v4 e4 c4 c5 => ?_)
    · have hb := (bit e2 e3 e4).mp c4
      rw [if_neg hb] at hc' hx'
      have h9 := ih (n + 1) le (by omega) h0 hi (by omega) hx'
      rw [e1] at h9
      exact h9
    · have hb : lbit bi n = true := by
        cases hh : lbit bi n with
        | true => rfl
        | false => exact absurd ((bit e2 e3 e4).mpr (by rw [hh]; decide)) c4
      rw [if_pos hb] at hc' hx'
      rw [if_neg c5] at hx'
      have h9 := ih (n + 1) (le - 1) (by omega) (by omega) (by omega) (by omega) hx'
      rw [e1, show le - 1 = le + (-1) by omega] at h9
      exact h9
    · have hb : lbit bi n = true := by
        cases hh : lbit bi n with
        | true => rfl
        | false => exact absurd ((bit e2 e3 e4).mpr (by rw [hh]; decide)) c4
      rw [if_pos hb, if_pos (by omega)] at hx'
      exact K _ hx'
theorem ba_spec {bi : Int64} {i : Int} (hT : hOK tT es) (h0 : 0 ≤ i) (h1 : i < zCnt (lbit bi) 36 0) (K : Q (.inl (some (.int (zI (zNth (lbit bi) 36 0 i)))), es, kc, ks)) : aW O d 111 kc ks Q (0, [some (.long bi), none, some (.int (zI i)), none, none], [], es) := by
  have hn := zCnt_nn (P := lbit bi) 36 0
  exact s_ba0 (sh_of hT) hT (ba_loop (d := d) hT (fun v hv => by rw [hv]; exact K) 36 0 i (by omega) h0 (by omega) h1 rfl)
end
/-! howManyMoves, moveAt of the class -/
theorem zOff_36 {s : Nat} {df dr : Int} : zOff s df dr ≤ 35 := by
  unfold zOff
  split <;> omega
theorem zRay_36 {B : Nat → Int} {md : Nat} {sd df dr : Int} {t : Nat} (ht : 36 ≤ t) : ∀ (k s : Nat), zRay B md sd df dr k s t = false := by
  intro k
  induction k with
  | zero => intro s; rfl
  | succ k ih =>
    intro s
    have h := zOff_36 (s := s) (df := df) (dr := dr)
    rw [zRay_s, ih, Bool.and_false, Bool.or_false]
    split
    · rfl
    · rw [decide_eq_false (by omega), Bool.false_and]
theorem zLns_36 {B : Nat → Int} {sd : Int} {L : Nat → Int × Nat} {s t : Nat} (ht : 36 ≤ t) : ∀ n : Nat, zLns B sd L n s t = false := by
  intro n
  induction n with
  | zero => rfl
  | succ n ih =>
    show (zLns B sd L n s t || zLn B sd (L n).1 (L n).2 s t) = false
    rw [ih, Bool.false_or]
    unfold zLn
    rw [List.any_eq_false]
    intro x _
    rw [zRay_36 ht]
    decide
theorem zGo_36 {B : Nat → Int} {K : Nat → Nat × (Nat → Int × Nat)} {sd : Int} {s t : Nat} (ht : 36 ≤ t) : zGo B K sd s t = false := by
  unfold zGo
  rw [zLns_36 ht, Bool.and_false, Bool.and_false]
theorem zMv_at {B : Nat → Int} {K : Nat → Nat × (Nat → Int × Nat)} {sd : Int} {f k : Nat} (hk : k < 36) : zMv B K sd (36 * f + k) = zGo B K sd f k := by
  unfold zMv
  rw [show (36 * f + k) / 36 = f by omega, show (36 * f + k) % 36 = k by omega]
theorem zNth_bd {P : Nat → Bool} : ∀ (f c : Nat) (i : Int), 0 ≤ i → i < zCnt P f c → (c : Int) ≤ zNth P f c i ∧ zNth P f c i < (c : Int) + (f : Int) := by
  intro f
  induction f with
  | zero =>
    intro c i h0 h1
    have : i < 0 := h1
    omega
  | succ f ih =>
    intro c i h0 h1
    have h1' : i < (if P c = true then 1 else 0) + zCnt P f (c + 1) := h1
    show (c : Int) ≤ (if P c = true then (if i = 0 then (c : Int) else zNth P f (c + 1) (i - 1)) else zNth P f (c + 1) i) ∧ (if P c = true then (if i = 0 then (c : Int) else zNth P f (c + 1) (i - 1)) else zNth P f (c + 1) i) < (c : Int) + ((f + 1 : Nat) : Int)
    by_cases hp : P c = true
    · rw [if_pos hp] at h1'
      rw [if_pos hp]
      by_cases hi : i = 0
      · rw [if_pos hi]; omega
      · rw [if_neg hi]
        have := ih (c + 1) (i - 1) (by omega) (by omega)
        omega
    · rw [if_neg hp] at h1'
      rw [if_neg hp]
      have := ih (c + 1) i h0 (by omega)
      omega
section
variable {d kc ks : Nat} {Q : pRes → Prop} {es : PH} {B : Nat → Int} {xs : Nat → Int32} {N : Nat} {K : Nat → Nat × (Nat → Int × Nat)}
theorem hm_loop {sd : Int} (hT : hOK tT es) (hB : bdC B 30 es) (hK : kdC K 9 10 es) (h4 : 0 ≤ sd ∧ sd ≤ 1) (hQ : Q (.inl (some (.int (zI (zCnt (zMv B K sd) 1296 0)))), es, kc, ks)) : ∀ (m f : Nat), f + m = 36 → aW (pO0 xs N) (d + 4) 108 kc ks Q (4, [some (.ref 93), some (.int (zI sd)), some (.int (zI (zCnt (zMv B K sd) (36 * f) 0))), some (.int (zI (f : Int)))], [], es) := by
  intro m
  induction m with
  | zero =>
    intro f hf
    rw [Nat.add_zero] at hf
    subst hf
    exact s_hm4 (d := d + 4) (sh_of hT) ⟨by omega, by omega⟩ hT (fun _ => hQ) (fun c => absurd (by omega) c)
  | succ m ih =>
    intro f hf
    have e1 : ((f + 1 : Nat) : Int) = (f : Int) + 1 := by omega
    refine s_hm4 (d := d + 4) (sh_of hT) ⟨by omega, by omega⟩ hT (fun c => absurd c (by omega)) (fun _ => ?_)
    refine x_call (vs := [.ref 93, .int (zI (f : Int)), .int (zI sd)]) (rs := [.int (zI (zCnt (zMv B K sd) (36 * f) 0))]) i_108_14 rfl (fun _ => rfl) rfl rfl rfl rfl rfl (pCall_v (p := 29) (sh_of hT) rfl rfl rfl rfl rfl (by decide) rfl rfl rfl rfl rfl) ?_
    show aW _ _ _ _ _ _ (0, [some (.ref 93), some (.int (zI (f : Int))), some (.int (zI sd)), none, none, none, none, none], [], es)
    refine ro_spec (d := d) (K := K) hT hB hK ⟨by omega, by omega⟩ h4 (fun al hal => ?_)
    show aW _ _ _ _ _ _ (17, [some (.ref 93), some (.int (zI sd)), some (.int (zI (zCnt (zMv B K sd) (36 * f) 0))), some (.int (zI (f : Int)))], [.long al, .int (zI (zCnt (zMv B K sd) (36 * f) 0))], es)
    refine x_call (vs := [.long al]) (rs := [.int (zI (zCnt (zMv B K sd) (36 * f) 0))]) i_108_17 rfl (fun _ => rfl) rfl rfl rfl rfl rfl rfl ?_
    show aW _ _ _ _ _ _ (0, [some (.long al), none], [], es)
    refine bc_spec (d := d + 3) hT (fun t ht => by rw [hal t, Int.toNat_natCast]; exact zGo_36 ht) ?_
    show aW _ _ _ _ _ _ (20, [some (.ref 93), some (.int (zI sd)), some (.int (zI (zCnt (zMv B K sd) (36 * f) 0))), some (.int (zI (f : Int)))], [.int (zI (zCnt (lbit al) 36 0)), .int (zI (zCnt (zMv B K sd) (36 * f) 0))], es)
    refine s_hm20 (d := d + 4) (sh_of hT) ⟨by omega, by omega⟩ hT ?_
    have hc : zCnt (zMv B K sd) 36 (0 + 36 * f) = zCnt (lbit al) 36 0 := zCnt_sh 36 (0 + 36 * f) 0 (fun k hk => by rw [Nat.zero_add, Nat.zero_add, zMv_at hk, hal k, Int.toNat_natCast])
    have h9 := ih (f + 1) (by omega)
    rw [show 36 * (f + 1) = 36 * f + 36 by omega, zCnt_add, hc, e1] at h9
    exact h9
theorem hm_spec {sd : Int} (hT : hOK tT es) (hB : bdC B 30 es) (hK : kdC K 9 10 es) (h4 : 0 ≤ sd ∧ sd ≤ 1) (hQ : Q (.inl (some (.int (zI (zCnt (zMv B K sd) 1296 0)))), es, kc, ks)) : aW (pO0 xs N) (d + 4) 108 kc ks Q (0, [some (.ref 93), some (.int (zI sd)), none, none], [], es) :=
  s_hm0 (d := d + 4) (sh_of hT) hT (hm_loop hT hB hK h4 hQ 36 0 (by omega))
theorem mva_loop {sd i : Int} (hT : hOK tT es) (hB : bdC B 30 es) (hK : kdC K 9 10 es) (h4 : 0 ≤ sd ∧ sd ≤ 1) (hQ : Q (.inl (some (.int (zI (zNth (zMv B K sd) 1296 0 i)))), es, kc, ks)) : ∀ (m f : Nat) (le : Int) (x5 x6 x7 : Option Value), f + m = 36 → 0 ≤ le → le ≤ 2147483647 → zNth (zMv B K sd) (36 * m) (36 * f) le = zNth (zMv B K sd) 1296 0 i → aW (pO0 xs N) (d + 4) 110 kc ks Q (5, [some (.ref 93), some (.int (zI sd)), some (.int (zI i)), some (.int (zI le)), some (.int (zI (f : Int))), x5, x6, x7], [], es) := by
  intro m
  induction m with
  | zero =>
    intro f le x5 x6 x7 hf h0 h1 hx
    have hx' : (-1 : Int) = zNth (zMv B K sd) 1296 0 i := hx
    rw [← hx'] at hQ
    exact s_mv5 (d := d + 4) (sh_of hT) ⟨by omega, by omega⟩ hT (fun _ => hQ) (fun c => absurd (by omega) c)
  | succ m ih =>
    intro f le x5 x6 x7 hf h0 h1 hx
    have e1 : ((f + 1 : Nat) : Int) = (f : Int) + 1 := by omega
    refine s_mv5 (d := d + 4) (sh_of hT) ⟨by omega, by omega⟩ hT (fun c => absurd c (by omega)) (fun _ => ?_)
    refine x_call (vs := [.ref 93, .int (zI (f : Int)), .int (zI sd)]) (rs := []) i_110_16 rfl (fun _ => rfl) rfl rfl rfl rfl rfl (pCall_v (p := 29) (sh_of hT) rfl rfl rfl rfl rfl (by decide) rfl rfl rfl rfl rfl) ?_
    show aW _ _ _ _ _ _ (0, [some (.ref 93), some (.int (zI (f : Int))), some (.int (zI sd)), none, none, none, none, none], [], es)
    refine ro_spec (d := d) (K := K) hT hB hK ⟨by omega, by omega⟩ h4 (fun al hal => ?_)
    show aW _ _ _ _ _ _ (19, [some (.ref 93), some (.int (zI sd)), some (.int (zI i)), some (.int (zI le)), some (.int (zI (f : Int))), x5, x6, x7], [.long al], es)
    refine s_mv19 (d := d + 4) (sh_of hT) hT ?_
    refine x_call (vs := [.long al]) (rs := []) i_110_23 rfl (fun _ => rfl) rfl rfl rfl rfl rfl rfl ?_
    show aW _ _ _ _ _ _ (0, [some (.long al), none], [], es)
    refine bc_spec (d := d + 3) hT (fun t ht => by rw [hal t, Int.toNat_natCast]; exact zGo_36 ht) ?_
    show aW _ _ _ _ _ _ (26, [some (.ref 93), some (.int (zI sd)), some (.int (zI i)), some (.int (zI le)), some (.int (zI (f : Int))), some (.long al), none, x7], [.int (zI (zCnt (lbit al) 36 0))], es)
    have hc : zCnt (zMv B K sd) 36 (36 * f) = zCnt (lbit al) 36 0 := zCnt_sh 36 (36 * f) 0 (fun k hk => by rw [Nat.zero_add, zMv_at hk, hal k, Int.toNat_natCast])
    have hcn := zCnt_nn (P := lbit al) 36 0
    rw [show 36 * (m + 1) = 36 + 36 * m by omega, zNth_add 36 (36 * m) (36 * f) le h0, hc] at hx
    refine s_mv26 (d := d + 4) (sh_of hT) ⟨by omega, by omega⟩ ⟨h0, h1⟩ ⟨by omega, by omega⟩ hT (fun c => ?_) (fun c => ?_)
    · rw [if_neg (by omega)] at hx
      have h9 := ih (f + 1) (le - zCnt (lbit al) 36 0) (some (.long al)) none (some (.int (zI (zCnt (lbit al) 36 0)))) (by omega) (by omega) (by omega) (by rw [show 36 * (f + 1) = 36 * f + 36 by omega]; exact hx)
      rw [e1] at h9
      exact h9
    · rw [if_pos (by omega), zNth_sh (R := lbit al) 36 (36 * f) 0 le (fun k hk => by rw [Nat.zero_add, zMv_at hk, hal k, Int.toNat_natCast]) h0 (by omega)] at hx
      have hb := zNth_bd (P := lbit al) 36 0 le h0 (by omega)
      refine x_call (vs := [.long al, .int (zI le)]) (rs := [.int (zI (36 * (f : Int)))]) i_110_42 rfl (fun _ => rfl) rfl rfl rfl rfl rfl rfl ?_
      show aW _ _ _ _ _ _ (0, [some (.long al), none, some (.int (zI le)), none, none], [], es)
      refine ba_spec (d := d + 3) hT h0 (by omega) ?_
      show aW _ _ _ _ _ _ (45, [some (.ref 93), some (.int (zI sd)), some (.int (zI i)), some (.int (zI le)), some (.int (zI (f : Int))), some (.long al), none, some (.int (zI (zCnt (lbit al) 36 0)))], [.int (zI (zNth (lbit al) 36 0 le)), .int (zI (36 * (f : Int)))], es)
      refine s_mv45 (d := d + 4) (sh_of hT) ⟨by omega, by omega⟩ ⟨by omega, by omega⟩ hT ?_
      rw [show 36 * (f : Int) + zNth (lbit al) 36 0 le = zNth (zMv B K sd) 1296 0 i by rw [← hx]; omega]
      exact hQ
theorem mva_spec {sd i : Int} (hT : hOK tT es) (hB : bdC B 30 es) (hK : kdC K 9 10 es) (h4 : 0 ≤ sd ∧ sd ≤ 1) (h0 : 0 ≤ i) (h1 : i ≤ 2147483647) (hQ : Q (.inl (some (.int (zI (zNth (zMv B K sd) 1296 0 i)))), es, kc, ks)) : aW (pO0 xs N) (d + 4) 110 kc ks Q (0, [some (.ref 93), some (.int (zI sd)), some (.int (zI i)), none, none, none, none, none], [], es) :=
  s_ma110_0 (d := d + 4) (sh_of hT) hT (mva_loop hT hB hK h4 hQ 36 0 i none none none (by omega) h0 h1 rfl)
end
