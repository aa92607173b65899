theorem i_47_0 : iRow 47 0 = some (.aload_n 0, 0, 0, 0, (some (Jvm.ClassFile.FieldType.long))) := rfl
theorem i_47_1 : iRow 47 1 = some (.getfield 9, 54, 0, 1, (some (Jvm.ClassFile.FieldType.long))) := rfl
theorem i_47_4 : iRow 47 4 = some (.iload_n 1, 0, 0, 0, (some (Jvm.ClassFile.FieldType.long))) := rfl
theorem i_47_5 : iRow 47 5 = some (.invokestatic 28, 16, 28, 3, (some (Jvm.ClassFile.FieldType.long))) := rfl
theorem i_47_8 : iRow 47 8 = some (.istore_n 3, 0, 0, 0, (some (Jvm.ClassFile.FieldType.long))) := rfl
theorem i_47_9 : iRow 47 9 = some (.lconst 0, 0, 0, 0, (some (Jvm.ClassFile.FieldType.long))) := rfl
theorem i_47_10 : iRow 47 10 = some (.lstore 4, 0, 0, 0, (some (Jvm.ClassFile.FieldType.long))) := rfl
theorem i_47_12 : iRow 47 12 = some (.iload_n 3, 0, 0, 0, (some (Jvm.ClassFile.FieldType.long))) := rfl
theorem i_47_13 : iRow 47 13 = some (.iload_n 2, 0, 0, 0, (some (Jvm.ClassFile.FieldType.long))) := rfl
theorem i_47_14 : iRow 47 14 = some (.invokestatic 36, 17, 48, 3, (some (Jvm.ClassFile.FieldType.long))) := rfl
theorem i_47_17 : iRow 47 17 = some (.ifCond .ne 6, 0, 0, 0, (some (Jvm.ClassFile.FieldType.long))) := rfl
theorem i_47_20 : iRow 47 20 = some (.lload 4, 0, 0, 0, (some (Jvm.ClassFile.FieldType.long))) := rfl
theorem i_47_22 : iRow 47 22 = some (.lreturn, 0, 0, 0, (some (Jvm.ClassFile.FieldType.long))) := rfl
theorem i_47_23 : iRow 47 23 = some (.iload_n 3, 0, 0, 0, (some (Jvm.ClassFile.FieldType.long))) := rfl
theorem i_47_24 : iRow 47 24 = some (.invokestatic 54, 18, 49, 3, (some (Jvm.ClassFile.FieldType.long))) := rfl
theorem i_47_27 : iRow 47 27 = some (.istore 6, 0, 0, 0, (some (Jvm.ClassFile.FieldType.long))) := rfl
theorem i_47_29 : iRow 47 29 = some (.iconst 0, 0, 0, 0, (some (Jvm.ClassFile.FieldType.long))) := rfl
theorem i_47_30 : iRow 47 30 = some (.istore 7, 0, 0, 0, (some (Jvm.ClassFile.FieldType.long))) := rfl
theorem i_47_32 : iRow 47 32 = some (.iload 7, 0, 0, 0, (some (Jvm.ClassFile.FieldType.long))) := rfl
theorem i_47_34 : iRow 47 34 = some (.aload_n 0, 0, 0, 0, (some (Jvm.ClassFile.FieldType.long))) := rfl
theorem i_47_35 : iRow 47 35 = some (.getfield 15, 53, 0, 0, (some (Jvm.ClassFile.FieldType.long))) := rfl
theorem i_47_38 : iRow 47 38 = some (.getfield 58, 24, 1, 2, (some (Jvm.ClassFile.FieldType.long))) := rfl
theorem i_47_41 : iRow 47 41 = some (.iload 6, 0, 0, 0, (some (Jvm.ClassFile.FieldType.long))) := rfl
theorem i_47_43 : iRow 47 43 = some (.invokestatic 28, 16, 28, 3, (some (Jvm.ClassFile.FieldType.long))) := rfl
theorem i_47_46 : iRow 47 46 = some (.if_icmp .ge 44, 0, 0, 0, (some (Jvm.ClassFile.FieldType.long))) := rfl
theorem i_47_49 : iRow 47 49 = some (.lload 4, 0, 0, 0, (some (Jvm.ClassFile.FieldType.long))) := rfl
theorem i_47_51 : iRow 47 51 = some (.aload_n 0, 0, 0, 0, (some (Jvm.ClassFile.FieldType.long))) := rfl
theorem i_47_52 : iRow 47 52 = some (.aload_n 0, 0, 0, 0, (some (Jvm.ClassFile.FieldType.long))) := rfl
theorem i_47_53 : iRow 47 53 = some (.getfield 15, 53, 0, 0, (some (Jvm.ClassFile.FieldType.long))) := rfl
theorem i_47_56 : iRow 47 56 = some (.iload 6, 0, 0, 0, (some (Jvm.ClassFile.FieldType.long))) := rfl
theorem i_47_58 : iRow 47 58 = some (.iload 7, 0, 0, 0, (some (Jvm.ClassFile.FieldType.long))) := rfl
theorem i_47_60 : iRow 47 60 = some (.iconst 0, 0, 0, 0, (some (Jvm.ClassFile.FieldType.long))) := rfl
theorem i_47_61 : iRow 47 61 = some (.invokevirtual 61, 54, 50, 1, (some (Jvm.ClassFile.FieldType.long))) := rfl
theorem i_47_64 : iRow 47 64 = some (.aload_n 0, 0, 0, 0, (some (Jvm.ClassFile.FieldType.long))) := rfl
theorem i_47_65 : iRow 47 65 = some (.getfield 15, 53, 0, 0, (some (Jvm.ClassFile.FieldType.long))) := rfl
theorem i_47_68 : iRow 47 68 = some (.iload 6, 0, 0, 0, (some (Jvm.ClassFile.FieldType.long))) := rfl
theorem i_47_70 : iRow 47 70 = some (.iload 7, 0, 0, 0, (some (Jvm.ClassFile.FieldType.long))) := rfl
theorem i_47_72 : iRow 47 72 = some (.iconst 1, 0, 0, 0, (some (Jvm.ClassFile.FieldType.long))) := rfl
theorem i_47_73 : iRow 47 73 = some (.invokevirtual 61, 54, 50, 1, (some (Jvm.ClassFile.FieldType.long))) := rfl
theorem i_47_76 : iRow 47 76 = some (.iload_n 1, 0, 0, 0, (some (Jvm.ClassFile.FieldType.long))) := rfl
theorem i_47_77 : iRow 47 77 = some (.iload_n 2, 0, 0, 0, (some (Jvm.ClassFile.FieldType.long))) := rfl
theorem i_47_78 : iRow 47 78 = some (.invokevirtual 65, 55, 51, 1, (some (Jvm.ClassFile.FieldType.long))) := rfl
theorem i_47_81 : iRow 47 81 = some (.lor, 0, 0, 0, (some (Jvm.ClassFile.FieldType.long))) := rfl
theorem i_47_82 : iRow 47 82 = some (.lstore 4, 0, 0, 0, (some (Jvm.ClassFile.FieldType.long))) := rfl
theorem i_47_84 : iRow 47 84 = some (.iinc 7 1, 0, 0, 0, (some (Jvm.ClassFile.FieldType.long))) := rfl
theorem i_47_87 : iRow 47 87 = some (.goto (-55), 0, 0, 0, (some (Jvm.ClassFile.FieldType.long))) := rfl
theorem i_47_90 : iRow 47 90 = some (.lload 4, 0, 0, 0, (some (Jvm.ClassFile.FieldType.long))) := rfl
theorem i_47_92 : iRow 47 92 = some (.lreturn, 0, 0, 0, (some (Jvm.ClassFile.FieldType.long))) := rfl
theorem i_50_0 : iRow 50 0 = some (.aload_n 0, 0, 0, 0, (some (Jvm.ClassFile.FieldType.int))) := rfl
theorem i_50_1 : iRow 50 1 = some (.getfield 18, 25, 1, 3, (some (Jvm.ClassFile.FieldType.int))) := rfl
theorem i_50_4 : iRow 50 4 = some (.iload_n 1, 0, 0, 0, (some (Jvm.ClassFile.FieldType.int))) := rfl
theorem i_50_5 : iRow 50 5 = some (.bipush 6, 0, 0, 0, (some (Jvm.ClassFile.FieldType.int))) := rfl
theorem i_50_7 : iRow 50 7 = some (.imul, 0, 0, 0, (some (Jvm.ClassFile.FieldType.int))) := rfl
theorem i_50_8 : iRow 50 8 = some (.iload_n 2, 0, 0, 0, (some (Jvm.ClassFile.FieldType.int))) := rfl
theorem i_50_9 : iRow 50 9 = some (.iadd, 0, 0, 0, (some (Jvm.ClassFile.FieldType.int))) := rfl
theorem i_50_10 : iRow 50 10 = some (.iconst 2, 0, 0, 0, (some (Jvm.ClassFile.FieldType.int))) := rfl
theorem i_50_11 : iRow 50 11 = some (.imul, 0, 0, 0, (some (Jvm.ClassFile.FieldType.int))) := rfl
theorem i_50_12 : iRow 50 12 = some (.iload_n 3, 0, 0, 0, (some (Jvm.ClassFile.FieldType.int))) := rfl
theorem i_50_13 : iRow 50 13 = some (.iadd, 0, 0, 0, (some (Jvm.ClassFile.FieldType.int))) := rfl
theorem i_50_14 : iRow 50 14 = some (.invokestatic 73, 11, 28, 3, (some (Jvm.ClassFile.FieldType.int))) := rfl
theorem i_50_17 : iRow 50 17 = some (.ireturn, 0, 0, 0, (some (Jvm.ClassFile.FieldType.int))) := rfl
theorem i_51_0 : iRow 51 0 = some (.iload_n 1, 0, 0, 0, (some (Jvm.ClassFile.FieldType.long))) := rfl
theorem i_51_1 : iRow 51 1 = some (.iload 4, 0, 0, 0, (some (Jvm.ClassFile.FieldType.long))) := rfl
theorem i_51_3 : iRow 51 3 = some (.invokestatic 69, 56, 52, 0, (some (Jvm.ClassFile.FieldType.long))) := rfl
theorem i_51_6 : iRow 51 6 = some (.astore 5, 0, 0, 0, (some (Jvm.ClassFile.FieldType.long))) := rfl
theorem i_51_8 : iRow 51 8 = some (.lconst 0, 0, 0, 0, (some (Jvm.ClassFile.FieldType.long))) := rfl
theorem i_51_9 : iRow 51 9 = some (.lstore 6, 0, 0, 0, (some (Jvm.ClassFile.FieldType.long))) := rfl
theorem i_51_11 : iRow 51 11 = some (.iconst 0, 0, 0, 0, (some (Jvm.ClassFile.FieldType.long))) := rfl
theorem i_51_12 : iRow 51 12 = some (.istore 8, 0, 0, 0, (some (Jvm.ClassFile.FieldType.long))) := rfl
theorem i_51_14 : iRow 51 14 = some (.iload 8, 0, 0, 0, (some (Jvm.ClassFile.FieldType.long))) := rfl
theorem i_51_16 : iRow 51 16 = some (.iconst 1, 0, 0, 0, (some (Jvm.ClassFile.FieldType.long))) := rfl
theorem i_51_17 : iRow 51 17 = some (.iadd, 0, 0, 0, (some (Jvm.ClassFile.FieldType.long))) := rfl
theorem i_51_18 : iRow 51 18 = some (.aload 5, 0, 0, 0, (some (Jvm.ClassFile.FieldType.long))) := rfl
theorem i_51_20 : iRow 51 20 = some (.arraylength, 0, 0, 0, (some (Jvm.ClassFile.FieldType.long))) := rfl
theorem i_51_21 : iRow 51 21 = some (.if_icmp .ge 157, 0, 0, 0, (some (Jvm.ClassFile.FieldType.long))) := rfl
theorem i_51_24 : iRow 51 24 = some (.iload_n 3, 0, 0, 0, (some (Jvm.ClassFile.FieldType.long))) := rfl
theorem i_51_25 : iRow 51 25 = some (.bipush 6, 0, 0, 0, (some (Jvm.ClassFile.FieldType.long))) := rfl
theorem i_51_27 : iRow 51 27 = some (.idiv, 0, 0, 0, (some (Jvm.ClassFile.FieldType.long))) := rfl
theorem i_51_28 : iRow 51 28 = some (.istore 9, 0, 0, 0, (some (Jvm.ClassFile.FieldType.long))) := rfl
theorem i_51_30 : iRow 51 30 = some (.iload_n 3, 0, 0, 0, (some (Jvm.ClassFile.FieldType.long))) := rfl
theorem i_51_31 : iRow 51 31 = some (.bipush 6, 0, 0, 0, (some (Jvm.ClassFile.FieldType.long))) := rfl
theorem i_51_33 : iRow 51 33 = some (.irem, 0, 0, 0, (some (Jvm.ClassFile.FieldType.long))) := rfl
theorem i_51_34 : iRow 51 34 = some (.istore 10, 0, 0, 0, (some (Jvm.ClassFile.FieldType.long))) := rfl
theorem i_51_36 : iRow 51 36 = some (.iconst 0, 0, 0, 0, (some (Jvm.ClassFile.FieldType.long))) := rfl
theorem i_51_37 : iRow 51 37 = some (.istore 11, 0, 0, 0, (some (Jvm.ClassFile.FieldType.long))) := rfl
theorem i_51_39 : iRow 51 39 = some (.iconst 0, 0, 0, 0, (some (Jvm.ClassFile.FieldType.long))) := rfl
theorem i_51_40 : iRow 51 40 = some (.istore 12, 0, 0, 0, (some (Jvm.ClassFile.FieldType.long))) := rfl
theorem i_51_172 : iRow 51 172 = some (.iinc 8 2, 0, 0, 0, (some (Jvm.ClassFile.FieldType.long))) := rfl
theorem i_51_175 : iRow 51 175 = some (.goto (-161), 0, 0, 0, (some (Jvm.ClassFile.FieldType.long))) := rfl
theorem i_51_178 : iRow 51 178 = some (.lload 6, 0, 0, 0, (some (Jvm.ClassFile.FieldType.long))) := rfl
theorem i_51_180 : iRow 51 180 = some (.lreturn, 0, 0, 0, (some (Jvm.ClassFile.FieldType.long))) := rfl
theorem i_52_0 : iRow 52 0 = some (.iload_n 0, 0, 0, 0, (some (Jvm.ClassFile.FieldType.array Jvm.ClassFile.FieldType.int))) := rfl
theorem i_52_1 : iRow 52 1 = some (.tableswitch 57 (-15) (-12) #[39, 43, 35, 31], 0, 0, 0, (some (Jvm.ClassFile.FieldType.array Jvm.ClassFile.FieldType.int))) := rfl
theorem i_52_32 : iRow 52 32 = some (.getstatic 73, 0, 0, 0, (some (Jvm.ClassFile.FieldType.array Jvm.ClassFile.FieldType.int))) := rfl
theorem i_52_35 : iRow 52 35 = some (.areturn, 0, 0, 0, (some (Jvm.ClassFile.FieldType.array Jvm.ClassFile.FieldType.int))) := rfl
theorem i_52_36 : iRow 52 36 = some (.getstatic 76, 1, 1, 0, (some (Jvm.ClassFile.FieldType.array Jvm.ClassFile.FieldType.int))) := rfl
theorem i_52_39 : iRow 52 39 = some (.areturn, 0, 0, 0, (some (Jvm.ClassFile.FieldType.array Jvm.ClassFile.FieldType.int))) := rfl
theorem i_52_40 : iRow 52 40 = some (.getstatic 79, 2, 2, 0, (some (Jvm.ClassFile.FieldType.array Jvm.ClassFile.FieldType.int))) := rfl
theorem i_52_43 : iRow 52 43 = some (.areturn, 0, 0, 0, (some (Jvm.ClassFile.FieldType.array Jvm.ClassFile.FieldType.int))) := rfl
theorem i_52_44 : iRow 52 44 = some (.iload_n 1, 0, 0, 0, (some (Jvm.ClassFile.FieldType.array Jvm.ClassFile.FieldType.int))) := rfl
theorem i_52_45 : iRow 52 45 = some (.ifCond .ne 9, 0, 0, 0, (some (Jvm.ClassFile.FieldType.array Jvm.ClassFile.FieldType.int))) := rfl
theorem i_52_48 : iRow 52 48 = some (.getstatic 82, 3, 3, 0, (some (Jvm.ClassFile.FieldType.array Jvm.ClassFile.FieldType.int))) := rfl
theorem i_52_51 : iRow 52 51 = some (.goto 6, 0, 0, 0, (some (Jvm.ClassFile.FieldType.array Jvm.ClassFile.FieldType.int))) := rfl
theorem i_52_54 : iRow 52 54 = some (.getstatic 85, 4, 4, 0, (some (Jvm.ClassFile.FieldType.array Jvm.ClassFile.FieldType.int))) := rfl
theorem i_52_57 : iRow 52 57 = some (.areturn, 0, 0, 0, (some (Jvm.ClassFile.FieldType.array Jvm.ClassFile.FieldType.int))) := rfl
theorem i_52_58 : iRow 52 58 = some (.iload_n 1, 0, 0, 0, (some (Jvm.ClassFile.FieldType.array Jvm.ClassFile.FieldType.int))) := rfl
theorem i_52_59 : iRow 52 59 = some (.ifCond .ne 9, 0, 0, 0, (some (Jvm.ClassFile.FieldType.array Jvm.ClassFile.FieldType.int))) := rfl
theorem i_52_62 : iRow 52 62 = some (.getstatic 88, 5, 5, 0, (some (Jvm.ClassFile.FieldType.array Jvm.ClassFile.FieldType.int))) := rfl
theorem i_52_65 : iRow 52 65 = some (.goto 6, 0, 0, 0, (some (Jvm.ClassFile.FieldType.array Jvm.ClassFile.FieldType.int))) := rfl
theorem i_52_68 : iRow 52 68 = some (.getstatic 91, 6, 6, 0, (some (Jvm.ClassFile.FieldType.array Jvm.ClassFile.FieldType.int))) := rfl
theorem i_52_71 : iRow 52 71 = some (.areturn, 0, 0, 0, (some (Jvm.ClassFile.FieldType.array Jvm.ClassFile.FieldType.int))) := rfl
theorem s_rb0 {O : pOut} {d kc ks : Nat} {Q : pRes → Prop} {es : PH} {sr fa fr sd : Int} (hs_es : sh es) (h1 : -16 ≤ sr ∧ sr ≤ -12) (h2 : 0 ≤ fa ∧ fa ≤ 5) (h3 : 0 ≤ fr ∧ fr ≤ 35) (h4 : 0 ≤ sd ∧ sd ≤ 1) (hT_es : hOK tT es)
    (K1 : sr = -15 → aW O (d + 1) 51 kc ks Q (14, [some (.ref 93), some (.int (zI sr)), some (.int (zI fa)), some (.int (zI fr)), some (.int (zI sd)), some (.ref 2), some (.long (Int64.ofNat 0)), none, some (.int (zI 0)), none, none, none, none], [], es))
    (K2 : ¬ (sr = -15) → sr = -14 → sd ≠ 0 → aW O (d + 1) 51 kc ks Q (14, [some (.ref 93), some (.int (zI sr)), some (.int (zI fa)), some (.int (zI fr)), some (.int (zI sd)), some (.ref 4), some (.long (Int64.ofNat 0)), none, some (.int (zI 0)), none, none, none, none], [], es))
    (K3 : ¬ (sr = -15) → sr = -14 → ¬ (sd ≠ 0) → aW O (d + 1) 51 kc ks Q (14, [some (.ref 93), some (.int (zI sr)), some (.int (zI fa)), some (.int (zI fr)), some (.int (zI sd)), some (.ref 3), some (.long (Int64.ofNat 0)), none, some (.int (zI 0)), none, none, none, none], [], es))
    (K4 : ¬ (sr = -15) → ¬ (sr = -14) → sr = -13 → aW O (d + 1) 51 kc ks Q (14, [some (.ref 93), some (.int (zI sr)), some (.int (zI fa)), some (.int (zI fr)), some (.int (zI sd)), some (.ref 1), some (.long (Int64.ofNat 0)), none, some (.int (zI 0)), none, none, none, none], [], es))
    (K5 : ¬ (sr = -15) → ¬ (sr = -14) → ¬ (sr = -13) → sr = -12 → aW O (d + 1) 51 kc ks Q (14, [some (.ref 93), some (.int (zI sr)), some (.int (zI fa)), some (.int (zI fr)), some (.int (zI sd)), some (.ref 0), some (.long (Int64.ofNat 0)), none, some (.int (zI 0)), none, none, none, none], [], es))
    (K6 : ¬ (sr = -15) → ¬ (sr = -14) → ¬ (sr = -13) → ¬ (sr = -12) → sd ≠ 0 → aW O (d + 1) 51 kc ks Q (14, [some (.ref 93), some (.int (zI sr)), some (.int (zI fa)), some (.int (zI fr)), some (.int (zI sd)), some (.ref 6), some (.long (Int64.ofNat 0)), none, some (.int (zI 0)), none, none, none, none], [], es))
    (K7 : ¬ (sr = -15) → ¬ (sr = -14) → ¬ (sr = -13) → ¬ (sr = -12) → ¬ (sd ≠ 0) → aW O (d + 1) 51 kc ks Q (14, [some (.ref 93), some (.int (zI sr)), some (.int (zI fa)), some (.int (zI fr)), some (.int (zI sd)), some (.ref 5), some (.long (Int64.ofNat 0)), none, some (.int (zI 0)), none, none, none, none], [], es)) :
    aW O (d + 1) 51 kc ks Q (0, [some (.ref 93), some (.int (zI sr)), some (.int (zI fa)), some (.int (zI fr)), some (.int (zI sd)), none, none, none, none, none, none, none, none], [], es) := by
  refine x0 (r := (1, [some (.ref 93), some (.int (zI sr)), some (.int (zI fa)), some (.int (zI fr)), some (.int (zI sd)), none, none, none, none, none, none, none, none], [.int (zI sr)], es)) i_51_0 rfl ?_
  refine x0 (r := (3, [some (.ref 93), some (.int (zI sr)), some (.int (zI fa)), some (.int (zI fr)), some (.int (zI sd)), none, none, none, none, none, none, none, none], [.int (zI sd), .int (zI sr)], es)) i_51_1 rfl ?_
  refine x_call (vs := [.int (zI sr), .int (zI sd)]) (rs := []) i_51_3 rfl (fun _ => rfl) rfl rfl rfl rfl rfl rfl ?_
  show aW _ _ _ _ _ _ (0, [some (.int (zI sr)), some (.int (zI sd))], [], es)
  refine x0 (r := (1, [some (.int (zI sr)), some (.int (zI sd))], [.int (zI sr)], es)) i_52_0 rfl ?_
  by_cases c1 : sr = -15
  · refine x_tsw (t := 40) (off := 39) i_52_1 (by unfold i32 iLO iHI; omega) (by omega) (by rw [c1]; rfl) rfl ?_
    refine x_gst i_52_40 ?_
    show aW _ _ _ _ _ _ (43, [some (.int (zI sr)), some (.int (zI sd))], [.ref 2], es)
    refine x_ret (v := some (.ref 2)) i_52_43 rfl (fun _ => rfl) rfl rfl rfl ?_
    show aW _ _ _ _ _ _ (6, [some (.ref 93), some (.int (zI sr)), some (.int (zI fa)), some (.int (zI fr)), some (.int (zI sd)), none, none, none, none, none, none, none, none], [.ref 2], es)
    refine x0 (r := (8, [some (.ref 93), some (.int (zI sr)), some (.int (zI fa)), some (.int (zI fr)), some (.int (zI sd)), some (.ref 2), none, none, none, none, none, none, none], [], es)) i_51_6 rfl ?_
    refine x0 (r := (9, [some (.ref 93), some (.int (zI sr)), some (.int (zI fa)), some (.int (zI fr)), some (.int (zI sd)), some (.ref 2), none, none, none, none, none, none, none], [.long (Int64.ofNat 0)], es)) i_51_8 rfl ?_
    refine x0 (r := (11, [some (.ref 93), some (.int (zI sr)), some (.int (zI fa)), some (.int (zI fr)), some (.int (zI sd)), some (.ref 2), some (.long (Int64.ofNat 0)), none, none, none, none, none, none], [], es)) i_51_9 rfl ?_
    refine x0 (r := (12, [some (.ref 93), some (.int (zI sr)), some (.int (zI fa)), some (.int (zI fr)), some (.int (zI sd)), some (.ref 2), some (.long (Int64.ofNat 0)), none, none, none, none, none, none], [.int (zI 0)], es)) i_51_11 (by rfl) ?_
    refine x0 (r := (14, [some (.ref 93), some (.int (zI sr)), some (.int (zI fa)), some (.int (zI fr)), some (.int (zI sd)), some (.ref 2), some (.long (Int64.ofNat 0)), none, some (.int (zI 0)), none, none, none, none], [], es)) i_51_12 rfl ?_
    exact K1 c1
  by_cases c2 : sr = -14
  · refine x_tsw (t := 44) (off := 43) i_52_1 (by unfold i32 iLO iHI; omega) (by omega) (by rw [c2]; rfl) rfl ?_
    refine x0 (r := (45, [some (.int (zI sr)), some (.int (zI sd))], [.int (zI sd)], es)) i_52_44 rfl ?_
    by_cases c3 : sd ≠ 0
    · refine x_ifT i_52_45 (by unfold i32 iLO iHI; omega) rfl (by simp only [zC, cR]; omega) ?_
      refine x_gst i_52_54 ?_
      show aW _ _ _ _ _ _ (57, [some (.int (zI sr)), some (.int (zI sd))], [.ref 4], es)
      refine x_ret (v := some (.ref 4)) i_52_57 rfl (fun _ => rfl) rfl rfl rfl ?_
      show aW _ _ _ _ _ _ (6, [some (.ref 93), some (.int (zI sr)), some (.int (zI fa)), some (.int (zI fr)), some (.int (zI sd)), none, none, none, none, none, none, none, none], [.ref 4], es)
      refine x0 (r := (8, [some (.ref 93), some (.int (zI sr)), some (.int (zI fa)), some (.int (zI fr)), some (.int (zI sd)), some (.ref 4), none, none, none, none, none, none, none], [], es)) i_51_6 rfl ?_
      refine x0 (r := (9, [some (.ref 93), some (.int (zI sr)), some (.int (zI fa)), some (.int (zI fr)), some (.int (zI sd)), some (.ref 4), none, none, none, none, none, none, none], [.long (Int64.ofNat 0)], es)) i_51_8 rfl ?_
      refine x0 (r := (11, [some (.ref 93), some (.int (zI sr)), some (.int (zI fa)), some (.int (zI fr)), some (.int (zI sd)), some (.ref 4), some (.long (Int64.ofNat 0)), none, none, none, none, none, none], [], es)) i_51_9 rfl ?_
      refine x0 (r := (12, [some (.ref 93), some (.int (zI sr)), some (.int (zI fa)), some (.int (zI fr)), some (.int (zI sd)), some (.ref 4), some (.long (Int64.ofNat 0)), none, none, none, none, none, none], [.int (zI 0)], es)) i_51_11 (by rfl) ?_
      refine x0 (r := (14, [some (.ref 93), some (.int (zI sr)), some (.int (zI fa)), some (.int (zI fr)), some (.int (zI sd)), some (.ref 4), some (.long (Int64.ofNat 0)), none, some (.int (zI 0)), none, none, none, none], [], es)) i_51_12 rfl ?_
      exact K2 c1 c2 c3
    · refine x_ifF i_52_45 (by unfold i32 iLO iHI; omega) rfl (by simp only [zC, cR]; omega) ?_
      refine x_gst i_52_48 ?_
      show aW _ _ _ _ _ _ (51, [some (.int (zI sr)), some (.int (zI sd))], [.ref 3], es)
      refine x0 (r := (57, [some (.int (zI sr)), some (.int (zI sd))], [.ref 3], es)) i_52_51 rfl ?_
      refine x_ret (v := some (.ref 3)) i_52_57 rfl (fun _ => rfl) rfl rfl rfl ?_
      show aW _ _ _ _ _ _ (6, [some (.ref 93), some (.int (zI sr)), some (.int (zI fa)), some (.int (zI fr)), some (.int (zI sd)), none, none, none, none, none, none, none, none], [.ref 3], es)
      refine x0 (r := (8, [some (.ref 93), some (.int (zI sr)), some (.int (zI fa)), some (.int (zI fr)), some (.int (zI sd)), some (.ref 3), none, none, none, none, none, none, none], [], es)) i_51_6 rfl ?_
      refine x0 (r := (9, [some (.ref 93), some (.int (zI sr)), some (.int (zI fa)), some (.int (zI fr)), some (.int (zI sd)), some (.ref 3), none, none, none, none, none, none, none], [.long (Int64.ofNat 0)], es)) i_51_8 rfl ?_
      refine x0 (r := (11, [some (.ref 93), some (.int (zI sr)), some (.int (zI fa)), some (.int (zI fr)), some (.int (zI sd)), some (.ref 3), some (.long (Int64.ofNat 0)), none, none, none, none, none, none], [], es)) i_51_9 rfl ?_
      refine x0 (r := (12, [some (.ref 93), some (.int (zI sr)), some (.int (zI fa)), some (.int (zI fr)), some (.int (zI sd)), some (.ref 3), some (.long (Int64.ofNat 0)), none, none, none, none, none, none], [.int (zI 0)], es)) i_51_11 (by rfl) ?_
      refine x0 (r := (14, [some (.ref 93), some (.int (zI sr)), some (.int (zI fa)), some (.int (zI fr)), some (.int (zI sd)), some (.ref 3), some (.long (Int64.ofNat 0)), none, some (.int (zI 0)), none, none, none, none], [], es)) i_51_12 rfl ?_
      exact K3 c1 c2 c3
  by_cases c4 : sr = -13
  · refine x_tsw (t := 36) (off := 35) i_52_1 (by unfold i32 iLO iHI; omega) (by omega) (by rw [c4]; rfl) rfl ?_
    refine x_gst i_52_36 ?_
    show aW _ _ _ _ _ _ (39, [some (.int (zI sr)), some (.int (zI sd))], [.ref 1], es)
    refine x_ret (v := some (.ref 1)) i_52_39 rfl (fun _ => rfl) rfl rfl rfl ?_
    show aW _ _ _ _ _ _ (6, [some (.ref 93), some (.int (zI sr)), some (.int (zI fa)), some (.int (zI fr)), some (.int (zI sd)), none, none, none, none, none, none, none, none], [.ref 1], es)
    refine x0 (r := (8, [some (.ref 93), some (.int (zI sr)), some (.int (zI fa)), some (.int (zI fr)), some (.int (zI sd)), some (.ref 1), none, none, none, none, none, none, none], [], es)) i_51_6 rfl ?_
    refine x0 (r := (9, [some (.ref 93), some (.int (zI sr)), some (.int (zI fa)), some (.int (zI fr)), some (.int (zI sd)), some (.ref 1), none, none, none, none, none, none, none], [.long (Int64.ofNat 0)], es)) i_51_8 rfl ?_
    refine x0 (r := (11, [some (.ref 93), some (.int (zI sr)), some (.int (zI fa)), some (.int (zI fr)), some (.int (zI sd)), some (.ref 1), some (.long (Int64.ofNat 0)), none, none, none, none, none, none], [], es)) i_51_9 rfl ?_
    refine x0 (r := (12, [some (.ref 93), some (.int (zI sr)), some (.int (zI fa)), some (.int (zI fr)), some (.int (zI sd)), some (.ref 1), some (.long (Int64.ofNat 0)), none, none, none, none, none, none], [.int (zI 0)], es)) i_51_11 (by rfl) ?_
    refine x0 (r := (14, [some (.ref 93), some (.int (zI sr)), some (.int (zI fa)), some (.int (zI fr)), some (.int (zI sd)), some (.ref 1), some (.long (Int64.ofNat 0)), none, some (.int (zI 0)), none, none, none, none], [], es)) i_51_12 rfl ?_
    exact K4 c1 c2 c4
  by_cases c5 : sr = -12
  · refine x_tsw (t := 32) (off := 31) i_52_1 (by unfold i32 iLO iHI; omega) (by omega) (by rw [c5]; rfl) rfl ?_
    refine x_gst i_52_32 ?_
    show aW _ _ _ _ _ _ (35, [some (.int (zI sr)), some (.int (zI sd))], [.ref 0], es)
    refine x_ret (v := some (.ref 0)) i_52_35 rfl (fun _ => rfl) rfl rfl rfl ?_
    show aW _ _ _ _ _ _ (6, [some (.ref 93), some (.int (zI sr)), some (.int (zI fa)), some (.int (zI fr)), some (.int (zI sd)), none, none, none, none, none, none, none, none], [.ref 0], es)
    refine x0 (r := (8, [some (.ref 93), some (.int (zI sr)), some (.int (zI fa)), some (.int (zI fr)), some (.int (zI sd)), some (.ref 0), none, none, none, none, none, none, none], [], es)) i_51_6 rfl ?_
    refine x0 (r := (9, [some (.ref 93), some (.int (zI sr)), some (.int (zI fa)), some (.int (zI fr)), some (.int (zI sd)), some (.ref 0), none, none, none, none, none, none, none], [.long (Int64.ofNat 0)], es)) i_51_8 rfl ?_
    refine x0 (r := (11, [some (.ref 93), some (.int (zI sr)), some (.int (zI fa)), some (.int (zI fr)), some (.int (zI sd)), some (.ref 0), some (.long (Int64.ofNat 0)), none, none, none, none, none, none], [], es)) i_51_9 rfl ?_
    refine x0 (r := (12, [some (.ref 93), some (.int (zI sr)), some (.int (zI fa)), some (.int (zI fr)), some (.int (zI sd)), some (.ref 0), some (.long (Int64.ofNat 0)), none, none, none, none, none, none], [.int (zI 0)], es)) i_51_11 (by rfl) ?_
    refine x0 (r := (14, [some (.ref 93), some (.int (zI sr)), some (.int (zI fa)), some (.int (zI fr)), some (.int (zI sd)), some (.ref 0), some (.long (Int64.ofNat 0)), none, some (.int (zI 0)), none, none, none, none], [], es)) i_51_12 rfl ?_
    exact K5 c1 c2 c4 c5
  refine x_tswd (t := 58) i_52_1 (by unfold i32 iLO iHI; omega) (by omega) rfl ?_
  refine x0 (r := (59, [some (.int (zI sr)), some (.int (zI sd))], [.int (zI sd)], es)) i_52_58 rfl ?_
  by_cases c6 : sd ≠ 0
  · refine x_ifT i_52_59 (by unfold i32 iLO iHI; omega) rfl (by simp only [zC, cR]; omega) ?_
    refine x_gst i_52_68 ?_
    show aW _ _ _ _ _ _ (71, [some (.int (zI sr)), some (.int (zI sd))], [.ref 6], es)
    refine x_ret (v := some (.ref 6)) i_52_71 rfl (fun _ => rfl) rfl rfl rfl ?_
    show aW _ _ _ _ _ _ (6, [some (.ref 93), some (.int (zI sr)), some (.int (zI fa)), some (.int (zI fr)), some (.int (zI sd)), none, none, none, none, none, none, none, none], [.ref 6], es)
    refine x0 (r := (8, [some (.ref 93), some (.int (zI sr)), some (.int (zI fa)), some (.int (zI fr)), some (.int (zI sd)), some (.ref 6), none, none, none, none, none, none, none], [], es)) i_51_6 rfl ?_
    refine x0 (r := (9, [some (.ref 93), some (.int (zI sr)), some (.int (zI fa)), some (.int (zI fr)), some (.int (zI sd)), some (.ref 6), none, none, none, none, none, none, none], [.long (Int64.ofNat 0)], es)) i_51_8 rfl ?_
    refine x0 (r := (11, [some (.ref 93), some (.int (zI sr)), some (.int (zI fa)), some (.int (zI fr)), some (.int (zI sd)), some (.ref 6), some (.long (Int64.ofNat 0)), none, none, none, none, none, none], [], es)) i_51_9 rfl ?_
    refine x0 (r := (12, [some (.ref 93), some (.int (zI sr)), some (.int (zI fa)), some (.int (zI fr)), some (.int (zI sd)), some (.ref 6), some (.long (Int64.ofNat 0)), none, none, none, none, none, none], [.int (zI 0)], es)) i_51_11 (by rfl) ?_
    refine x0 (r := (14, [some (.ref 93), some (.int (zI sr)), some (.int (zI fa)), some (.int (zI fr)), some (.int (zI sd)), some (.ref 6), some (.long (Int64.ofNat 0)), none, some (.int (zI 0)), none, none, none, none], [], es)) i_51_12 rfl ?_
    exact K6 c1 c2 c4 c5 c6
  · refine x_ifF i_52_59 (by unfold i32 iLO iHI; omega) rfl (by simp only [zC, cR]; omega) ?_
    refine x_gst i_52_62 ?_
    show aW _ _ _ _ _ _ (65, [some (.int (zI sr)), some (.int (zI sd))], [.ref 5], es)
    refine x0 (r := (71, [some (.int (zI sr)), some (.int (zI sd))], [.ref 5], es)) i_52_65 rfl ?_
    refine x_ret (v := some (.ref 5)) i_52_71 rfl (fun _ => rfl) rfl rfl rfl ?_
    show aW _ _ _ _ _ _ (6, [some (.ref 93), some (.int (zI sr)), some (.int (zI fa)), some (.int (zI fr)), some (.int (zI sd)), none, none, none, none, none, none, none, none], [.ref 5], es)
    refine x0 (r := (8, [some (.ref 93), some (.int (zI sr)), some (.int (zI fa)), some (.int (zI fr)), some (.int (zI sd)), some (.ref 5), none, none, none, none, none, none, none], [], es)) i_51_6 rfl ?_
    refine x0 (r := (9, [some (.ref 93), some (.int (zI sr)), some (.int (zI fa)), some (.int (zI fr)), some (.int (zI sd)), some (.ref 5), none, none, none, none, none, none, none], [.long (Int64.ofNat 0)], es)) i_51_8 rfl ?_
    refine x0 (r := (11, [some (.ref 93), some (.int (zI sr)), some (.int (zI fa)), some (.int (zI fr)), some (.int (zI sd)), some (.ref 5), some (.long (Int64.ofNat 0)), none, none, none, none, none, none], [], es)) i_51_9 rfl ?_
    refine x0 (r := (12, [some (.ref 93), some (.int (zI sr)), some (.int (zI fa)), some (.int (zI fr)), some (.int (zI sd)), some (.ref 5), some (.long (Int64.ofNat 0)), none, none, none, none, none, none], [.int (zI 0)], es)) i_51_11 (by rfl) ?_
    refine x0 (r := (14, [some (.ref 93), some (.int (zI sr)), some (.int (zI fa)), some (.int (zI fr)), some (.int (zI sd)), some (.ref 5), some (.long (Int64.ofNat 0)), none, some (.int (zI 0)), none, none, none, none], [], es)) i_51_12 rfl ?_
    exact K7 c1 c2 c4 c5 c6
theorem s_rb14 {O : pOut} {d kc ks : Nat} {Q : pRes → Prop} {es : PH} {al : Int64} {go : Nat → Int32} {sr fa fr sd i : Int} {so ln : Nat} {x9 x10 x11 x12 : Option Value} (hs_es : sh es) (ho64 : so < 64) (ho : O so = some (ln, go)) (hg : ∀ j, -2 ≤ (go j).toInt ∧ (go j).toInt ≤ 2) (h1 : -16 ≤ sr ∧ sr ≤ -12) (h2 : 0 ≤ fa ∧ fa ≤ 5) (h3 : 0 ≤ fr ∧ fr ≤ 35) (h4 : 0 ≤ sd ∧ sd ≤ 1) (h5 : 0 ≤ i ∧ i ≤ 20) (hl : (ln : Int) ≤ 16) (hT_es : hOK tT es)
    (K1 : (ln : Int) ≤ (i + 1) → Q (.inl (some (.long al)), es, kc, ks))
    (K2 : ¬ ((ln : Int) ≤ (i + 1)) → aW O d 51 kc ks Q (42, [some (.ref 93), some (.int (zI sr)), some (.int (zI fa)), some (.int (zI fr)), some (.int (zI sd)), some (.ref so), some (.long al), none, some (.int (zI i)), some (.int (zI (fr / 6))), some (.int (zI (fr % 6))), some (.int (zI 0)), some (.int (zI 0))], [], es)) :
    aW O d 51 kc ks Q (14, [some (.ref 93), some (.int (zI sr)), some (.int (zI fa)), some (.int (zI fr)), some (.int (zI sd)), some (.ref so), some (.long al), none, some (.int (zI i)), x9, x10, x11, x12], [], es) := by
  refine x0 (r := (16, [some (.ref 93), some (.int (zI sr)), some (.int (zI fa)), some (.int (zI fr)), some (.int (zI sd)), some (.ref so), some (.long al), none, some (.int (zI i)), x9, x10, x11, x12], [.int (zI i)], es)) i_51_14 rfl ?_
  refine x0 (r := (17, [some (.ref 93), some (.int (zI sr)), some (.int (zI fa)), some (.int (zI fr)), some (.int (zI sd)), some (.ref so), some (.long al), none, some (.int (zI i)), x9, x10, x11, x12], [.int (zI 1), .int (zI i)], es)) i_51_16 (by rfl) ?_
  refine x_iadd i_51_17 ?_
  refine x0 (r := (20, [some (.ref 93), some (.int (zI sr)), some (.int (zI fa)), some (.int (zI fr)), some (.int (zI sd)), some (.ref so), some (.long al), none, some (.int (zI i)), x9, x10, x11, x12], [.ref so, .int (zI (i + 1))], es)) i_51_18 rfl ?_
  refine x_olen i_51_20 ho64 ho ?_
  by_cases c1 : (ln : Int) ≤ (i + 1)
  · refine x_cmpT i_51_21 (by unfold i32 iLO iHI; omega) (by unfold i32 iLO iHI; omega) rfl (by simp only [zC, cR]; omega) ?_
    refine x0 (r := (180, [some (.ref 93), some (.int (zI sr)), some (.int (zI fa)), some (.int (zI fr)), some (.int (zI sd)), some (.ref so), some (.long al), none, some (.int (zI i)), x9, x10, x11, x12], [.long al], es)) i_51_178 rfl ?_
    refine x_ret (v := some (.long al)) i_51_180 rfl (fun _ => rfl) rfl rfl rfl ?_
    exact K1 c1
  · refine x_cmpF i_51_21 (by unfold i32 iLO iHI; omega) (by unfold i32 iLO iHI; omega) rfl (by simp only [zC, cR]; omega) ?_
    refine x0 (r := (25, [some (.ref 93), some (.int (zI sr)), some (.int (zI fa)), some (.int (zI fr)), some (.int (zI sd)), some (.ref so), some (.long al), none, some (.int (zI i)), x9, x10, x11, x12], [.int (zI fr)], es)) i_51_24 rfl ?_
    refine x0 (r := (27, [some (.ref 93), some (.int (zI sr)), some (.int (zI fa)), some (.int (zI fr)), some (.int (zI sd)), some (.ref so), some (.long al), none, some (.int (zI i)), x9, x10, x11, x12], [.int (zI 6), .int (zI fr)], es)) i_51_25 (by rfl) ?_
    refine x_idivn i_51_27 (by omega) (by unfold i32 iLO iHI; omega) (by unfold i32 iLO iHI; omega) (by omega) ?_
    refine x0 (r := (30, [some (.ref 93), some (.int (zI sr)), some (.int (zI fa)), some (.int (zI fr)), some (.int (zI sd)), some (.ref so), some (.long al), none, some (.int (zI i)), some (.int (zI (fr / 6))), x10, x11, x12], [], es)) i_51_28 rfl ?_
    refine x0 (r := (31, [some (.ref 93), some (.int (zI sr)), some (.int (zI fa)), some (.int (zI fr)), some (.int (zI sd)), some (.ref so), some (.long al), none, some (.int (zI i)), some (.int (zI (fr / 6))), x10, x11, x12], [.int (zI fr)], es)) i_51_30 rfl ?_
    refine x0 (r := (33, [some (.ref 93), some (.int (zI sr)), some (.int (zI fa)), some (.int (zI fr)), some (.int (zI sd)), some (.ref so), some (.long al), none, some (.int (zI i)), some (.int (zI (fr / 6))), x10, x11, x12], [.int (zI 6), .int (zI fr)], es)) i_51_31 (by rfl) ?_
    refine x_iremn i_51_33 (by omega) (by unfold i32 iLO iHI; omega) (by unfold i32 iLO iHI; omega) (by omega) ?_
    refine x0 (r := (36, [some (.ref 93), some (.int (zI sr)), some (.int (zI fa)), some (.int (zI fr)), some (.int (zI sd)), some (.ref so), some (.long al), none, some (.int (zI i)), some (.int (zI (fr / 6))), some (.int (zI (fr % 6))), x11, x12], [], es)) i_51_34 rfl ?_
    refine x0 (r := (37, [some (.ref 93), some (.int (zI sr)), some (.int (zI fa)), some (.int (zI fr)), some (.int (zI sd)), some (.ref so), some (.long al), none, some (.int (zI i)), some (.int (zI (fr / 6))), some (.int (zI (fr % 6))), x11, x12], [.int (zI 0)], es)) i_51_36 (by rfl) ?_
    refine x0 (r := (39, [some (.ref 93), some (.int (zI sr)), some (.int (zI fa)), some (.int (zI fr)), some (.int (zI sd)), some (.ref so), some (.long al), none, some (.int (zI i)), some (.int (zI (fr / 6))), some (.int (zI (fr % 6))), some (.int (zI 0)), x12], [], es)) i_51_37 rfl ?_
    refine x0 (r := (40, [some (.ref 93), some (.int (zI sr)), some (.int (zI fa)), some (.int (zI fr)), some (.int (zI sd)), some (.ref so), some (.long al), none, some (.int (zI i)), some (.int (zI (fr / 6))), some (.int (zI (fr % 6))), some (.int (zI 0)), x12], [.int (zI 0)], es)) i_51_39 (by rfl) ?_
    refine x0 (r := (42, [some (.ref 93), some (.int (zI sr)), some (.int (zI fa)), some (.int (zI fr)), some (.int (zI sd)), some (.ref so), some (.long al), none, some (.int (zI i)), some (.int (zI (fr / 6))), some (.int (zI (fr % 6))), some (.int (zI 0)), some (.int (zI 0))], [], es)) i_51_40 rfl ?_
    exact K2 c1
theorem s_rb172 {O : pOut} {d kc ks : Nat} {Q : pRes → Prop} {es : PH} {al : Int64} {sr fa fr sd i : Int} {so : Nat} {x9 x10 x11 x12 : Option Value} (hs_es : sh es) (hT_es : hOK tT es)
    (K1 : aW O d 51 kc ks Q (14, [some (.ref 93), some (.int (zI sr)), some (.int (zI fa)), some (.int (zI fr)), some (.int (zI sd)), some (.ref so), some (.long al), none, some (.int (zI (i + 2))), x9, x10, x11, x12], [], es)) :
    aW O d 51 kc ks Q (172, [some (.ref 93), some (.int (zI sr)), some (.int (zI fa)), some (.int (zI fr)), some (.int (zI sd)), some (.ref so), some (.long al), none, some (.int (zI i)), x9, x10, x11, x12], [], es) := by
  refine x_iinc (x := i) i_51_172 rfl (by show 8 < 13; decide) ?_
  show aW _ _ _ _ _ _ (175, [some (.ref 93), some (.int (zI sr)), some (.int (zI fa)), some (.int (zI fr)), some (.int (zI sd)), some (.ref so), some (.long al), none, some (.int (zI (i + 2))), x9, x10, x11, x12], [], es)
  refine x0 (r := (14, [some (.ref 93), some (.int (zI sr)), some (.int (zI fa)), some (.int (zI fr)), some (.int (zI sd)), some (.ref so), some (.long al), none, some (.int (zI (i + 2))), x9, x10, x11, x12], [], es)) i_51_175 rfl ?_
  exact K1
theorem s_ro0 {O : pOut} {d kc ks : Nat} {Q : pRes → Prop} {es : PH} {fr sd : Int} (hs_es : sh es) (h3 : 0 ≤ fr ∧ fr ≤ 35) (h4 : 0 ≤ sd ∧ sd ≤ 1) (hm : 0 ≤ (gA es 30 fr.toNat).toInt ∧ (gA es 30 fr.toNat).toInt ≤ 10) (hT_es : hOK tT es)
    (K1 : ∀ v1 : Int, atP 30 fr es v1 → v1 ≤ 0 → Q (.inl (some (.long (Int64.ofNat 0))), es, kc, ks))
    (K2 : ∀ v1 : Int, atP 30 fr es v1 → ¬ (v1 ≤ 0) → ∀ v3 : Int, v3 = (zI (v1 - 1) &&& zI 1).toInt → v3 ≠ sd → Q (.inl (some (.long (Int64.ofNat 0))), es, kc, ks))
    (K3 : ∀ v1 : Int, atP 30 fr es v1 → ¬ (v1 ≤ 0) → ∀ v3 : Int, v3 = (zI (v1 - 1) &&& zI 1).toInt → ¬ (v3 ≠ sd) → ∀ v5 : Int, v5 = (zI (v1 - 1) >>> (zI 1 &&& 31)).toInt → aW O (d + 1) 47 kc ks Q (32, [some (.ref 93), some (.int (zI fr)), some (.int (zI sd)), some (.int (zI v1)), some (.long (Int64.ofNat 0)), none, some (.int (zI v5)), some (.int (zI 0))], [], es)) :
    aW O (d + 1) 47 kc ks Q (0, [some (.ref 93), some (.int (zI fr)), some (.int (zI sd)), none, none, none, none, none], [], es) := by
  refine x0 (r := (1, [some (.ref 93), some (.int (zI fr)), some (.int (zI sd)), none, none, none, none, none], [.ref 93], es)) i_47_0 rfl ?_
  refine x_getr (p := 29) (k := 94) i_47_1 hs_es rfl rfl ?_
  show aW _ _ _ _ _ _ (4, [some (.ref 93), some (.int (zI fr)), some (.int (zI sd)), none, none, none, none, none], [.ref 94], es)
  refine x0 (r := (5, [some (.ref 93), some (.int (zI fr)), some (.int (zI sd)), none, none, none, none, none], [.int (zI fr), .ref 94], es)) i_47_4 rfl ?_
  refine x_call (vs := [.ref 94, .int (zI fr)]) (rs := []) i_47_5 rfl (fun _ => rfl) rfl rfl rfl rfl rfl rfl ?_
  show aW _ _ _ _ _ _ (0, [some (.ref 94), some (.int (zI fr))], [], es)
  refine at_sp (p := 30) rfl hs_es (by omega) (by omega) (by decide) (fun v1 p_v1 => ?_)
  have r_v1 := atP_is p_v1
  show aW _ _ _ _ _ _ (8, [some (.ref 93), some (.int (zI fr)), some (.int (zI sd)), none, none, none, none, none], [.int (zI v1)], es)
  refine x0 (r := (9, [some (.ref 93), some (.int (zI fr)), some (.int (zI sd)), some (.int (zI v1)), none, none, none, none], [], es)) i_47_8 rfl ?_
  refine x0 (r := (10, [some (.ref 93), some (.int (zI fr)), some (.int (zI sd)), some (.int (zI v1)), none, none, none, none], [.long (Int64.ofNat 0)], es)) i_47_9 rfl ?_
  refine x0 (r := (12, [some (.ref 93), some (.int (zI fr)), some (.int (zI sd)), some (.int (zI v1)), some (.long (Int64.ofNat 0)), none, none, none], [], es)) i_47_10 rfl ?_
  refine x0 (r := (13, [some (.ref 93), some (.int (zI fr)), some (.int (zI sd)), some (.int (zI v1)), some (.long (Int64.ofNat 0)), none, none, none], [.int (zI v1)], es)) i_47_12 rfl ?_
  refine x0 (r := (14, [some (.ref 93), some (.int (zI fr)), some (.int (zI sd)), some (.int (zI v1)), some (.long (Int64.ofNat 0)), none, none, none], [.int (zI sd), .int (zI v1)], es)) i_47_13 rfl ?_
  refine x_call (vs := [.int (zI v1), .int (zI sd)]) (rs := []) i_47_14 rfl (fun _ => rfl) rfl rfl rfl rfl rfl rfl ?_
  show aW _ _ _ _ _ _ (0, [some (.int (zI v1)), some (.int (zI sd))], [], es)
  refine x0 (r := (1, [some (.int (zI v1)), some (.int (zI sd))], [.int (zI v1)], es)) i_48_0 rfl ?_
  by_cases c2 : v1 ≤ 0
  · refine x_ifT i_48_1 (by unfold i32 iLO iHI; omega) rfl (by simp only [zC, cR]; omega) ?_
    refine x0 (r := (18, [some (.int (zI v1)), some (.int (zI sd))], [.int (zI 0)], es)) i_48_17 (by rfl) ?_
    refine x_ret (v := some (.int (zI 0))) i_48_18 rfl (fun _ => rfl) rfl rfl (pFin_b (by omega)) ?_
    show aW _ _ _ _ _ _ (17, [some (.ref 93), some (.int (zI fr)), some (.int (zI sd)), some (.int (zI v1)), some (.long (Int64.ofNat 0)), none, none, none], [.int (zI 0)], es)
    refine x_ifF i_47_17 (by unfold i32 iLO iHI; omega) rfl (by simp only [zC, cR]; omega) ?_
    refine x0 (r := (22, [some (.ref 93), some (.int (zI fr)), some (.int (zI sd)), some (.int (zI v1)), some (.long (Int64.ofNat 0)), none, none, none], [.long (Int64.ofNat 0)], es)) i_47_20 rfl ?_
    refine x_ret (v := some (.long (Int64.ofNat 0))) i_47_22 rfl (fun _ => rfl) rfl rfl rfl ?_
    exact K1 v1 p_v1 c2
  · refine x_ifF i_48_1 (by unfold i32 iLO iHI; omega) rfl (by simp only [zC, cR]; omega) ?_
    refine x0 (r := (5, [some (.int (zI v1)), some (.int (zI sd))], [.int (zI v1)], es)) i_48_4 rfl ?_
    refine x0 (r := (6, [some (.int (zI v1)), some (.int (zI sd))], [.int (zI 1), .int (zI v1)], es)) i_48_5 (by rfl) ?_
    refine x_isub i_48_6 ?_
    refine x0 (r := (8, [some (.int (zI v1)), some (.int (zI sd))], [.int (zI 1), .int (zI (v1 - 1))], es)) i_48_7 (by rfl) ?_
    refine x_op i_48_8 (w := (zI (v1 - 1) &&& zI 1)) rfl rfl ?_
    obtain ⟨v3, e_v3⟩ : ∃ z : Int, z = (zI (v1 - 1) &&& zI 1).toInt := ⟨_, rfl⟩
    rw [← e_v3]
    have r_v3 : iLO ≤ v3 ∧ v3 ≤ iHI := by rw [e_v3]; exact i32_rng _
    unfold iLO iHI at r_v3
    refine x0 (r := (10, [some (.int (zI v1)), some (.int (zI sd))], [.int (zI sd), .int (zI v3)], es)) i_48_9 rfl ?_
    by_cases c4 : v3 ≠ sd
    · refine x_cmpT i_48_10 (by unfold i32 iLO iHI; omega) (by unfold i32 iLO iHI; omega) rfl (by simp only [zC, cR]; omega) ?_
      refine x0 (r := (18, [some (.int (zI v1)), some (.int (zI sd))], [.int (zI 0)], es)) i_48_17 (by rfl) ?_
      refine x_ret (v := some (.int (zI 0))) i_48_18 rfl (fun _ => rfl) rfl rfl (pFin_b (by omega)) ?_
      show aW _ _ _ _ _ _ (17, [some (.ref 93), some (.int (zI fr)), some (.int (zI sd)), some (.int (zI v1)), some (.long (Int64.ofNat 0)), none, none, none], [.int (zI 0)], es)
      refine x_ifF i_47_17 (by unfold i32 iLO iHI; omega) rfl (by simp only [zC, cR]; omega) ?_
      refine x0 (r := (22, [some (.ref 93), some (.int (zI fr)), some (.int (zI sd)), some (.int (zI v1)), some (.long (Int64.ofNat 0)), none, none, none], [.long (Int64.ofNat 0)], es)) i_47_20 rfl ?_
      refine x_ret (v := some (.long (Int64.ofNat 0))) i_47_22 rfl (fun _ => rfl) rfl rfl rfl ?_
      exact K2 v1 p_v1 c2 v3 e_v3 c4
    · refine x_cmpF i_48_10 (by unfold i32 iLO iHI; omega) (by unfold i32 iLO iHI; omega) rfl (by simp only [zC, cR]; omega) ?_
      refine x0 (r := (14, [some (.int (zI v1)), some (.int (zI sd))], [.int (zI 1)], es)) i_48_13 (by rfl) ?_
      refine x0 (r := (18, [some (.int (zI v1)), some (.int (zI sd))], [.int (zI 1)], es)) i_48_14 rfl ?_
      refine x_ret (v := some (.int (zI 1))) i_48_18 rfl (fun _ => rfl) rfl rfl (pFin_b (by omega)) ?_
      show aW _ _ _ _ _ _ (17, [some (.ref 93), some (.int (zI fr)), some (.int (zI sd)), some (.int (zI v1)), some (.long (Int64.ofNat 0)), none, none, none], [.int (zI 1)], es)
      refine x_ifT i_47_17 (by unfold i32 iLO iHI; omega) rfl (by simp only [zC, cR]; omega) ?_
      refine x0 (r := (24, [some (.ref 93), some (.int (zI fr)), some (.int (zI sd)), some (.int (zI v1)), some (.long (Int64.ofNat 0)), none, none, none], [.int (zI v1)], es)) i_47_23 rfl ?_
      refine x_call (vs := [.int (zI v1)]) (rs := []) i_47_24 rfl (fun _ => rfl) rfl rfl rfl rfl rfl rfl ?_
      show aW _ _ _ _ _ _ (0, [some (.int (zI v1))], [], es)
      refine x0 (r := (1, [some (.int (zI v1))], [.int (zI v1)], es)) i_49_0 rfl ?_
      refine x0 (r := (2, [some (.int (zI v1))], [.int (zI 1), .int (zI v1)], es)) i_49_1 (by rfl) ?_
      refine x_isub i_49_2 ?_
      refine x0 (r := (4, [some (.int (zI v1))], [.int (zI 1), .int (zI (v1 - 1))], es)) i_49_3 (by rfl) ?_
      refine x_op i_49_4 (w := (zI (v1 - 1) >>> (zI 1 &&& 31))) rfl rfl ?_
      obtain ⟨v5, e_v5⟩ : ∃ z : Int, z = (zI (v1 - 1) >>> (zI 1 &&& 31)).toInt := ⟨_, rfl⟩
      rw [← e_v5]
      have r_v5 : iLO ≤ v5 ∧ v5 ≤ iHI := by rw [e_v5]; exact i32_rng _
      unfold iLO iHI at r_v5
      refine x_ret (v := some (.int (zI v5))) i_49_5 rfl (fun _ => rfl) rfl rfl rfl ?_
      show aW _ _ _ _ _ _ (27, [some (.ref 93), some (.int (zI fr)), some (.int (zI sd)), some (.int (zI v1)), some (.long (Int64.ofNat 0)), none, none, none], [.int (zI v5)], es)
      refine x0 (r := (29, [some (.ref 93), some (.int (zI fr)), some (.int (zI sd)), some (.int (zI v1)), some (.long (Int64.ofNat 0)), none, some (.int (zI v5)), none], [], es)) i_47_27 rfl ?_
      refine x0 (r := (30, [some (.ref 93), some (.int (zI fr)), some (.int (zI sd)), some (.int (zI v1)), some (.long (Int64.ofNat 0)), none, some (.int (zI v5)), none], [.int (zI 0)], es)) i_47_29 (by rfl) ?_
      refine x0 (r := (32, [some (.ref 93), some (.int (zI fr)), some (.int (zI sd)), some (.int (zI v1)), some (.long (Int64.ofNat 0)), none, some (.int (zI v5)), some (.int (zI 0))], [], es)) i_47_30 rfl ?_
      exact K3 v1 p_v1 c2 v3 e_v3 c4 v5 e_v5
theorem s_ro32 {O : pOut} {d kc ks : Nat} {Q : pRes → Prop} {es : PH} {al : Int64} {fr sd mn kd n : Int} (hs_es : sh es) (h3 : 0 ≤ fr ∧ fr ≤ 35) (h4 : 0 ≤ sd ∧ sd ≤ 1) (h5 : 0 ≤ kd ∧ kd ≤ 4) (h6 : 0 ≤ n ∧ n ≤ 6) (hc : (gA es 9 kd.toNat).toInt ≤ 6) (hT_es : hOK tT es)
    (K1 : ∀ v1 : Int, atP 9 kd es v1 → v1 ≤ n → Q (.inl (some (.long al)), es, kc, ks))
    (K2 : ∀ v1 : Int, atP 9 kd es v1 → ¬ (v1 ≤ n) → ∀ v3 : Int, atP 10 ((((kd * 6) + n) * 2) + 0) es v3 → ∀ v4 : Int, atP 10 ((((kd * 6) + n) * 2) + 1) es v4 → aW O (d + 2) 47 kc ks Q (78, [some (.ref 93), some (.int (zI fr)), some (.int (zI sd)), some (.int (zI mn)), some (.long al), none, some (.int (zI kd)), some (.int (zI n))], [.int (zI sd), .int (zI fr), .int (zI v4), .int (zI v3), .ref 93, .long al], es)) :
    aW O (d + 2) 47 kc ks Q (32, [some (.ref 93), some (.int (zI fr)), some (.int (zI sd)), some (.int (zI mn)), some (.long al), none, some (.int (zI kd)), some (.int (zI n))], [], es) := by
  refine x0 (r := (34, [some (.ref 93), some (.int (zI fr)), some (.int (zI sd)), some (.int (zI mn)), some (.long al), none, some (.int (zI kd)), some (.int (zI n))], [.int (zI n)], es)) i_47_32 rfl ?_
  refine x0 (r := (35, [some (.ref 93), some (.int (zI fr)), some (.int (zI sd)), some (.int (zI mn)), some (.long al), none, some (.int (zI kd)), some (.int (zI n))], [.ref 93, .int (zI n)], es)) i_47_34 rfl ?_
  refine x_getr (p := 29) (k := 71) i_47_35 hs_es rfl rfl ?_
  show aW _ _ _ _ _ _ (38, [some (.ref 93), some (.int (zI fr)), some (.int (zI sd)), some (.int (zI mn)), some (.long al), none, some (.int (zI kd)), some (.int (zI n))], [.ref 71, .int (zI n)], es)
  refine x_getr (p := 7) (k := 73) i_47_38 hs_es rfl rfl ?_
  show aW _ _ _ _ _ _ (41, [some (.ref 93), some (.int (zI fr)), some (.int (zI sd)), some (.int (zI mn)), some (.long al), none, some (.int (zI kd)), some (.int (zI n))], [.ref 73, .int (zI n)], es)
  refine x0 (r := (43, [some (.ref 93), some (.int (zI fr)), some (.int (zI sd)), some (.int (zI mn)), some (.long al), none, some (.int (zI kd)), some (.int (zI n))], [.int (zI kd), .ref 73, .int (zI n)], es)) i_47_41 rfl ?_
  refine x_call (vs := [.ref 73, .int (zI kd)]) (rs := [.int (zI n)]) i_47_43 rfl (fun _ => rfl) rfl rfl rfl rfl rfl rfl ?_
  show aW _ _ _ _ _ _ (0, [some (.ref 73), some (.int (zI kd))], [], es)
  refine at_sp (p := 9) rfl hs_es (by omega) (by omega) (by decide) (fun v1 p_v1 => ?_)
  have r_v1 := atP_is p_v1
  show aW _ _ _ _ _ _ (46, [some (.ref 93), some (.int (zI fr)), some (.int (zI sd)), some (.int (zI mn)), some (.long al), none, some (.int (zI kd)), some (.int (zI n))], [.int (zI v1), .int (zI n)], es)
  by_cases c2 : v1 ≤ n
  · refine x_cmpT i_47_46 (by unfold i32 iLO iHI; omega) (by unfold i32 iLO iHI; omega) rfl (by simp only [zC, cR]; omega) ?_
    refine x0 (r := (92, [some (.ref 93), some (.int (zI fr)), some (.int (zI sd)), some (.int (zI mn)), some (.long al), none, some (.int (zI kd)), some (.int (zI n))], [.long al], es)) i_47_90 rfl ?_
    refine x_ret (v := some (.long al)) i_47_92 rfl (fun _ => rfl) rfl rfl rfl ?_
    exact K1 v1 p_v1 c2
  · refine x_cmpF i_47_46 (by unfold i32 iLO iHI; omega) (by unfold i32 iLO iHI; omega) rfl (by simp only [zC, cR]; omega) ?_
    refine x0 (r := (51, [some (.ref 93), some (.int (zI fr)), some (.int (zI sd)), some (.int (zI mn)), some (.long al), none, some (.int (zI kd)), some (.int (zI n))], [.long al], es)) i_47_49 rfl ?_
    refine x0 (r := (52, [some (.ref 93), some (.int (zI fr)), some (.int (zI sd)), some (.int (zI mn)), some (.long al), none, some (.int (zI kd)), some (.int (zI n))], [.ref 93, .long al], es)) i_47_51 rfl ?_
    refine x0 (r := (53, [some (.ref 93), some (.int (zI fr)), some (.int (zI sd)), some (.int (zI mn)), some (.long al), none, some (.int (zI kd)), some (.int (zI n))], [.ref 93, .ref 93, .long al], es)) i_47_52 rfl ?_
    refine x_getr (p := 29) (k := 71) i_47_53 hs_es rfl rfl ?_
    show aW _ _ _ _ _ _ (56, [some (.ref 93), some (.int (zI fr)), some (.int (zI sd)), some (.int (zI mn)), some (.long al), none, some (.int (zI kd)), some (.int (zI n))], [.ref 71, .ref 93, .long al], es)
    refine x0 (r := (58, [some (.ref 93), some (.int (zI fr)), some (.int (zI sd)), some (.int (zI mn)), some (.long al), none, some (.int (zI kd)), some (.int (zI n))], [.int (zI kd), .ref 71, .ref 93, .long al], es)) i_47_56 rfl ?_
    refine x0 (r := (60, [some (.ref 93), some (.int (zI fr)), some (.int (zI sd)), some (.int (zI mn)), some (.long al), none, some (.int (zI kd)), some (.int (zI n))], [.int (zI n), .int (zI kd), .ref 71, .ref 93, .long al], es)) i_47_58 rfl ?_
    refine x0 (r := (61, [some (.ref 93), some (.int (zI fr)), some (.int (zI sd)), some (.int (zI mn)), some (.long al), none, some (.int (zI kd)), some (.int (zI n))], [.int (zI 0), .int (zI n), .int (zI kd), .ref 71, .ref 93, .long al], es)) i_47_60 (by rfl) ?_
    refine x_call (vs := [.ref 71, .int (zI kd), .int (zI n), .int (zI 0)]) (rs := [.ref 93, .long al]) i_47_61 rfl (fun _ => rfl) rfl rfl rfl rfl rfl (pCall_v (p := 7) hs_es rfl rfl rfl rfl rfl (by decide) rfl rfl rfl rfl rfl) ?_
    show aW _ _ _ _ _ _ (0, [some (.ref 71), some (.int (zI kd)), some (.int (zI n)), some (.int (zI 0))], [], es)
    refine x0 (r := (1, [some (.ref 71), some (.int (zI kd)), some (.int (zI n)), some (.int (zI 0))], [.ref 71], es)) i_50_0 rfl ?_
    refine x_getr (p := 7) (k := 74) i_50_1 hs_es rfl rfl ?_
    show aW _ _ _ _ _ _ (4, [some (.ref 71), some (.int (zI kd)), some (.int (zI n)), some (.int (zI 0))], [.ref 74], es)
    refine x0 (r := (5, [some (.ref 71), some (.int (zI kd)), some (.int (zI n)), some (.int (zI 0))], [.int (zI kd), .ref 74], es)) i_50_4 rfl ?_
    refine x0 (r := (7, [some (.ref 71), some (.int (zI kd)), some (.int (zI n)), some (.int (zI 0))], [.int (zI 6), .int (zI kd), .ref 74], es)) i_50_5 (by rfl) ?_
    refine x_imul i_50_7 ?_
    refine x0 (r := (9, [some (.ref 71), some (.int (zI kd)), some (.int (zI n)), some (.int (zI 0))], [.int (zI n), .int (zI (kd * 6)), .ref 74], es)) i_50_8 rfl ?_
    refine x_iadd i_50_9 ?_
    refine x0 (r := (11, [some (.ref 71), some (.int (zI kd)), some (.int (zI n)), some (.int (zI 0))], [.int (zI 2), .int (zI ((kd * 6) + n)), .ref 74], es)) i_50_10 (by rfl) ?_
    refine x_imul i_50_11 ?_
    refine x0 (r := (13, [some (.ref 71), some (.int (zI kd)), some (.int (zI n)), some (.int (zI 0))], [.int (zI 0), .int (zI (((kd * 6) + n) * 2)), .ref 74], es)) i_50_12 rfl ?_
    refine x_iadd i_50_13 ?_
    refine x_call (vs := [.ref 74, .int (zI ((((kd * 6) + n) * 2) + 0))]) (rs := []) i_50_14 rfl (fun _ => rfl) rfl rfl rfl rfl rfl rfl ?_
    show aW _ _ _ _ _ _ (0, [some (.ref 74), some (.int (zI ((((kd * 6) + n) * 2) + 0)))], [], es)
    refine at_sp (p := 10) rfl hs_es (by omega) (by omega) (by decide) (fun v3 p_v3 => ?_)
    have r_v3 := atP_is p_v3
    show aW _ _ _ _ _ _ (17, [some (.ref 71), some (.int (zI kd)), some (.int (zI n)), some (.int (zI 0))], [.int (zI v3)], es)
    refine x_ret (v := some (.int (zI v3))) i_50_17 rfl (fun _ => rfl) rfl rfl rfl ?_
    show aW _ _ _ _ _ _ (64, [some (.ref 93), some (.int (zI fr)), some (.int (zI sd)), some (.int (zI mn)), some (.long al), none, some (.int (zI kd)), some (.int (zI n))], [.int (zI v3), .ref 93, .long al], es)
    refine x0 (r := (65, [some (.ref 93), some (.int (zI fr)), some (.int (zI sd)), some (.int (zI mn)), some (.long al), none, some (.int (zI kd)), some (.int (zI n))], [.ref 93, .int (zI v3), .ref 93, .long al], es)) i_47_64 rfl ?_
    refine x_getr (p := 29) (k := 71) i_47_65 hs_es rfl rfl ?_
    show aW _ _ _ _ _ _ (68, [some (.ref 93), some (.int (zI fr)), some (.int (zI sd)), some (.int (zI mn)), some (.long al), none, some (.int (zI kd)), some (.int (zI n))], [.ref 71, .int (zI v3), .ref 93, .long al], es)
    refine x0 (r := (70, [some (.ref 93), some (.int (zI fr)), some (.int (zI sd)), some (.int (zI mn)), some (.long al), none, some (.int (zI kd)), some (.int (zI n))], [.int (zI kd), .ref 71, .int (zI v3), .ref 93, .long al], es)) i_47_68 rfl ?_
    refine x0 (r := (72, [some (.ref 93), some (.int (zI fr)), some (.int (zI sd)), some (.int (zI mn)), some (.long al), none, some (.int (zI kd)), some (.int (zI n))], [.int (zI n), .int (zI kd), .ref 71, .int (zI v3), .ref 93, .long al], es)) i_47_70 rfl ?_
    refine x0 (r := (73, [some (.ref 93), some (.int (zI fr)), some (.int (zI sd)), some (.int (zI mn)), some (.long al), none, some (.int (zI kd)), some (.int (zI n))], [.int (zI 1), .int (zI n), .int (zI kd), .ref 71, .int (zI v3), .ref 93, .long al], es)) i_47_72 (by rfl) ?_
    refine x_call (vs := [.ref 71, .int (zI kd), .int (zI n), .int (zI 1)]) (rs := [.int (zI v3), .ref 93, .long al]) i_47_73 rfl (fun _ => rfl) rfl rfl rfl rfl rfl (pCall_v (p := 7) hs_es rfl rfl rfl rfl rfl (by decide) rfl rfl rfl rfl rfl) ?_
    show aW _ _ _ _ _ _ (0, [some (.ref 71), some (.int (zI kd)), some (.int (zI n)), some (.int (zI 1))], [], es)
    refine x0 (r := (1, [some (.ref 71), some (.int (zI kd)), some (.int (zI n)), some (.int (zI 1))], [.ref 71], es)) i_50_0 rfl ?_
    refine x_getr (p := 7) (k := 74) i_50_1 hs_es rfl rfl ?_
    show aW _ _ _ _ _ _ (4, [some (.ref 71), some (.int (zI kd)), some (.int (zI n)), some (.int (zI 1))], [.ref 74], es)
    refine x0 (r := (5, [some (.ref 71), some (.int (zI kd)), some (.int (zI n)), some (.int (zI 1))], [.int (zI kd), .ref 74], es)) i_50_4 rfl ?_
    refine x0 (r := (7, [some (.ref 71), some (.int (zI kd)), some (.int (zI n)), some (.int (zI 1))], [.int (zI 6), .int (zI kd), .ref 74], es)) i_50_5 (by rfl) ?_
    refine x_imul i_50_7 ?_
    refine x0 (r := (9, [some (.ref 71), some (.int (zI kd)), some (.int (zI n)), some (.int (zI 1))], [.int (zI n), .int (zI (kd * 6)), .ref 74], es)) i_50_8 rfl ?_
    refine x_iadd i_50_9 ?_
    refine x0 (r := (11, [some (.ref 71), some (.int (zI kd)), some (.int (zI n)), some (.int (zI 1))], [.int (zI 2), .int (zI ((kd * 6) + n)), .ref 74], es)) i_50_10 (by rfl) ?_
    refine x_imul i_50_11 ?_
    refine x0 (r := (13, [some (.ref 71), some (.int (zI kd)), some (.int (zI n)), some (.int (zI 1))], [.int (zI 1), .int (zI (((kd * 6) + n) * 2)), .ref 74], es)) i_50_12 rfl ?_
    refine x_iadd i_50_13 ?_
    refine x_call (vs := [.ref 74, .int (zI ((((kd * 6) + n) * 2) + 1))]) (rs := []) i_50_14 rfl (fun _ => rfl) rfl rfl rfl rfl rfl rfl ?_
    show aW _ _ _ _ _ _ (0, [some (.ref 74), some (.int (zI ((((kd * 6) + n) * 2) + 1)))], [], es)
    refine at_sp (p := 10) rfl hs_es (by omega) (by omega) (by decide) (fun v4 p_v4 => ?_)
    have r_v4 := atP_is p_v4
    show aW _ _ _ _ _ _ (17, [some (.ref 71), some (.int (zI kd)), some (.int (zI n)), some (.int (zI 1))], [.int (zI v4)], es)
    refine x_ret (v := some (.int (zI v4))) i_50_17 rfl (fun _ => rfl) rfl rfl rfl ?_
    show aW _ _ _ _ _ _ (76, [some (.ref 93), some (.int (zI fr)), some (.int (zI sd)), some (.int (zI mn)), some (.long al), none, some (.int (zI kd)), some (.int (zI n))], [.int (zI v4), .int (zI v3), .ref 93, .long al], es)
    refine x0 (r := (77, [some (.ref 93), some (.int (zI fr)), some (.int (zI sd)), some (.int (zI mn)), some (.long al), none, some (.int (zI kd)), some (.int (zI n))], [.int (zI fr), .int (zI v4), .int (zI v3), .ref 93, .long al], es)) i_47_76 rfl ?_
    refine x0 (r := (78, [some (.ref 93), some (.int (zI fr)), some (.int (zI sd)), some (.int (zI mn)), some (.long al), none, some (.int (zI kd)), some (.int (zI n))], [.int (zI sd), .int (zI fr), .int (zI v4), .int (zI v3), .ref 93, .long al], es)) i_47_77 rfl ?_
    exact K2 v1 p_v1 c2 v3 p_v3 v4 p_v4
theorem s_ro81 {O : pOut} {d kc ks : Nat} {Q : pRes → Prop} {es : PH} {al re : Int64} {fr sd mn kd n : Int} (hs_es : sh es) (h3 : 0 ≤ fr ∧ fr ≤ 35) (h4 : 0 ≤ sd ∧ sd ≤ 1) (h6 : 0 ≤ n ∧ n ≤ 6) (hT_es : hOK tT es)
    (K1 : ∀ w1 : Int64, w1 = al ||| re → aW O d 47 kc ks Q (32, [some (.ref 93), some (.int (zI fr)), some (.int (zI sd)), some (.int (zI mn)), some (.long w1), none, some (.int (zI kd)), some (.int (zI (n + 1)))], [], es)) :
    aW O d 47 kc ks Q (81, [some (.ref 93), some (.int (zI fr)), some (.int (zI sd)), some (.int (zI mn)), some (.long al), none, some (.int (zI kd)), some (.int (zI n))], [.long re, .long al], es) := by
  refine x0 (r := (82, [some (.ref 93), some (.int (zI fr)), some (.int (zI sd)), some (.int (zI mn)), some (.long al), none, some (.int (zI kd)), some (.int (zI n))], [.long (al ||| re)], es)) i_47_81 rfl ?_
  obtain ⟨w1, e_w1⟩ : ∃ z : Int64, z = al ||| re := ⟨_, rfl⟩
  rw [← e_w1]
  refine x0 (r := (84, [some (.ref 93), some (.int (zI fr)), some (.int (zI sd)), some (.int (zI mn)), some (.long w1), none, some (.int (zI kd)), some (.int (zI n))], [], es)) i_47_82 rfl ?_
  refine x_iinc (x := n) i_47_84 rfl (by show 7 < 8; decide) ?_
  show aW _ _ _ _ _ _ (87, [some (.ref 93), some (.int (zI fr)), some (.int (zI sd)), some (.int (zI mn)), some (.long w1), none, some (.int (zI kd)), some (.int (zI (n + 1)))], [], es)
  refine x0 (r := (32, [some (.ref 93), some (.int (zI fr)), some (.int (zI sd)), some (.int (zI mn)), some (.long w1), none, some (.int (zI kd)), some (.int (zI (n + 1)))], [], es)) i_47_87 rfl ?_
  exact K1 w1 e_w1
/-! the class: all rays of a LINE, all LINES of a man -/
def zAny (B : Nat → Int) (md : Nat) (sd : Int) (go : Nat → Int32) (far s : Nat) : Nat → Nat → Nat → Bool
  | 0, _, _ => false
  | m + 1, i, t => zRay B md sd (go (i + 1)).toInt (go i).toInt far s t || zAny B md sd go far s m (i + 2) t
theorem zAny_s {B : Nat → Int} {md : Nat} {sd : Int} {go : Nat → Int32} {far s m i t : Nat} : zAny B md sd go far s (m + 1) i t = (zRay B md sd (go (i + 1)).toInt (go i).toInt far s t || zAny B md sd go far s m (i + 2) t) := rfl
/-- the rows of steps -/
def stpR (k : Nat) : Nat → Int32 := fun j => (pSteps.getD k []).getD j 0
theorem stp_at {xs : Nat → Int32} {n k : Nat} (hk : k < 7) : pO0 xs n k = some ((pSteps.getD k []).length, stpR k) := by
  match k, hk with
  | 0, _ => rfl
  | 1, _ => rfl
  | 2, _ => rfl
  | 3, _ => rfl
  | 4, _ => rfl
  | 5, _ => rfl
  | 6, _ => rfl
  | k + 7, h => omega
theorem stp_bd0 : ∀ k, k < 7 → ∀ x ∈ pSteps.getD k [], -2 ≤ x.toInt ∧ x.toInt ≤ 2 := by decide
theorem stp_bd {k : Nat} (hk : k < 7) (j : Nat) : -2 ≤ (stpR k j).toInt ∧ (stpR k j).toInt ≤ 2 := by
  unfold stpR
  rw [List.getD_eq_getElem?_getD (l := pSteps.getD k [])]
  cases hg : (pSteps.getD k [])[j]? with
  | none => exact ⟨by show (-2 : Int) ≤ (0 : Int32).toInt; decide, by show (0 : Int32).toInt ≤ 2; decide⟩
  | some x => exact stp_bd0 k hk x (List.mem_of_getElem? hg)
section
variable {B : Nat → Int} {sd : Int} {far s t : Nat}
theorem zLn_12 : zAny B (zMode (-12 - (-12))) sd (stpR 0) far s 4 0 t = zLn B sd (-12 - (-12)) far s t := rfl
theorem zLn_13 : zAny B (zMode (-12 - (-13))) sd (stpR 1) far s 4 0 t = zLn B sd (-12 - (-13)) far s t := rfl
theorem zLn_15 : zAny B (zMode (-12 - (-15))) sd (stpR 2) far s 8 0 t = zLn B sd (-12 - (-15)) far s t := rfl
theorem zLn_14a : zAny B (zMode (-12 - (-14))) 0 (stpR 3) far s 1 0 t = zLn B 0 (-12 - (-14)) far s t := rfl
theorem zLn_14b : zAny B (zMode (-12 - (-14))) 1 (stpR 4) far s 1 0 t = zLn B 1 (-12 - (-14)) far s t := rfl
theorem zLn_16a : zAny B (zMode (-12 - (-16))) 0 (stpR 5) far s 2 0 t = zLn B 0 (-12 - (-16)) far s t := rfl
theorem zLn_16b : zAny B (zMode (-12 - (-16))) 1 (stpR 6) far s 2 0 t = zLn B 1 (-12 - (-16)) far s t := rfl
end
section
variable {d kc ks : Nat} {Q : pRes → Prop} {es : PH} {B : Nat → Int} {xs : Nat → Int32} {N : Nat}
theorem rb_loop {sr fa fr sd : Int} {k : Nat} (hT : hOK tT es) (hB : bdC B 30 es) (hk : k < 7) (h1 : -16 ≤ sr ∧ sr ≤ -12) (h2 : 0 ≤ fa ∧ fa ≤ 5) (h3 : 0 ≤ fr ∧ fr ≤ 35) (h4 : 0 ≤ sd ∧ sd ≤ 1) : ∀ (m i : Nat) (al : Int64) (x9 x10 x11 x12 : Option Value), i + 2 * m = (pSteps.getD k []).length → i + 2 * m ≤ 16 → (∀ al' : Int64, (∀ t, lbit al' t = (lbit al t || zAny B (zMode (-12 - sr)) sd (stpR k) fa.toNat fr.toNat m i t)) → Q (.inl (some (.long al')), es, kc, ks)) → aW (pO0 xs N) (d + 1) 51 kc ks Q (14, [some (.ref 93), some (.int (zI sr)), some (.int (zI fa)), some (.int (zI fr)), some (.int (zI sd)), some (.ref k), some (.long al), none, some (.int (zI (i : Int))), x9, x10, x11, x12], [], es) := by
  intro m
  induction m with
  | zero =>
    intro i al x9 x10 x11 x12 hm h16 K
    exact s_rb14 (d := d + 1) (go := stpR k) (ln := (pSteps.getD k []).length) (sh_of hT) (by omega) (stp_at hk) (stp_bd hk) h1 h2 h3 h4 ⟨by omega, by omega⟩ (by omega) hT (fun _ => K al (fun t => by rw [show zAny B (zMode (-12 - sr)) sd (stpR k) fa.toNat fr.toNat 0 i t = false from rfl, Bool.or_false])) (fun c => absurd (by omega) c)
  | succ m ih =>
    intro i al x9 x10 x11 x12 hm h16 K
    have e2 : ((i + 2 : Nat) : Int) = (i : Int) + 2 := by omega
    have i1 : ((i : Int) + 1).toNat = i + 1 := by omega
    have i0 : ((i : Int)).toNat = i := by omega
    refine s_rb14 (d := d + 1) (go := stpR k) (ln := (pSteps.getD k []).length) (sh_of hT) (by omega) (stp_at hk) (stp_bd hk) h1 h2 h3 h4 ⟨by omega, by omega⟩ (by omega) hT (fun c => absurd c (by omega)) (fun _ => ?_)
    refine rb_in (d := d) (B := B) (go := stpR k) (ln := (pSteps.getD k []).length) hT hB (by omega) (stp_at hk) (stp_bd hk) h1 h2 h3 h4 ⟨by omega, by omega⟩ (by omega) fa.toNat 0 (fr / 6) (fr % 6) fr.toNat al (by omega) (by omega) (by omega) (by omega) (by omega) (by omega) (by omega) (fun al' rk' fi' be' n' hb => ?_)
    refine s_rb172 (d := d + 1) (sh_of hT) hT ?_
    have h9 := ih (i + 2) al' (some (.int (zI rk'))) (some (.int (zI fi'))) (some (.int (zI be'))) (some (.int (zI n'))) (by omega) (by omega) (fun al2 hb2 => K al2 (fun t => by rw [hb2 t, hb t, zAny_s, i1, i0, Bool.or_assoc]))
    rw [e2] at h9
    exact h9
theorem rb_spec {sr fa fr sd : Int} (hT : hOK tT es) (hB : bdC B 30 es) (h1 : -16 ≤ sr ∧ sr ≤ -12) (h2 : 0 ≤ fa ∧ fa ≤ 5) (h3 : 0 ≤ fr ∧ fr ≤ 35) (h4 : 0 ≤ sd ∧ sd ≤ 1) (K : ∀ al : Int64, (∀ t, lbit al t = zLn B sd (-12 - sr) fa.toNat fr.toNat t) → Q (.inl (some (.long al)), es, kc, ks)) : aW (pO0 xs N) (d + 1) 51 kc ks Q (0, [some (.ref 93), some (.int (zI sr)), some (.int (zI fa)), some (.int (zI fr)), some (.int (zI sd)), none, none, none, none, none, none, none, none], [], es) := by
  have go : ∀ (k m : Nat), k < 7 → 2 * m = (pSteps.getD k []).length → 2 * m ≤ 16 → (∀ t, zAny B (zMode (-12 - sr)) sd (stpR k) fa.toNat fr.toNat m 0 t = zLn B sd (-12 - sr) fa.toNat fr.toNat t) → aW (pO0 xs N) (d + 1) 51 kc ks Q (14, [some (.ref 93), some (.int (zI sr)), some (.int (zI fa)), some (.int (zI fr)), some (.int (zI sd)), some (.ref k), some (.long (Int64.ofNat 0)), none, some (.int (zI 0)), none, none, none, none], [], es) := by
    intro k m hk hm h16 hz
    exact rb_loop (d := d) hT hB hk h1 h2 h3 h4 m 0 (Int64.ofNat 0) none none none none (by omega) (by omega) (fun al' hb => K al' (fun t => by rw [hb t, lbit_0, Bool.false_or, hz t]))
  refine s_rb0 (d := d) (sh_of hT) h1 h2 h3 h4 hT (fun c1 => ?_) (fun c1 c2 c3 => ?_) (fun c1 c2 c3 => ?_) (fun c1 c2 c3 => ?_) (fun c1 c2 c3 c4 => ?_) (fun c1 c2 c3 c4 c5 => ?_) (fun c1 c2 c3 c4 c5 => ?_)
  · exact go 2 8 (by omega) rfl (by omega) (fun t => by rw [c1]; exact zLn_15)
  · exact go 4 1 (by omega) rfl (by omega) (fun t => by rw [c2, show sd = 1 by omega]; exact zLn_14b)
  · exact go 3 1 (by omega) rfl (by omega) (fun t => by rw [c2, show sd = 0 by omega]; exact zLn_14a)
  · exact go 1 4 (by omega) rfl (by omega) (fun t => by rw [c3]; exact zLn_13)
  · exact go 0 4 (by omega) rfl (by omega) (fun t => by rw [c4]; exact zLn_12)
  · exact go 6 2 (by omega) rfl (by omega) (fun t => by rw [show sr = -16 by omega, show sd = 1 by omega]; exact zLn_16b)
  · exact go 5 2 (by omega) rfl (by omega) (fun t => by rw [show sr = -16 by omega, show sd = 0 by omega]; exact zLn_16a)
/-- the KINDS that the class has at the rows p (how many LINES) and q (the LINES) -/
def kdC (K : Nat → Nat × (Nat → Int × Nat)) (p q : Nat) (es : PH) : Prop := ∀ k, k < 5 → (gA es p k).toInt = ((K k).1 : Int) ∧ (K k).1 ≤ 6 ∧ ∀ n, n < (K k).1 → (gA es q (12 * k + 2 * n)).toInt = -12 - ((K k).2 n).1 ∧ (gA es q (12 * k + 2 * n + 1)).toInt = (((K k).2 n).2 : Int) ∧ 0 ≤ ((K k).2 n).1 ∧ ((K k).2 n).1 ≤ 4 ∧ ((K k).2 n).2 ≤ 5
theorem shr1 {x : Int} (h0 : 0 ≤ x) (h1 : x ≤ 100) : (zI x >>> (zI 1 &&& 31)).toInt = x / 2 := by
  rw [Jvm.Kit.i32_shr (zI x) (zI 1 &&& 31) (k := 1) (by decide), zI_toInt (by unfold i32 iLO iHI; omega)]
  rfl
theorem ro_loop {K : Nat → Nat × (Nat → Int × Nat)} {fr sd mn : Int} {k : Nat} (hT : hOK tT es) (hB : bdC B 30 es) (hK : kdC K 9 10 es) (hk : k < 5) (h3 : 0 ≤ fr ∧ fr ≤ 35) (h4 : 0 ≤ sd ∧ sd ≤ 1) (hQ : ∀ al : Int64, (∀ t, lbit al t = zLns B sd (K k).2 (K k).1 fr.toNat t) → Q (.inl (some (.long al)), es, kc, ks)) : ∀ (m n : Nat) (al : Int64), n + m = (K k).1 → (∀ t, lbit al t = zLns B sd (K k).2 n fr.toNat t) → aW (pO0 xs N) (d + 3) 47 kc ks Q (32, [some (.ref 93), some (.int (zI fr)), some (.int (zI sd)), some (.int (zI mn)), some (.long al), none, some (.int (zI (k : Int))), some (.int (zI (n : Int)))], [], es) := by
  obtain ⟨k1, k2, k3⟩ := hK k hk
  have kt : ((k : Int)).toNat = k := by omega
  intro m
  induction m with
  | zero =>
    intro n al hn hal
    rw [Nat.add_zero] at hn
    subst hn
    refine s_ro32 (d := d + 1) (sh_of hT) h3 h4 ⟨by omega, by omega⟩ ⟨by omega, by omega⟩ (by rw [kt, k1]; omega) hT (fun v1 p1 c1 => hQ al hal) (fun v1 p1 c1 => absurd ?_ c1)
    unfold atP at p1
    rw [p1, kt, k1]
    exact Int.le_refl _
  | succ m ih =>
    intro n al hn hal
    have hlt : n < (K k).1 := by omega
    obtain ⟨l1, l2, l3, l4, l5⟩ := k3 n hlt
    have e1 : ((n + 1 : Nat) : Int) = (n : Int) + 1 := by omega
    refine s_ro32 (d := d + 1) (sh_of hT) h3 h4 ⟨by omega, by omega⟩ ⟨by omega, by omega⟩ (by rw [kt, k1]; omega) hT (fun v1 p1 c1 => absurd c1 ?_) (fun v1 p1 c1 v3 p3 v4 p4 => ?_)
    · unfold atP at p1
      rw [p1, kt, k1]
      omega
    · have e3 : v3 = -12 - ((K k).2 n).1 := by
        unfold atP at p3
        rw [p3, show ((((k : Int) * 6 + (n : Int)) * 2) + 0).toNat = 12 * k + 2 * n by omega]
        exact l1
      have e4 : v4 = (((K k).2 n).2 : Int) := by
        unfold atP at p4
        rw [p4, show ((((k : Int) * 6 + (n : Int)) * 2) + 1).toNat = 12 * k + 2 * n + 1 by omega]
        exact l2
      refine x_call (vs := [.ref 93, .int (zI v3), .int (zI v4), .int (zI fr), .int (zI sd)]) (rs := [.long al]) i_47_78 rfl (fun _ => rfl) rfl rfl rfl rfl rfl (pCall_v (p := 29) (sh_of hT) rfl rfl rfl rfl rfl (by decide) rfl rfl rfl rfl rfl) ?_
      show aW _ _ _ _ _ _ (0, [some (.ref 93), some (.int (zI v3)), some (.int (zI v4)), some (.int (zI fr)), some (.int (zI sd)), none, none, none, none, none, none, none, none], [], es)
      refine rb_spec (d := d + 1) hT hB ⟨by omega, by omega⟩ ⟨by omega, by omega⟩ h3 h4 (fun re hre => ?_)
      show aW _ _ _ _ _ _ (81, [some (.ref 93), some (.int (zI fr)), some (.int (zI sd)), some (.int (zI mn)), some (.long al), none, some (.int (zI (k : Int))), some (.int (zI (n : Int)))], [.long re, .long al], es)
      refine s_ro81 (d := d + 3) (sh_of hT) h3 h4 ⟨by omega, by omega⟩ hT (fun w1 e_w1 => ?_)
      have h9 := ih (n + 1) w1 (by omega) (fun t => by
        rw [e_w1, lbit_or, hal t, hre t, e3, e4, show -12 - (-12 - ((K k).2 n).1) = ((K k).2 n).1 by omega, Int.toNat_natCast]
        rfl)
      rw [e1] at h9
      exact h9
/-- where a man of a SIDE may go, by the class -/
theorem ro_spec {K : Nat → Nat × (Nat → Int × Nat)} {fr sd : Int} (hT : hOK tT es) (hB : bdC B 30 es) (hK : kdC K 9 10 es) (h3 : 0 ≤ fr ∧ fr ≤ 35) (h4 : 0 ≤ sd ∧ sd ≤ 1) (hQ : ∀ al : Int64, (∀ t, lbit al t = zGo B K sd fr.toNat t) → Q (.inl (some (.long al)), es, kc, ks)) : aW (pO0 xs N) (d + 3) 47 kc ks Q (0, [some (.ref 93), some (.int (zI fr)), some (.int (zI sd)), none, none, none, none, none], [], es) := by
  obtain ⟨b1, b2, b3⟩ := hB fr.toNat (by omega)
  refine s_ro0 (d := d + 2) (sh_of hT) h3 h4 ⟨by omega, by omega⟩ hT (fun v1 p1 c1 => hQ _ (fun t => ?_)) (fun v1 p1 c1 v3 e3 c3 => hQ _ (fun t => ?_)) (fun v1 p1 c1 v3 e3 c3 v5 e5 => ?_)
  all_goals unfold atP at p1
  · rw [lbit_0]
    unfold zGo
    rw [decide_eq_false (by omega), Bool.false_and]
  · rw [and1 (by unfold i32 iLO iHI; omega)] at e3
    rw [lbit_0]
    unfold zGo
    rw [decide_eq_false (show ¬ B fr.toNat % 2 = sd by omega), Bool.false_and, Bool.and_false]
  · rw [and1 (by unfold i32 iLO iHI; omega)] at e3
    rw [shr1 (by omega) (by omega)] at e5
    have hv5 : v5 = ((B fr.toNat / 2).toNat : Int) := by omega
    rw [hv5]
    refine ro_loop (d := d) (B := B) (K := K) (k := (B fr.toNat / 2).toNat) hT hB hK (by omega) h3 h4 (fun al hal => hQ al (fun t => ?_)) _ 0 _ (Nat.zero_add _) (fun t => by rw [lbit_0]; rfl)
    rw [hal t]
    unfold zGo
    rw [decide_eq_true (show 0 ≤ B fr.toNat by omega), decide_eq_true (show B fr.toNat % 2 = sd by omega), Bool.true_and, Bool.true_and]
end
