/-! SEGMENTS of methods by hand, printed by wip/ai2/hand7.py -/
theorem i_274_0 : iRow 274 0 = some (.aload_n 0, 0, 0, 0, (some (Jvm.ClassFile.FieldType.int))) := rfl
theorem i_274_1 : iRow 274 1 = some (.iconst 0, 0, 0, 0, (some (Jvm.ClassFile.FieldType.int))) := rfl
theorem i_274_2 : iRow 274 2 = some (.putfield 3, 164, 12, 0, (some (Jvm.ClassFile.FieldType.int))) := rfl
theorem i_274_5 : iRow 274 5 = some (.aload_n 0, 0, 0, 0, (some (Jvm.ClassFile.FieldType.int))) := rfl
theorem i_274_6 : iRow 274 6 = some (.iload_n 1, 0, 0, 0, (some (Jvm.ClassFile.FieldType.int))) := rfl
theorem i_274_7 : iRow 274 7 = some (.iconst 0, 0, 0, 0, (some (Jvm.ClassFile.FieldType.int))) := rfl
theorem i_274_8 : iRow 274 8 = some (.iconst 1, 0, 0, 0, (some (Jvm.ClassFile.FieldType.int))) := rfl
theorem i_274_9 : iRow 274 9 = some (.invokestatic 106, 282, 193, 0, (some (Jvm.ClassFile.FieldType.int))) := rfl
theorem i_274_12 : iRow 274 12 = some (.ifCond .eq 23, 0, 0, 0, (some (Jvm.ClassFile.FieldType.int))) := rfl
theorem i_274_15 : iRow 274 15 = some (.iload_n 2, 0, 0, 0, (some (Jvm.ClassFile.FieldType.int))) := rfl
theorem i_274_16 : iRow 274 16 = some (.iconst 1, 0, 0, 0, (some (Jvm.ClassFile.FieldType.int))) := rfl
theorem i_274_17 : iRow 274 17 = some (.bipush 24, 0, 0, 0, (some (Jvm.ClassFile.FieldType.int))) := rfl
theorem i_274_19 : iRow 274 19 = some (.invokestatic 106, 282, 193, 0, (some (Jvm.ClassFile.FieldType.int))) := rfl
theorem i_274_22 : iRow 274 22 = some (.ifCond .eq 13, 0, 0, 0, (some (Jvm.ClassFile.FieldType.int))) := rfl
theorem i_274_25 : iRow 274 25 = some (.iload_n 3, 0, 0, 0, (some (Jvm.ClassFile.FieldType.int))) := rfl
theorem i_274_26 : iRow 274 26 = some (.iconst 0, 0, 0, 0, (some (Jvm.ClassFile.FieldType.int))) := rfl
theorem i_274_27 : iRow 274 27 = some (.bipush 9, 0, 0, 0, (some (Jvm.ClassFile.FieldType.int))) := rfl
theorem i_274_29 : iRow 274 29 = some (.invokestatic 106, 282, 193, 0, (some (Jvm.ClassFile.FieldType.int))) := rfl
theorem i_274_32 : iRow 274 32 = some (.ifCond .ne 7, 0, 0, 0, (some (Jvm.ClassFile.FieldType.int))) := rfl
theorem i_274_35 : iRow 274 35 = some (.iconst 1, 0, 0, 0, (some (Jvm.ClassFile.FieldType.int))) := rfl
theorem i_274_36 : iRow 274 36 = some (.goto 4, 0, 0, 0, (some (Jvm.ClassFile.FieldType.int))) := rfl
theorem i_274_39 : iRow 274 39 = some (.iconst 0, 0, 0, 0, (some (Jvm.ClassFile.FieldType.int))) := rfl
theorem i_274_40 : iRow 274 40 = some (.iconst 1, 0, 0, 0, (some (Jvm.ClassFile.FieldType.int))) := rfl
theorem i_274_41 : iRow 274 41 = some (.invokevirtual 235, 283, 194, 1, (some (Jvm.ClassFile.FieldType.int))) := rfl
theorem i_274_44 : iRow 274 44 = some (.ifCond .ne 26, 0, 0, 0, (some (Jvm.ClassFile.FieldType.int))) := rfl
theorem i_274_47 : iRow 274 47 = some (.aload_n 0, 0, 0, 0, (some (Jvm.ClassFile.FieldType.int))) := rfl
theorem i_274_48 : iRow 274 48 = some (.aload_n 0, 0, 0, 0, (some (Jvm.ClassFile.FieldType.int))) := rfl
theorem i_274_49 : iRow 274 49 = some (.getfield 13, 165, 12, 1, (some (Jvm.ClassFile.FieldType.int))) := rfl
theorem i_274_52 : iRow 274 52 = some (.iconst 1, 0, 0, 0, (some (Jvm.ClassFile.FieldType.int))) := rfl
theorem i_274_53 : iRow 274 53 = some (.iaload, 0, 0, 0, (some (Jvm.ClassFile.FieldType.int))) := rfl
theorem i_274_54 : iRow 274 54 = some (.iconst 3, 0, 0, 0, (some (Jvm.ClassFile.FieldType.int))) := rfl
theorem i_274_55 : iRow 274 55 = some (.if_icmp .ne 7, 0, 0, 0, (some (Jvm.ClassFile.FieldType.int))) := rfl
theorem i_274_58 : iRow 274 58 = some (.iconst 1, 0, 0, 0, (some (Jvm.ClassFile.FieldType.int))) := rfl
theorem i_274_59 : iRow 274 59 = some (.goto 4, 0, 0, 0, (some (Jvm.ClassFile.FieldType.int))) := rfl
theorem i_274_62 : iRow 274 62 = some (.iconst 0, 0, 0, 0, (some (Jvm.ClassFile.FieldType.int))) := rfl
theorem i_274_63 : iRow 274 63 = some (.iconst 2, 0, 0, 0, (some (Jvm.ClassFile.FieldType.int))) := rfl
theorem i_274_64 : iRow 274 64 = some (.invokevirtual 235, 283, 194, 1, (some (Jvm.ClassFile.FieldType.int))) := rfl
theorem i_274_67 : iRow 274 67 = some (.ifCond .eq 5, 0, 0, 0, (some (Jvm.ClassFile.FieldType.int))) := rfl
theorem i_274_70 : iRow 274 70 = some (.iconst 0, 0, 0, 0, (some (Jvm.ClassFile.FieldType.int))) := rfl
theorem i_274_71 : iRow 274 71 = some (.ireturn, 0, 0, 0, (some (Jvm.ClassFile.FieldType.int))) := rfl
theorem i_274_72 : iRow 274 72 = some (.aload_n 0, 0, 0, 0, (some (Jvm.ClassFile.FieldType.int))) := rfl
theorem i_274_73 : iRow 274 73 = some (.getfield 13, 165, 12, 1, (some (Jvm.ClassFile.FieldType.int))) := rfl
theorem i_274_76 : iRow 274 76 = some (.iconst 1, 0, 0, 0, (some (Jvm.ClassFile.FieldType.int))) := rfl
theorem i_274_77 : iRow 274 77 = some (.iaload, 0, 0, 0, (some (Jvm.ClassFile.FieldType.int))) := rfl
theorem i_274_78 : iRow 274 78 = some (.istore 5, 0, 0, 0, (some (Jvm.ClassFile.FieldType.int))) := rfl
theorem i_274_80 : iRow 274 80 = some (.aload_n 0, 0, 0, 0, (some (Jvm.ClassFile.FieldType.int))) := rfl
theorem i_274_81 : iRow 274 81 = some (.getfield 13, 165, 12, 1, (some (Jvm.ClassFile.FieldType.int))) := rfl
theorem i_274_84 : iRow 274 84 = some (.bipush 119, 0, 0, 0, (some (Jvm.ClassFile.FieldType.int))) := rfl
theorem i_274_86 : iRow 274 86 = some (.bipush 98, 0, 0, 0, (some (Jvm.ClassFile.FieldType.int))) := rfl
theorem i_274_88 : iRow 274 88 = some (.iload 5, 0, 0, 0, (some (Jvm.ClassFile.FieldType.int))) := rfl
theorem i_274_90 : iRow 274 90 = some (.imul, 0, 0, 0, (some (Jvm.ClassFile.FieldType.int))) := rfl
theorem i_274_91 : iRow 274 91 = some (.iadd, 0, 0, 0, (some (Jvm.ClassFile.FieldType.int))) := rfl
theorem i_274_92 : iRow 274 92 = some (.iload_n 1, 0, 0, 0, (some (Jvm.ClassFile.FieldType.int))) := rfl
theorem i_274_93 : iRow 274 93 = some (.iastore, 0, 0, 0, (some (Jvm.ClassFile.FieldType.int))) := rfl
theorem i_274_94 : iRow 274 94 = some (.aload_n 0, 0, 0, 0, (some (Jvm.ClassFile.FieldType.int))) := rfl
theorem i_274_95 : iRow 274 95 = some (.getfield 13, 165, 12, 1, (some (Jvm.ClassFile.FieldType.int))) := rfl
theorem i_274_98 : iRow 274 98 = some (.bipush 119, 0, 0, 0, (some (Jvm.ClassFile.FieldType.int))) := rfl
theorem i_274_100 : iRow 274 100 = some (.bipush 98, 0, 0, 0, (some (Jvm.ClassFile.FieldType.int))) := rfl
theorem i_274_102 : iRow 274 102 = some (.iload 5, 0, 0, 0, (some (Jvm.ClassFile.FieldType.int))) := rfl
theorem i_274_104 : iRow 274 104 = some (.imul, 0, 0, 0, (some (Jvm.ClassFile.FieldType.int))) := rfl
theorem i_274_105 : iRow 274 105 = some (.iadd, 0, 0, 0, (some (Jvm.ClassFile.FieldType.int))) := rfl
theorem i_274_106 : iRow 274 106 = some (.iconst 1, 0, 0, 0, (some (Jvm.ClassFile.FieldType.int))) := rfl
theorem i_274_107 : iRow 274 107 = some (.iadd, 0, 0, 0, (some (Jvm.ClassFile.FieldType.int))) := rfl
theorem i_274_108 : iRow 274 108 = some (.iconst 0, 0, 0, 0, (some (Jvm.ClassFile.FieldType.int))) := rfl
theorem i_274_109 : iRow 274 109 = some (.iastore, 0, 0, 0, (some (Jvm.ClassFile.FieldType.int))) := rfl
theorem i_274_110 : iRow 274 110 = some (.aload_n 0, 0, 0, 0, (some (Jvm.ClassFile.FieldType.int))) := rfl
theorem i_274_111 : iRow 274 111 = some (.getfield 13, 165, 12, 1, (some (Jvm.ClassFile.FieldType.int))) := rfl
theorem i_274_114 : iRow 274 114 = some (.iconst 1, 0, 0, 0, (some (Jvm.ClassFile.FieldType.int))) := rfl
theorem i_274_115 : iRow 274 115 = some (.dup2, 0, 0, 0, (some (Jvm.ClassFile.FieldType.int))) := rfl
theorem i_274_116 : iRow 274 116 = some (.iaload, 0, 0, 0, (some (Jvm.ClassFile.FieldType.int))) := rfl
theorem i_274_117 : iRow 274 117 = some (.iconst 1, 0, 0, 0, (some (Jvm.ClassFile.FieldType.int))) := rfl
theorem i_274_118 : iRow 274 118 = some (.iadd, 0, 0, 0, (some (Jvm.ClassFile.FieldType.int))) := rfl
theorem i_274_119 : iRow 274 119 = some (.iastore, 0, 0, 0, (some (Jvm.ClassFile.FieldType.int))) := rfl
theorem i_274_120 : iRow 274 120 = some (.aload_n 0, 0, 0, 0, (some (Jvm.ClassFile.FieldType.int))) := rfl
theorem i_274_121 : iRow 274 121 = some (.iload 4, 0, 0, 0, (some (Jvm.ClassFile.FieldType.int))) := rfl
theorem i_274_123 : iRow 274 123 = some (.putfield 459, 214, 12, 51, (some (Jvm.ClassFile.FieldType.int))) := rfl
theorem i_274_126 : iRow 274 126 = some (.aload_n 0, 0, 0, 0, (some (Jvm.ClassFile.FieldType.int))) := rfl
theorem i_274_127 : iRow 274 127 = some (.invokevirtual 302, 306, 217, 1, (some (Jvm.ClassFile.FieldType.int))) := rfl
theorem i_274_130 : iRow 274 130 = some (.iconst 0, 0, 0, 0, (some (Jvm.ClassFile.FieldType.int))) := rfl
theorem i_274_131 : iRow 274 131 = some (.istore 6, 0, 0, 0, (some (Jvm.ClassFile.FieldType.int))) := rfl
theorem i_274_133 : iRow 274 133 = some (.iload 6, 0, 0, 0, (some (Jvm.ClassFile.FieldType.int))) := rfl
theorem i_274_135 : iRow 274 135 = some (.iload_n 2, 0, 0, 0, (some (Jvm.ClassFile.FieldType.int))) := rfl
theorem i_274_136 : iRow 274 136 = some (.if_icmp .ge 218, 0, 0, 0, (some (Jvm.ClassFile.FieldType.int))) := rfl
theorem i_274_139 : iRow 274 139 = some (.aload_n 0, 0, 0, 0, (some (Jvm.ClassFile.FieldType.int))) := rfl
theorem i_274_140 : iRow 274 140 = some (.iload 6, 0, 0, 0, (some (Jvm.ClassFile.FieldType.int))) := rfl
theorem i_274_142 : iRow 274 142 = some (.iload 6, 0, 0, 0, (some (Jvm.ClassFile.FieldType.int))) := rfl
theorem i_274_144 : iRow 274 144 = some (.iconst 2, 0, 0, 0, (some (Jvm.ClassFile.FieldType.int))) := rfl
theorem i_274_145 : iRow 274 145 = some (.irem, 0, 0, 0, (some (Jvm.ClassFile.FieldType.int))) := rfl
theorem i_274_146 : iRow 274 146 = some (.invokevirtual 305, 307, 218, 1, (some (Jvm.ClassFile.FieldType.int))) := rfl
theorem i_274_149 : iRow 274 149 = some (.aload_n 0, 0, 0, 0, (some (Jvm.ClassFile.FieldType.int))) := rfl
theorem i_274_150 : iRow 274 150 = some (.iload 6, 0, 0, 0, (some (Jvm.ClassFile.FieldType.int))) := rfl
theorem i_274_152 : iRow 274 152 = some (.invokevirtual 308, 316, 227, 1, (some (Jvm.ClassFile.FieldType.int))) := rfl
theorem i_274_155 : iRow 274 155 = some (.istore 7, 0, 0, 0, (some (Jvm.ClassFile.FieldType.int))) := rfl
theorem i_274_157 : iRow 274 157 = some (.iload 7, 0, 0, 0, (some (Jvm.ClassFile.FieldType.int))) := rfl
theorem i_274_159 : iRow 274 159 = some (.ifCond .ne 6, 0, 0, 0, (some (Jvm.ClassFile.FieldType.int))) := rfl
theorem i_274_162 : iRow 274 162 = some (.iload 5, 0, 0, 0, (some (Jvm.ClassFile.FieldType.int))) := rfl
theorem i_274_164 : iRow 274 164 = some (.ireturn, 0, 0, 0, (some (Jvm.ClassFile.FieldType.int))) := rfl
set_option maxRecDepth 20000 in
theorem i_274_354 : iRow 274 354 = some (.iload 5, 0, 0, 0, (some (Jvm.ClassFile.FieldType.int))) := rfl
set_option maxRecDepth 20000 in
theorem i_274_356 : iRow 274 356 = some (.ireturn, 0, 0, 0, (some (Jvm.ClassFile.FieldType.int))) := rfl
theorem s_write0 {O : pOut} {d kc ks : Nat} {Q : pRes → Prop} {es : PH} {wy mv sl se : Int} (hs_es : sh es) (h0 : -2147483648 ≤ wy ∧ wy ≤ 2147483647) (h1 : -2147483648 ≤ mv ∧ mv ≤ 2147483647) (h2 : -2147483648 ≤ sl ∧ sl ≤ 2147483647) (h3 : -2147483648 ≤ se ∧ se ≤ 2147483647) (hT_es : hOK tT es)
    (K1 : ∀ es1 : PH, es1 = sI es 79 0 (.int (zI 0)) → wy < 0 → ∀ es3 : PH, es3 = sI es1 79 0 (.int (zI 1)) → Q (.inl (some (.int (zI 0))), es3, kc, ks))
    (K2 : ∀ es1 : PH, es1 = sI es 79 0 (.int (zI 0)) → ¬ (wy < 0) → 1 < wy → ∀ es5 : PH, es5 = sI es1 79 0 (.int (zI 1)) → Q (.inl (some (.int (zI 0))), es5, kc, ks))
    (K3 : ∀ es1 : PH, es1 = sI es 79 0 (.int (zI 0)) → ¬ (wy < 0) → ¬ (1 < wy) → mv < 1 → ∀ es7 : PH, es7 = sI es1 79 0 (.int (zI 1)) → Q (.inl (some (.int (zI 0))), es7, kc, ks))
    (K4 : ∀ es1 : PH, es1 = sI es 79 0 (.int (zI 0)) → ¬ (wy < 0) → ¬ (1 < wy) → ¬ (mv < 1) → 24 < mv → ∀ es9 : PH, es9 = sI es1 79 0 (.int (zI 1)) → Q (.inl (some (.int (zI 0))), es9, kc, ks))
    (K5 : ∀ es1 : PH, es1 = sI es 79 0 (.int (zI 0)) → ¬ (wy < 0) → ¬ (1 < wy) → ¬ (mv < 1) → ¬ (24 < mv) → sl < 0 → ∀ es11 : PH, es11 = sI es1 79 0 (.int (zI 1)) → Q (.inl (some (.int (zI 0))), es11, kc, ks))
    (K6 : ∀ es1 : PH, es1 = sI es 79 0 (.int (zI 0)) → ¬ (wy < 0) → ¬ (1 < wy) → ¬ (mv < 1) → ¬ (24 < mv) → ¬ (sl < 0) → 9 < sl → ∀ es13 : PH, es13 = sI es1 79 0 (.int (zI 1)) → Q (.inl (some (.int (zI 0))), es13, kc, ks))
    (K7 : ∀ es1 : PH, es1 = sI es 79 0 (.int (zI 0)) → ¬ (wy < 0) → ¬ (1 < wy) → ¬ (mv < 1) → ¬ (24 < mv) → ¬ (sl < 0) → ¬ (9 < sl) → ∀ v14 : Int, v14 = (gA es1 80 (Int.toNat 1)).toInt → v14 ≠ 3 → ∀ v16 : Int, v16 = (gA es1 80 (Int.toNat 1)).toInt → ∀ es17 : PH, es17 = sA es1 80 (119 + (98 * v16)).toNat (zI wy) → ∀ es18 : PH, es18 = sA es17 80 ((119 + (98 * v16)) + 1).toNat (zI 0) → ∀ v19 : Int, v19 = (gA es18 80 (Int.toNat 1)).toInt → ∀ es20 : PH, es20 = sA es18 80 (Int.toNat 1) (zI (v19 + 1)) → ∀ es21 : PH, es21 = sI es20 79 51 (.int (zI se)) → aW O (d + 1) 274 kc ks Q (127, [some (.ref 143), some (.int (zI wy)), some (.int (zI mv)), some (.int (zI sl)), some (.int (zI se)), some (.int (zI v16)), none, none, none, none, none, none, none, none], [.ref 143], es21))
    (K8 : ∀ es1 : PH, es1 = sI es 79 0 (.int (zI 0)) → ¬ (wy < 0) → ¬ (1 < wy) → ¬ (mv < 1) → ¬ (24 < mv) → ¬ (sl < 0) → ¬ (9 < sl) → ∀ v14 : Int, v14 = (gA es1 80 (Int.toNat 1)).toInt → ¬ (v14 ≠ 3) → ∀ es22 : PH, es22 = sI es1 79 0 (.int (zI 2)) → Q (.inl (some (.int (zI 0))), es22, kc, ks)) :
    aW O (d + 1) 274 kc ks Q (0, [some (.ref 143), some (.int (zI wy)), some (.int (zI mv)), some (.int (zI sl)), some (.int (zI se)), none, none, none, none, none, none, none, none, none], [], es) := by
  refine x0 (r := (1, [some (.ref 143), some (.int (zI wy)), some (.int (zI mv)), some (.int (zI sl)), some (.int (zI se)), none, none, none, none, none, none, none, none, none], [.ref 143], es)) i_274_0 rfl ?_
  refine x0 (r := (2, [some (.ref 143), some (.int (zI wy)), some (.int (zI mv)), some (.int (zI sl)), some (.int (zI se)), none, none, none, none, none, none, none, none, none], [.int (zI 0), .ref 143], es)) i_274_1 (by rfl) ?_
  refine x_puti (p := 79) (ty := .int) i_274_2 hs_es rfl rfl rfl (Or.inl rfl) ?_
  obtain ⟨es1, e_es1⟩ : ∃ z : PH, z = sI es 79 0 (.int (zI 0)) := ⟨_, rfl⟩
  have hs_es1 : sh es1 := by rw [e_es1]; exact sh_sI hs_es (p := 79) (b := 0) rfl rfl
  have hT_es1 : hOK tT es1 := by rw [e_es1]; exact hOK_sI hT_es (p := 79) (b := 0) (lo := iLO) (hi := iHI) rfl rfl (i32_rng _)
  rw [← e_es1]
  refine x0 (r := (6, [some (.ref 143), some (.int (zI wy)), some (.int (zI mv)), some (.int (zI sl)), some (.int (zI se)), none, none, none, none, none, none, none, none, none], [.ref 143], es1)) i_274_5 rfl ?_
  refine x0 (r := (7, [some (.ref 143), some (.int (zI wy)), some (.int (zI mv)), some (.int (zI sl)), some (.int (zI se)), none, none, none, none, none, none, none, none, none], [.int (zI wy), .ref 143], es1)) i_274_6 rfl ?_
  refine x0 (r := (8, [some (.ref 143), some (.int (zI wy)), some (.int (zI mv)), some (.int (zI sl)), some (.int (zI se)), none, none, none, none, none, none, none, none, none], [.int (zI 0), .int (zI wy), .ref 143], es1)) i_274_7 (by rfl) ?_
  refine x0 (r := (9, [some (.ref 143), some (.int (zI wy)), some (.int (zI mv)), some (.int (zI sl)), some (.int (zI se)), none, none, none, none, none, none, none, none, none], [.int (zI 1), .int (zI 0), .int (zI wy), .ref 143], es1)) i_274_8 (by rfl) ?_
  refine x_call (vs := [.int (zI wy), .int (zI 0), .int (zI 1)]) (rs := [.ref 143]) i_274_9 rfl (fun _ => rfl) rfl rfl rfl rfl rfl rfl ?_
  show aW _ _ _ _ _ _ (0, [some (.int (zI wy)), some (.int (zI 0)), some (.int (zI 1))], [], es1)
  refine x0 (r := (1, [some (.int (zI wy)), some (.int (zI 0)), some (.int (zI 1))], [.int (zI wy)], es1)) i_193_0 rfl ?_
  refine x0 (r := (2, [some (.int (zI wy)), some (.int (zI 0)), some (.int (zI 1))], [.int (zI 0), .int (zI wy)], es1)) i_193_1 rfl ?_
  by_cases c2 : wy < 0
  · refine x_cmpT i_193_2 (by unfold i32 iLO iHI; omega) (by unfold i32 iLO iHI; omega) rfl (by simp only [zC, cR]; omega) ?_
    refine x0 (r := (15, [some (.int (zI wy)), some (.int (zI 0)), some (.int (zI 1))], [.int (zI 0)], es1)) i_193_14 (by rfl) ?_
    refine x_ret (v := some (.int (zI 0))) i_193_15 rfl (fun _ => rfl) rfl rfl (pFin_b (by omega)) ?_
    show aW _ _ _ _ _ _ (12, [some (.ref 143), some (.int (zI wy)), some (.int (zI mv)), some (.int (zI sl)), some (.int (zI se)), none, none, none, none, none, none, none, none, none], [.int (zI 0), .ref 143], es1)
    refine x_ifT i_274_12 (by unfold i32 iLO iHI; omega) rfl (by simp only [zC, cR]; omega) ?_
    refine x0 (r := (36, [some (.ref 143), some (.int (zI wy)), some (.int (zI mv)), some (.int (zI sl)), some (.int (zI se)), none, none, none, none, none, none, none, none, none], [.int (zI 1), .ref 143], es1)) i_274_35 (by rfl) ?_
    refine x0 (r := (40, [some (.ref 143), some (.int (zI wy)), some (.int (zI mv)), some (.int (zI sl)), some (.int (zI se)), none, none, none, none, none, none, none, none, none], [.int (zI 1), .ref 143], es1)) i_274_36 rfl ?_
    refine x0 (r := (41, [some (.ref 143), some (.int (zI wy)), some (.int (zI mv)), some (.int (zI sl)), some (.int (zI se)), none, none, none, none, none, none, none, none, none], [.int (zI 1), .int (zI 1), .ref 143], es1)) i_274_40 (by rfl) ?_
    refine x_call (vs := [.ref 143, .int (zI 1), .int (zI 1)]) (rs := []) i_274_41 rfl (fun _ => rfl) rfl rfl rfl rfl rfl (pCall_v (p := 79) hs_es1 rfl rfl rfl rfl rfl (by decide) rfl rfl rfl rfl rfl) ?_
    show aW _ _ _ _ _ _ (0, [some (.ref 143), some (.int (zI 1)), some (.int (zI 1))], [], es1)
    refine x0 (r := (1, [some (.ref 143), some (.int (zI 1)), some (.int (zI 1))], [.int (zI 1)], es1)) i_194_0 rfl ?_
    refine x_ifF i_194_1 (by unfold i32 iLO iHI; omega) rfl (by simp only [zC, cR]; omega) ?_
    refine x0 (r := (5, [some (.ref 143), some (.int (zI 1)), some (.int (zI 1))], [.ref 143], es1)) i_194_4 rfl ?_
    refine x0 (r := (6, [some (.ref 143), some (.int (zI 1)), some (.int (zI 1))], [.int (zI 1), .ref 143], es1)) i_194_5 rfl ?_
    refine x_puti (p := 79) (ty := .int) i_194_6 hs_es1 rfl rfl rfl (Or.inl rfl) ?_
    obtain ⟨es3, e_es3⟩ : ∃ z : PH, z = sI es1 79 0 (.int (zI 1)) := ⟨_, rfl⟩
    have hs_es3 : sh es3 := by rw [e_es3]; exact sh_sI hs_es1 (p := 79) (b := 0) rfl rfl
    have hT_es3 : hOK tT es3 := by rw [e_es3]; exact hOK_sI hT_es1 (p := 79) (b := 0) (lo := iLO) (hi := iHI) rfl rfl (i32_rng _)
    rw [← e_es3]
    refine x0 (r := (10, [some (.ref 143), some (.int (zI 1)), some (.int (zI 1))], [.int (zI 1)], es3)) i_194_9 rfl ?_
    refine x_ret (v := some (.int (zI 1))) i_194_10 rfl (fun _ => rfl) rfl rfl (pFin_b (by omega)) ?_
    show aW _ _ _ _ _ _ (44, [some (.ref 143), some (.int (zI wy)), some (.int (zI mv)), some (.int (zI sl)), some (.int (zI se)), none, none, none, none, none, none, none, none, none], [.int (zI 1)], es3)
    refine x_ifT i_274_44 (by unfold i32 iLO iHI; omega) rfl (by simp only [zC, cR]; omega) ?_
    refine x0 (r := (71, [some (.ref 143), some (.int (zI wy)), some (.int (zI mv)), some (.int (zI sl)), some (.int (zI se)), none, none, none, none, none, none, none, none, none], [.int (zI 0)], es3)) i_274_70 (by rfl) ?_
    refine x_ret (v := some (.int (zI 0))) i_274_71 rfl (fun _ => rfl) rfl rfl rfl ?_
    exact K1 es1 e_es1 c2 es3 e_es3
  · refine x_cmpF i_193_2 (by unfold i32 iLO iHI; omega) (by unfold i32 iLO iHI; omega) rfl (by simp only [zC, cR]; omega) ?_
    refine x0 (r := (6, [some (.int (zI wy)), some (.int (zI 0)), some (.int (zI 1))], [.int (zI wy)], es1)) i_193_5 rfl ?_
    refine x0 (r := (7, [some (.int (zI wy)), some (.int (zI 0)), some (.int (zI 1))], [.int (zI 1), .int (zI wy)], es1)) i_193_6 rfl ?_
    by_cases c4 : 1 < wy
    · refine x_cmpT i_193_7 (by unfold i32 iLO iHI; omega) (by unfold i32 iLO iHI; omega) rfl (by simp only [zC, cR]; omega) ?_
      refine x0 (r := (15, [some (.int (zI wy)), some (.int (zI 0)), some (.int (zI 1))], [.int (zI 0)], es1)) i_193_14 (by rfl) ?_
      refine x_ret (v := some (.int (zI 0))) i_193_15 rfl (fun _ => rfl) rfl rfl (pFin_b (by omega)) ?_
      show aW _ _ _ _ _ _ (12, [some (.ref 143), some (.int (zI wy)), some (.int (zI mv)), some (.int (zI sl)), some (.int (zI se)), none, none, none, none, none, none, none, none, none], [.int (zI 0), .ref 143], es1)
      refine x_ifT i_274_12 (by unfold i32 iLO iHI; omega) rfl (by simp only [zC, cR]; omega) ?_
      refine x0 (r := (36, [some (.ref 143), some (.int (zI wy)), some (.int (zI mv)), some (.int (zI sl)), some (.int (zI se)), none, none, none, none, none, none, none, none, none], [.int (zI 1), .ref 143], es1)) i_274_35 (by rfl) ?_
      refine x0 (r := (40, [some (.ref 143), some (.int (zI wy)), some (.int (zI mv)), some (.int (zI sl)), some (.int (zI se)), none, none, none, none, none, none, none, none, none], [.int (zI 1), .ref 143], es1)) i_274_36 rfl ?_
      refine x0 (r := (41, [some (.ref 143), some (.int (zI wy)), some (.int (zI mv)), some (.int (zI sl)), some (.int (zI se)), none, none, none, none, none, none, none, none, none], [.int (zI 1), .int (zI 1), .ref 143], es1)) i_274_40 (by rfl) ?_
      refine x_call (vs := [.ref 143, .int (zI 1), .int (zI 1)]) (rs := []) i_274_41 rfl (fun _ => rfl) rfl rfl rfl rfl rfl (pCall_v (p := 79) hs_es1 rfl rfl rfl rfl rfl (by decide) rfl rfl rfl rfl rfl) ?_
      show aW _ _ _ _ _ _ (0, [some (.ref 143), some (.int (zI 1)), some (.int (zI 1))], [], es1)
      refine x0 (r := (1, [some (.ref 143), some (.int (zI 1)), some (.int (zI 1))], [.int (zI 1)], es1)) i_194_0 rfl ?_
      refine x_ifF i_194_1 (by unfold i32 iLO iHI; omega) rfl (by simp only [zC, cR]; omega) ?_
      refine x0 (r := (5, [some (.ref 143), some (.int (zI 1)), some (.int (zI 1))], [.ref 143], es1)) i_194_4 rfl ?_
      refine x0 (r := (6, [some (.ref 143), some (.int (zI 1)), some (.int (zI 1))], [.int (zI 1), .ref 143], es1)) i_194_5 rfl ?_
      refine x_puti (p := 79) (ty := .int) i_194_6 hs_es1 rfl rfl rfl (Or.inl rfl) ?_
      obtain ⟨es5, e_es5⟩ : ∃ z : PH, z = sI es1 79 0 (.int (zI 1)) := ⟨_, rfl⟩
      have hs_es5 : sh es5 := by rw [e_es5]; exact sh_sI hs_es1 (p := 79) (b := 0) rfl rfl
      have hT_es5 : hOK tT es5 := by rw [e_es5]; exact hOK_sI hT_es1 (p := 79) (b := 0) (lo := iLO) (hi := iHI) rfl rfl (i32_rng _)
      rw [← e_es5]
      refine x0 (r := (10, [some (.ref 143), some (.int (zI 1)), some (.int (zI 1))], [.int (zI 1)], es5)) i_194_9 rfl ?_
      refine x_ret (v := some (.int (zI 1))) i_194_10 rfl (fun _ => rfl) rfl rfl (pFin_b (by omega)) ?_
      show aW _ _ _ _ _ _ (44, [some (.ref 143), some (.int (zI wy)), some (.int (zI mv)), some (.int (zI sl)), some (.int (zI se)), none, none, none, none, none, none, none, none, none], [.int (zI 1)], es5)
      refine x_ifT i_274_44 (by unfold i32 iLO iHI; omega) rfl (by simp only [zC, cR]; omega) ?_
      refine x0 (r := (71, [some (.ref 143), some (.int (zI wy)), some (.int (zI mv)), some (.int (zI sl)), some (.int (zI se)), none, none, none, none, none, none, none, none, none], [.int (zI 0)], es5)) i_274_70 (by rfl) ?_
      refine x_ret (v := some (.int (zI 0))) i_274_71 rfl (fun _ => rfl) rfl rfl rfl ?_
      exact K2 es1 e_es1 c2 c4 es5 e_es5
    · refine x_cmpF i_193_7 (by unfold i32 iLO iHI; omega) (by unfold i32 iLO iHI; omega) rfl (by simp only [zC, cR]; omega) ?_
      refine x0 (r := (11, [some (.int (zI wy)), some (.int (zI 0)), some (.int (zI 1))], [.int (zI 1)], es1)) i_193_10 (by rfl) ?_
      refine x0 (r := (15, [some (.int (zI wy)), some (.int (zI 0)), some (.int (zI 1))], [.int (zI 1)], es1)) i_193_11 rfl ?_
      refine x_ret (v := some (.int (zI 1))) i_193_15 rfl (fun _ => rfl) rfl rfl (pFin_b (by omega)) ?_
      show aW _ _ _ _ _ _ (12, [some (.ref 143), some (.int (zI wy)), some (.int (zI mv)), some (.int (zI sl)), some (.int (zI se)), none, none, none, none, none, none, none, none, none], [.int (zI 1), .ref 143], es1)
      refine x_ifF i_274_12 (by unfold i32 iLO iHI; omega) rfl (by simp only [zC, cR]; omega) ?_
      refine x0 (r := (16, [some (.ref 143), some (.int (zI wy)), some (.int (zI mv)), some (.int (zI sl)), some (.int (zI se)), none, none, none, none, none, none, none, none, none], [.int (zI mv), .ref 143], es1)) i_274_15 rfl ?_
      refine x0 (r := (17, [some (.ref 143), some (.int (zI wy)), some (.int (zI mv)), some (.int (zI sl)), some (.int (zI se)), none, none, none, none, none, none, none, none, none], [.int (zI 1), .int (zI mv), .ref 143], es1)) i_274_16 (by rfl) ?_
      refine x0 (r := (19, [some (.ref 143), some (.int (zI wy)), some (.int (zI mv)), some (.int (zI sl)), some (.int (zI se)), none, none, none, none, none, none, none, none, none], [.int (zI 24), .int (zI 1), .int (zI mv), .ref 143], es1)) i_274_17 (by rfl) ?_
      refine x_call (vs := [.int (zI mv), .int (zI 1), .int (zI 24)]) (rs := [.ref 143]) i_274_19 rfl (fun _ => rfl) rfl rfl rfl rfl rfl rfl ?_
      show aW _ _ _ _ _ _ (0, [some (.int (zI mv)), some (.int (zI 1)), some (.int (zI 24))], [], es1)
      refine x0 (r := (1, [some (.int (zI mv)), some (.int (zI 1)), some (.int (zI 24))], [.int (zI mv)], es1)) i_193_0 rfl ?_
      refine x0 (r := (2, [some (.int (zI mv)), some (.int (zI 1)), some (.int (zI 24))], [.int (zI 1), .int (zI mv)], es1)) i_193_1 rfl ?_
      by_cases c6 : mv < 1
      · refine x_cmpT i_193_2 (by unfold i32 iLO iHI; omega) (by unfold i32 iLO iHI; omega) rfl (by simp only [zC, cR]; omega) ?_
        refine x0 (r := (15, [some (.int (zI mv)), some (.int (zI 1)), some (.int (zI 24))], [.int (zI 0)], es1)) i_193_14 (by rfl) ?_
        refine x_ret (v := some (.int (zI 0))) i_193_15 rfl (fun _ => rfl) rfl rfl (pFin_b (by omega)) ?_
        show aW _ _ _ _ _ _ (22, [some (.ref 143), some (.int (zI wy)), some (.int (zI mv)), some (.int (zI sl)), some (.int (zI se)), none, none, none, none, none, none, none, none, none], [.int (zI 0), .ref 143], es1)
        refine x_ifT i_274_22 (by unfold i32 iLO iHI; omega) rfl (by simp only [zC, cR]; omega) ?_
        refine x0 (r := (36, [some (.ref 143), some (.int (zI wy)), some (.int (zI mv)), some (.int (zI sl)), some (.int (zI se)), none, none, none, none, none, none, none, none, none], [.int (zI 1), .ref 143], es1)) i_274_35 (by rfl) ?_
        refine x0 (r := (40, [some (.ref 143), some (.int (zI wy)), some (.int (zI mv)), some (.int (zI sl)), some (.int (zI se)), none, none, none, none, none, none, none, none, none], [.int (zI 1), .ref 143], es1)) i_274_36 rfl ?_
        refine x0 (r := (41, [some (.ref 143), some (.int (zI wy)), some (.int (zI mv)), some (.int (zI sl)), some (.int (zI se)), none, none, none, none, none, none, none, none, none], [.int (zI 1), .int (zI 1), .ref 143], es1)) i_274_40 (by rfl) ?_
        refine x_call (vs := [.ref 143, .int (zI 1), .int (zI 1)]) (rs := []) i_274_41 rfl (fun _ => rfl) rfl rfl rfl rfl rfl (pCall_v (p := 79) hs_es1 rfl rfl rfl rfl rfl (by decide) rfl rfl rfl rfl rfl) ?_
        show aW _ _ _ _ _ _ (0, [some (.ref 143), some (.int (zI 1)), some (.int (zI 1))], [], es1)
        refine x0 (r := (1, [some (.ref 143), some (.int (zI 1)), some (.int (zI 1))], [.int (zI 1)], es1)) i_194_0 rfl ?_
        refine x_ifF i_194_1 (by unfold i32 iLO iHI; omega) rfl (by simp only [zC, cR]; omega) ?_
        refine x0 (r := (5, [some (.ref 143), some (.int (zI 1)), some (.int (zI 1))], [.ref 143], es1)) i_194_4 rfl ?_
        refine x0 (r := (6, [some (.ref 143), some (.int (zI 1)), some (.int (zI 1))], [.int (zI 1), .ref 143], es1)) i_194_5 rfl ?_
        refine x_puti (p := 79) (ty := .int) i_194_6 hs_es1 rfl rfl rfl (Or.inl rfl) ?_
        obtain ⟨es7, e_es7⟩ : ∃ z : PH, z = sI es1 79 0 (.int (zI 1)) := ⟨_, rfl⟩
        have hs_es7 : sh es7 := by rw [e_es7]; exact sh_sI hs_es1 (p := 79) (b := 0) rfl rfl
        have hT_es7 : hOK tT es7 := by rw [e_es7]; exact hOK_sI hT_es1 (p := 79) (b := 0) (lo := iLO) (hi := iHI) rfl rfl (i32_rng _)
        rw [← e_es7]
        refine x0 (r := (10, [some (.ref 143), some (.int (zI 1)), some (.int (zI 1))], [.int (zI 1)], es7)) i_194_9 rfl ?_
        refine x_ret (v := some (.int (zI 1))) i_194_10 rfl (fun _ => rfl) rfl rfl (pFin_b (by omega)) ?_
        show aW _ _ _ _ _ _ (44, [some (.ref 143), some (.int (zI wy)), some (.int (zI mv)), some (.int (zI sl)), some (.int (zI se)), none, none, none, none, none, none, none, none, none], [.int (zI 1)], es7)
        refine x_ifT i_274_44 (by unfold i32 iLO iHI; omega) rfl (by simp only [zC, cR]; omega) ?_
        refine x0 (r := (71, [some (.ref 143), some (.int (zI wy)), some (.int (zI mv)), some (.int (zI sl)), some (.int (zI se)), none, none, none, none, none, none, none, none, none], [.int (zI 0)], es7)) i_274_70 (by rfl) ?_
        refine x_ret (v := some (.int (zI 0))) i_274_71 rfl (fun _ => rfl) rfl rfl rfl ?_
        exact K3 es1 e_es1 c2 c4 c6 es7 e_es7
      · refine x_cmpF i_193_2 (by unfold i32 iLO iHI; omega) (by unfold i32 iLO iHI; omega) rfl (by simp only [zC, cR]; omega) ?_
        refine x0 (r := (6, [some (.int (zI mv)), some (.int (zI 1)), some (.int (zI 24))], [.int (zI mv)], es1)) i_193_5 rfl ?_
        refine x0 (r := (7, [some (.int (zI mv)), some (.int (zI 1)), some (.int (zI 24))], [.int (zI 24), .int (zI mv)], es1)) i_193_6 rfl ?_
        by_cases c8 : 24 < mv
        · refine x_cmpT i_193_7 (by unfold i32 iLO iHI; omega) (by unfold i32 iLO iHI; omega) rfl (by simp only [zC, cR]; omega) ?_
          refine x0 (r := (15, [some (.int (zI mv)), some (.int (zI 1)), some (.int (zI 24))], [.int (zI 0)], es1)) i_193_14 (by rfl) ?_
          refine x_ret (v := some (.int (zI 0))) i_193_15 rfl (fun _ => rfl) rfl rfl (pFin_b (by omega)) ?_
          show aW _ _ _ _ _ _ (22, [some (.ref 143), some (.int (zI wy)), some (.int (zI mv)), some (.int (zI sl)), some (.int (zI se)), none, none, none, none, none, none, none, none, none], [.int (zI 0), .ref 143], es1)
          refine x_ifT i_274_22 (by unfold i32 iLO iHI; omega) rfl (by simp only [zC, cR]; omega) ?_
          refine x0 (r := (36, [some (.ref 143), some (.int (zI wy)), some (.int (zI mv)), some (.int (zI sl)), some (.int (zI se)), none, none, none, none, none, none, none, none, none], [.int (zI 1), .ref 143], es1)) i_274_35 (by rfl) ?_
          refine x0 (r := (40, [some (.ref 143), some (.int (zI wy)), some (.int (zI mv)), some (.int (zI sl)), some (.int (zI se)), none, none, none, none, none, none, none, none, none], [.int (zI 1), .ref 143], es1)) i_274_36 rfl ?_
          refine x0 (r := (41, [some (.ref 143), some (.int (zI wy)), some (.int (zI mv)), some (.int (zI sl)), some (.int (zI se)), none, none, none, none, none, none, none, none, none], [.int (zI 1), .int (zI 1), .ref 143], es1)) i_274_40 (by rfl) ?_
          refine x_call (vs := [.ref 143, .int (zI 1), .int (zI 1)]) (rs := []) i_274_41 rfl (fun _ => rfl) rfl rfl rfl rfl rfl (pCall_v (p := 79) hs_es1 rfl rfl rfl rfl rfl (by decide) rfl rfl rfl rfl rfl) ?_
          show aW _ _ _ _ _ _ (0, [some (.ref 143), some (.int (zI 1)), some (.int (zI 1))], [], es1)
          refine x0 (r := (1, [some (.ref 143), some (.int (zI 1)), some (.int (zI 1))], [.int (zI 1)], es1)) i_194_0 rfl ?_
          refine x_ifF i_194_1 (by unfold i32 iLO iHI; omega) rfl (by simp only [zC, cR]; omega) ?_
          refine x0 (r := (5, [some (.ref 143), some (.int (zI 1)), some (.int (zI 1))], [.ref 143], es1)) i_194_4 rfl ?_
          refine x0 (r := (6, [some (.ref 143), some (.int (zI 1)), some (.int (zI 1))], [.int (zI 1), .ref 143], es1)) i_194_5 rfl ?_
          refine x_puti (p := 79) (ty := .int) i_194_6 hs_es1 rfl rfl rfl (Or.inl rfl) ?_
          obtain ⟨es9, e_es9⟩ : ∃ z : PH, z = sI es1 79 0 (.int (zI 1)) := ⟨_, rfl⟩
          have hs_es9 : sh es9 := by rw [e_es9]; exact sh_sI hs_es1 (p := 79) (b := 0) rfl rfl
          have hT_es9 : hOK tT es9 := by rw [e_es9]; exact hOK_sI hT_es1 (p := 79) (b := 0) (lo := iLO) (hi := iHI) rfl rfl (i32_rng _)
          rw [← e_es9]
          refine x0 (r := (10, [some (.ref 143), some (.int (zI 1)), some (.int (zI 1))], [.int (zI 1)], es9)) i_194_9 rfl ?_
          refine x_ret (v := some (.int (zI 1))) i_194_10 rfl (fun _ => rfl) rfl rfl (pFin_b (by omega)) ?_
          show aW _ _ _ _ _ _ (44, [some (.ref 143), some (.int (zI wy)), some (.int (zI mv)), some (.int (zI sl)), some (.int (zI se)), none, none, none, none, none, none, none, none, none], [.int (zI 1)], es9)
          refine x_ifT i_274_44 (by unfold i32 iLO iHI; omega) rfl (by simp only [zC, cR]; omega) ?_
          refine x0 (r := (71, [some (.ref 143), some (.int (zI wy)), some (.int (zI mv)), some (.int (zI sl)), some (.int (zI se)), none, none, none, none, none, none, none, none, none], [.int (zI 0)], es9)) i_274_70 (by rfl) ?_
          refine x_ret (v := some (.int (zI 0))) i_274_71 rfl (fun _ => rfl) rfl rfl rfl ?_
          exact K4 es1 e_es1 c2 c4 c6 c8 es9 e_es9
        · refine x_cmpF i_193_7 (by unfold i32 iLO iHI; omega) (by unfold i32 iLO iHI; omega) rfl (by simp only [zC, cR]; omega) ?_
          refine x0 (r := (11, [some (.int (zI mv)), some (.int (zI 1)), some (.int (zI 24))], [.int (zI 1)], es1)) i_193_10 (by rfl) ?_
          refine x0 (r := (15, [some (.int (zI mv)), some (.int (zI 1)), some (.int (zI 24))], [.int (zI 1)], es1)) i_193_11 rfl ?_
          refine x_ret (v := some (.int (zI 1))) i_193_15 rfl (fun _ => rfl) rfl rfl (pFin_b (by omega)) ?_
          show aW _ _ _ _ _ _ (22, [some (.ref 143), some (.int (zI wy)), some (.int (zI mv)), some (.int (zI sl)), some (.int (zI se)), none, none, none, none, none, none, none, none, none], [.int (zI 1), .ref 143], es1)
          refine x_ifF i_274_22 (by unfold i32 iLO iHI; omega) rfl (by simp only [zC, cR]; omega) ?_
          refine x0 (r := (26, [some (.ref 143), some (.int (zI wy)), some (.int (zI mv)), some (.int (zI sl)), some (.int (zI se)), none, none, none, none, none, none, none, none, none], [.int (zI sl), .ref 143], es1)) i_274_25 rfl ?_
          refine x0 (r := (27, [some (.ref 143), some (.int (zI wy)), some (.int (zI mv)), some (.int (zI sl)), some (.int (zI se)), none, none, none, none, none, none, none, none, none], [.int (zI 0), .int (zI sl), .ref 143], es1)) i_274_26 (by rfl) ?_
          refine x0 (r := (29, [some (.ref 143), some (.int (zI wy)), some (.int (zI mv)), some (.int (zI sl)), some (.int (zI se)), none, none, none, none, none, none, none, none, none], [.int (zI 9), .int (zI 0), .int (zI sl), .ref 143], es1)) i_274_27 (by rfl) ?_
          refine x_call (vs := [.int (zI sl), .int (zI 0), .int (zI 9)]) (rs := [.ref 143]) i_274_29 rfl (fun _ => rfl) rfl rfl rfl rfl rfl rfl ?_
          show aW _ _ _ _ _ _ (0, [some (.int (zI sl)), some (.int (zI 0)), some (.int (zI 9))], [], es1)
          refine x0 (r := (1, [some (.int (zI sl)), some (.int (zI 0)), some (.int (zI 9))], [.int (zI sl)], es1)) i_193_0 rfl ?_
          refine x0 (r := (2, [some (.int (zI sl)), some (.int (zI 0)), some (.int (zI 9))], [.int (zI 0), .int (zI sl)], es1)) i_193_1 rfl ?_
          by_cases c10 : sl < 0
          · refine x_cmpT i_193_2 (by unfold i32 iLO iHI; omega) (by unfold i32 iLO iHI; omega) rfl (by simp only [zC, cR]; omega) ?_
            refine x0 (r := (15, [some (.int (zI sl)), some (.int (zI 0)), some (.int (zI 9))], [.int (zI 0)], es1)) i_193_14 (by rfl) ?_
            refine x_ret (v := some (.int (zI 0))) i_193_15 rfl (fun _ => rfl) rfl rfl (pFin_b (by omega)) ?_
            show aW _ _ _ _ _ _ (32, [some (.ref 143), some (.int (zI wy)), some (.int (zI mv)), some (.int (zI sl)), some (.int (zI se)), none, none, none, none, none, none, none, none, none], [.int (zI 0), .ref 143], es1)
            refine x_ifF i_274_32 (by unfold i32 iLO iHI; omega) rfl (by simp only [zC, cR]; omega) ?_
            refine x0 (r := (36, [some (.ref 143), some (.int (zI wy)), some (.int (zI mv)), some (.int (zI sl)), some (.int (zI se)), none, none, none, none, none, none, none, none, none], [.int (zI 1), .ref 143], es1)) i_274_35 (by rfl) ?_
            refine x0 (r := (40, [some (.ref 143), some (.int (zI wy)), some (.int (zI mv)), some (.int (zI sl)), some (.int (zI se)), none, none, none, none, none, none, none, none, none], [.int (zI 1), .ref 143], es1)) i_274_36 rfl ?_
            refine x0 (r := (41, [some (.ref 143), some (.int (zI wy)), some (.int (zI mv)), some (.int (zI sl)), some (.int (zI se)), none, none, none, none, none, none, none, none, none], [.int (zI 1), .int (zI 1), .ref 143], es1)) i_274_40 (by rfl) ?_
            refine x_call (vs := [.ref 143, .int (zI 1), .int (zI 1)]) (rs := []) i_274_41 rfl (fun _ => rfl) rfl rfl rfl rfl rfl (pCall_v (p := 79) hs_es1 rfl rfl rfl rfl rfl (by decide) rfl rfl rfl rfl rfl) ?_
            show aW _ _ _ _ _ _ (0, [some (.ref 143), some (.int (zI 1)), some (.int (zI 1))], [], es1)
            refine x0 (r := (1, [some (.ref 143), some (.int (zI 1)), some (.int (zI 1))], [.int (zI 1)], es1)) i_194_0 rfl ?_
            refine x_ifF i_194_1 (by unfold i32 iLO iHI; omega) rfl (by simp only [zC, cR]; omega) ?_
            refine x0 (r := (5, [some (.ref 143), some (.int (zI 1)), some (.int (zI 1))], [.ref 143], es1)) i_194_4 rfl ?_
            refine x0 (r := (6, [some (.ref 143), some (.int (zI 1)), some (.int (zI 1))], [.int (zI 1), .ref 143], es1)) i_194_5 rfl ?_
            refine x_puti (p := 79) (ty := .int) i_194_6 hs_es1 rfl rfl rfl (Or.inl rfl) ?_
            obtain ⟨es11, e_es11⟩ : ∃ z : PH, z = sI es1 79 0 (.int (zI 1)) := ⟨_, rfl⟩
            have hs_es11 : sh es11 := by rw [e_es11]; exact sh_sI hs_es1 (p := 79) (b := 0) rfl rfl
            have hT_es11 : hOK tT es11 := by rw [e_es11]; exact hOK_sI hT_es1 (p := 79) (b := 0) (lo := iLO) (hi := iHI) rfl rfl (i32_rng _)
            rw [← e_es11]
            refine x0 (r := (10, [some (.ref 143), some (.int (zI 1)), some (.int (zI 1))], [.int (zI 1)], es11)) i_194_9 rfl ?_
            refine x_ret (v := some (.int (zI 1))) i_194_10 rfl (fun _ => rfl) rfl rfl (pFin_b (by omega)) ?_
            show aW _ _ _ _ _ _ (44, [some (.ref 143), some (.int (zI wy)), some (.int (zI mv)), some (.int (zI sl)), some (.int (zI se)), none, none, none, none, none, none, none, none, none], [.int (zI 1)], es11)
            refine x_ifT i_274_44 (by unfold i32 iLO iHI; omega) rfl (by simp only [zC, cR]; omega) ?_
            refine x0 (r := (71, [some (.ref 143), some (.int (zI wy)), some (.int (zI mv)), some (.int (zI sl)), some (.int (zI se)), none, none, none, none, none, none, none, none, none], [.int (zI 0)], es11)) i_274_70 (by rfl) ?_
            refine x_ret (v := some (.int (zI 0))) i_274_71 rfl (fun _ => rfl) rfl rfl rfl ?_
            exact K5 es1 e_es1 c2 c4 c6 c8 c10 es11 e_es11
          · refine x_cmpF i_193_2 (by unfold i32 iLO iHI; omega) (by unfold i32 iLO iHI; omega) rfl (by simp only [zC, cR]; omega) ?_
            refine x0 (r := (6, [some (.int (zI sl)), some (.int (zI 0)), some (.int (zI 9))], [.int (zI sl)], es1)) i_193_5 rfl ?_
            refine x0 (r := (7, [some (.int (zI sl)), some (.int (zI 0)), some (.int (zI 9))], [.int (zI 9), .int (zI sl)], es1)) i_193_6 rfl ?_
            by_cases c12 : 9 < sl
            · refine x_cmpT i_193_7 (by unfold i32 iLO iHI; omega) (by unfold i32 iLO iHI; omega) rfl (by simp only [zC, cR]; omega) ?_
              refine x0 (r := (15, [some (.int (zI sl)), some (.int (zI 0)), some (.int (zI 9))], [.int (zI 0)], es1)) i_193_14 (by rfl) ?_
              refine x_ret (v := some (.int (zI 0))) i_193_15 rfl (fun _ => rfl) rfl rfl (pFin_b (by omega)) ?_
              show aW _ _ _ _ _ _ (32, [some (.ref 143), some (.int (zI wy)), some (.int (zI mv)), some (.int (zI sl)), some (.int (zI se)), none, none, none, none, none, none, none, none, none], [.int (zI 0), .ref 143], es1)
              refine x_ifF i_274_32 (by unfold i32 iLO iHI; omega) rfl (by simp only [zC, cR]; omega) ?_
              refine x0 (r := (36, [some (.ref 143), some (.int (zI wy)), some (.int (zI mv)), some (.int (zI sl)), some (.int (zI se)), none, none, none, none, none, none, none, none, none], [.int (zI 1), .ref 143], es1)) i_274_35 (by rfl) ?_
              refine x0 (r := (40, [some (.ref 143), some (.int (zI wy)), some (.int (zI mv)), some (.int (zI sl)), some (.int (zI se)), none, none, none, none, none, none, none, none, none], [.int (zI 1), .ref 143], es1)) i_274_36 rfl ?_
              refine x0 (r := (41, [some (.ref 143), some (.int (zI wy)), some (.int (zI mv)), some (.int (zI sl)), some (.int (zI se)), none, none, none, none, none, none, none, none, none], [.int (zI 1), .int (zI 1), .ref 143], es1)) i_274_40 (by rfl) ?_
              refine x_call (vs := [.ref 143, .int (zI 1), .int (zI 1)]) (rs := []) i_274_41 rfl (fun _ => rfl) rfl rfl rfl rfl rfl (pCall_v (p := 79) hs_es1 rfl rfl rfl rfl rfl (by decide) rfl rfl rfl rfl rfl) ?_
              show aW _ _ _ _ _ _ (0, [some (.ref 143), some (.int (zI 1)), some (.int (zI 1))], [], es1)
              refine x0 (r := (1, [some (.ref 143), some (.int (zI 1)), some (.int (zI 1))], [.int (zI 1)], es1)) i_194_0 rfl ?_
              refine x_ifF i_194_1 (by unfold i32 iLO iHI; omega) rfl (by simp only [zC, cR]; omega) ?_
              refine x0 (r := (5, [some (.ref 143), some (.int (zI 1)), some (.int (zI 1))], [.ref 143], es1)) i_194_4 rfl ?_
              refine x0 (r := (6, [some (.ref 143), some (.int (zI 1)), some (.int (zI 1))], [.int (zI 1), .ref 143], es1)) i_194_5 rfl ?_
              refine x_puti (p := 79) (ty := .int) i_194_6 hs_es1 rfl rfl rfl (Or.inl rfl) ?_
              obtain ⟨es13, e_es13⟩ : ∃ z : PH, z = sI es1 79 0 (.int (zI 1)) := ⟨_, rfl⟩
              have hs_es13 : sh es13 := by rw [e_es13]; exact sh_sI hs_es1 (p := 79) (b := 0) rfl rfl
              have hT_es13 : hOK tT es13 := by rw [e_es13]; exact hOK_sI hT_es1 (p := 79) (b := 0) (lo := iLO) (hi := iHI) rfl rfl (i32_rng _)
              rw [← e_es13]
              refine x0 (r := (10, [some (.ref 143), some (.int (zI 1)), some (.int (zI 1))], [.int (zI 1)], es13)) i_194_9 rfl ?_
              refine x_ret (v := some (.int (zI 1))) i_194_10 rfl (fun _ => rfl) rfl rfl (pFin_b (by omega)) ?_
              show aW _ _ _ _ _ _ (44, [some (.ref 143), some (.int (zI wy)), some (.int (zI mv)), some (.int (zI sl)), some (.int (zI se)), none, none, none, none, none, none, none, none, none], [.int (zI 1)], es13)
              refine x_ifT i_274_44 (by unfold i32 iLO iHI; omega) rfl (by simp only [zC, cR]; omega) ?_
              refine x0 (r := (71, [some (.ref 143), some (.int (zI wy)), some (.int (zI mv)), some (.int (zI sl)), some (.int (zI se)), none, none, none, none, none, none, none, none, none], [.int (zI 0)], es13)) i_274_70 (by rfl) ?_
              refine x_ret (v := some (.int (zI 0))) i_274_71 rfl (fun _ => rfl) rfl rfl rfl ?_
              exact K6 es1 e_es1 c2 c4 c6 c8 c10 c12 es13 e_es13
            · refine x_cmpF i_193_7 (by unfold i32 iLO iHI; omega) (by unfold i32 iLO iHI; omega) rfl (by simp only [zC, cR]; omega) ?_
              refine x0 (r := (11, [some (.int (zI sl)), some (.int (zI 0)), some (.int (zI 9))], [.int (zI 1)], es1)) i_193_10 (by rfl) ?_
              refine x0 (r := (15, [some (.int (zI sl)), some (.int (zI 0)), some (.int (zI 9))], [.int (zI 1)], es1)) i_193_11 rfl ?_
              refine x_ret (v := some (.int (zI 1))) i_193_15 rfl (fun _ => rfl) rfl rfl (pFin_b (by omega)) ?_
              show aW _ _ _ _ _ _ (32, [some (.ref 143), some (.int (zI wy)), some (.int (zI mv)), some (.int (zI sl)), some (.int (zI se)), none, none, none, none, none, none, none, none, none], [.int (zI 1), .ref 143], es1)
              refine x_ifT i_274_32 (by unfold i32 iLO iHI; omega) rfl (by simp only [zC, cR]; omega) ?_
              refine x0 (r := (40, [some (.ref 143), some (.int (zI wy)), some (.int (zI mv)), some (.int (zI sl)), some (.int (zI se)), none, none, none, none, none, none, none, none, none], [.int (zI 0), .ref 143], es1)) i_274_39 (by rfl) ?_
              refine x0 (r := (41, [some (.ref 143), some (.int (zI wy)), some (.int (zI mv)), some (.int (zI sl)), some (.int (zI se)), none, none, none, none, none, none, none, none, none], [.int (zI 1), .int (zI 0), .ref 143], es1)) i_274_40 (by rfl) ?_
              refine x_call (vs := [.ref 143, .int (zI 0), .int (zI 1)]) (rs := []) i_274_41 rfl (fun _ => rfl) rfl rfl rfl rfl rfl (pCall_v (p := 79) hs_es1 rfl rfl rfl rfl rfl (by decide) rfl rfl rfl rfl rfl) ?_
              show aW _ _ _ _ _ _ (0, [some (.ref 143), some (.int (zI 0)), some (.int (zI 1))], [], es1)
              refine x0 (r := (1, [some (.ref 143), some (.int (zI 0)), some (.int (zI 1))], [.int (zI 0)], es1)) i_194_0 rfl ?_
              refine x_ifT i_194_1 (by unfold i32 iLO iHI; omega) rfl (by simp only [zC, cR]; omega) ?_
              refine x0 (r := (10, [some (.ref 143), some (.int (zI 0)), some (.int (zI 1))], [.int (zI 0)], es1)) i_194_9 rfl ?_
              refine x_ret (v := some (.int (zI 0))) i_194_10 rfl (fun _ => rfl) rfl rfl (pFin_b (by omega)) ?_
              show aW _ _ _ _ _ _ (44, [some (.ref 143), some (.int (zI wy)), some (.int (zI mv)), some (.int (zI sl)), some (.int (zI se)), none, none, none, none, none, none, none, none, none], [.int (zI 0)], es1)
              refine x_ifF i_274_44 (by unfold i32 iLO iHI; omega) rfl (by simp only [zC, cR]; omega) ?_
              refine x0 (r := (48, [some (.ref 143), some (.int (zI wy)), some (.int (zI mv)), some (.int (zI sl)), some (.int (zI se)), none, none, none, none, none, none, none, none, none], [.ref 143], es1)) i_274_47 rfl ?_
              refine x0 (r := (49, [some (.ref 143), some (.int (zI wy)), some (.int (zI mv)), some (.int (zI sl)), some (.int (zI se)), none, none, none, none, none, none, none, none, none], [.ref 143, .ref 143], es1)) i_274_48 rfl ?_
              refine x_getr (p := 79) (k := 144) i_274_49 hs_es1 rfl rfl ?_
              show aW _ _ _ _ _ _ (52, [some (.ref 143), some (.int (zI wy)), some (.int (zI mv)), some (.int (zI sl)), some (.int (zI se)), none, none, none, none, none, none, none, none, none], [.ref 144, .ref 143], es1)
              refine x0 (r := (53, [some (.ref 143), some (.int (zI wy)), some (.int (zI mv)), some (.int (zI sl)), some (.int (zI se)), none, none, none, none, none, none, none, none, none], [.int (zI 1), .ref 144, .ref 143], es1)) i_274_52 (by rfl) ?_
              refine x_iald (p := 80) i_274_53 hs_es1 rfl (by unfold i32 iLO iHI; omega) (by omega) (by omega) ?_
              obtain ⟨v14, e_v14⟩ : ∃ z : Int, z = (gA es1 80 (Int.toNat 1)).toInt := ⟨_, rfl⟩
              rw [← e_v14]
              have r_v14 : iLO ≤ v14 ∧ v14 ≤ iHI := by rw [e_v14]; exact i32_rng _
              unfold iLO iHI at r_v14
              have b_v14 : (0 : Int) ≤ v14 ∧ v14 ≤ (3 : Int) := by rw [e_v14]; exact gA_bd hT_es1 (p := 80) (k := (Int.toNat 1)) rfl (by omega) (by decide)
              refine x0 (r := (55, [some (.ref 143), some (.int (zI wy)), some (.int (zI mv)), some (.int (zI sl)), some (.int (zI se)), none, none, none, none, none, none, none, none, none], [.int (zI 3), .int (zI v14), .ref 143], es1)) i_274_54 (by rfl) ?_
              by_cases c15 : v14 ≠ 3
              · refine x_cmpT i_274_55 (by unfold i32 iLO iHI; omega) (by unfold i32 iLO iHI; omega) rfl (by simp only [zC, cR]; omega) ?_
                refine x0 (r := (63, [some (.ref 143), some (.int (zI wy)), some (.int (zI mv)), some (.int (zI sl)), some (.int (zI se)), none, none, none, none, none, none, none, none, none], [.int (zI 0), .ref 143], es1)) i_274_62 (by rfl) ?_
                refine x0 (r := (64, [some (.ref 143), some (.int (zI wy)), some (.int (zI mv)), some (.int (zI sl)), some (.int (zI se)), none, none, none, none, none, none, none, none, none], [.int (zI 2), .int (zI 0), .ref 143], es1)) i_274_63 (by rfl) ?_
                refine x_call (vs := [.ref 143, .int (zI 0), .int (zI 2)]) (rs := []) i_274_64 rfl (fun _ => rfl) rfl rfl rfl rfl rfl (pCall_v (p := 79) hs_es1 rfl rfl rfl rfl rfl (by decide) rfl rfl rfl rfl rfl) ?_
                show aW _ _ _ _ _ _ (0, [some (.ref 143), some (.int (zI 0)), some (.int (zI 2))], [], es1)
                refine x0 (r := (1, [some (.ref 143), some (.int (zI 0)), some (.int (zI 2))], [.int (zI 0)], es1)) i_194_0 rfl ?_
                refine x_ifT i_194_1 (by unfold i32 iLO iHI; omega) rfl (by simp only [zC, cR]; omega) ?_
                refine x0 (r := (10, [some (.ref 143), some (.int (zI 0)), some (.int (zI 2))], [.int (zI 0)], es1)) i_194_9 rfl ?_
                refine x_ret (v := some (.int (zI 0))) i_194_10 rfl (fun _ => rfl) rfl rfl (pFin_b (by omega)) ?_
                show aW _ _ _ _ _ _ (67, [some (.ref 143), some (.int (zI wy)), some (.int (zI mv)), some (.int (zI sl)), some (.int (zI se)), none, none, none, none, none, none, none, none, none], [.int (zI 0)], es1)
                refine x_ifT i_274_67 (by unfold i32 iLO iHI; omega) rfl (by simp only [zC, cR]; omega) ?_
                refine x0 (r := (73, [some (.ref 143), some (.int (zI wy)), some (.int (zI mv)), some (.int (zI sl)), some (.int (zI se)), none, none, none, none, none, none, none, none, none], [.ref 143], es1)) i_274_72 rfl ?_
                refine x_getr (p := 79) (k := 144) i_274_73 hs_es1 rfl rfl ?_
                show aW _ _ _ _ _ _ (76, [some (.ref 143), some (.int (zI wy)), some (.int (zI mv)), some (.int (zI sl)), some (.int (zI se)), none, none, none, none, none, none, none, none, none], [.ref 144], es1)
                refine x0 (r := (77, [some (.ref 143), some (.int (zI wy)), some (.int (zI mv)), some (.int (zI sl)), some (.int (zI se)), none, none, none, none, none, none, none, none, none], [.int (zI 1), .ref 144], es1)) i_274_76 (by rfl) ?_
                refine x_iald (p := 80) i_274_77 hs_es1 rfl (by unfold i32 iLO iHI; omega) (by omega) (by omega) ?_
                obtain ⟨v16, e_v16⟩ : ∃ z : Int, z = (gA es1 80 (Int.toNat 1)).toInt := ⟨_, rfl⟩
                rw [← e_v16]
                have r_v16 : iLO ≤ v16 ∧ v16 ≤ iHI := by rw [e_v16]; exact i32_rng _
                unfold iLO iHI at r_v16
                have b_v16 : (0 : Int) ≤ v16 ∧ v16 ≤ (3 : Int) := by rw [e_v16]; exact gA_bd hT_es1 (p := 80) (k := (Int.toNat 1)) rfl (by omega) (by decide)
                refine x0 (r := (80, [some (.ref 143), some (.int (zI wy)), some (.int (zI mv)), some (.int (zI sl)), some (.int (zI se)), some (.int (zI v16)), none, none, none, none, none, none, none, none], [], es1)) i_274_78 rfl ?_
                refine x0 (r := (81, [some (.ref 143), some (.int (zI wy)), some (.int (zI mv)), some (.int (zI sl)), some (.int (zI se)), some (.int (zI v16)), none, none, none, none, none, none, none, none], [.ref 143], es1)) i_274_80 rfl ?_
                refine x_getr (p := 79) (k := 144) i_274_81 hs_es1 rfl rfl ?_
                show aW _ _ _ _ _ _ (84, [some (.ref 143), some (.int (zI wy)), some (.int (zI mv)), some (.int (zI sl)), some (.int (zI se)), some (.int (zI v16)), none, none, none, none, none, none, none, none], [.ref 144], es1)
                refine x0 (r := (86, [some (.ref 143), some (.int (zI wy)), some (.int (zI mv)), some (.int (zI sl)), some (.int (zI se)), some (.int (zI v16)), none, none, none, none, none, none, none, none], [.int (zI 119), .ref 144], es1)) i_274_84 (by rfl) ?_
                refine x0 (r := (88, [some (.ref 143), some (.int (zI wy)), some (.int (zI mv)), some (.int (zI sl)), some (.int (zI se)), some (.int (zI v16)), none, none, none, none, none, none, none, none], [.int (zI 98), .int (zI 119), .ref 144], es1)) i_274_86 (by rfl) ?_
                refine x0 (r := (90, [some (.ref 143), some (.int (zI wy)), some (.int (zI mv)), some (.int (zI sl)), some (.int (zI se)), some (.int (zI v16)), none, none, none, none, none, none, none, none], [.int (zI v16), .int (zI 98), .int (zI 119), .ref 144], es1)) i_274_88 rfl ?_
                refine x_imul i_274_90 ?_
                refine x_iadd i_274_91 ?_
                refine x0 (r := (93, [some (.ref 143), some (.int (zI wy)), some (.int (zI mv)), some (.int (zI sl)), some (.int (zI se)), some (.int (zI v16)), none, none, none, none, none, none, none, none], [.int (zI wy), .int (zI (119 + (98 * v16))), .ref 144], es1)) i_274_92 rfl ?_
                refine x_iast (p := 80) i_274_93 hs_es1 rfl (by unfold i32 iLO iHI; omega) (by omega) (by omega) ?_
                obtain ⟨es17, e_es17⟩ : ∃ z : PH, z = sA es1 80 (119 + (98 * v16)).toNat (zI wy) := ⟨_, rfl⟩
                have hs_es17 : sh es17 := by rw [e_es17]; exact sh_sA hs_es1
                rw [← e_es17]
                refine x0 (r := (95, [some (.ref 143), some (.int (zI wy)), some (.int (zI mv)), some (.int (zI sl)), some (.int (zI se)), some (.int (zI v16)), none, none, none, none, none, none, none, none], [.ref 143], es17)) i_274_94 rfl ?_
                refine x_getr (p := 79) (k := 144) i_274_95 hs_es17 rfl rfl ?_
                show aW _ _ _ _ _ _ (98, [some (.ref 143), some (.int (zI wy)), some (.int (zI mv)), some (.int (zI sl)), some (.int (zI se)), some (.int (zI v16)), none, none, none, none, none, none, none, none], [.ref 144], es17)
                refine x0 (r := (100, [some (.ref 143), some (.int (zI wy)), some (.int (zI mv)), some (.int (zI sl)), some (.int (zI se)), some (.int (zI v16)), none, none, none, none, none, none, none, none], [.int (zI 119), .ref 144], es17)) i_274_98 (by rfl) ?_
                refine x0 (r := (102, [some (.ref 143), some (.int (zI wy)), some (.int (zI mv)), some (.int (zI sl)), some (.int (zI se)), some (.int (zI v16)), none, none, none, none, none, none, none, none], [.int (zI 98), .int (zI 119), .ref 144], es17)) i_274_100 (by rfl) ?_
                refine x0 (r := (104, [some (.ref 143), some (.int (zI wy)), some (.int (zI mv)), some (.int (zI sl)), some (.int (zI se)), some (.int (zI v16)), none, none, none, none, none, none, none, none], [.int (zI v16), .int (zI 98), .int (zI 119), .ref 144], es17)) i_274_102 rfl ?_
                refine x_imul i_274_104 ?_
                refine x_iadd i_274_105 ?_
                refine x0 (r := (107, [some (.ref 143), some (.int (zI wy)), some (.int (zI mv)), some (.int (zI sl)), some (.int (zI se)), some (.int (zI v16)), none, none, none, none, none, none, none, none], [.int (zI 1), .int (zI (119 + (98 * v16))), .ref 144], es17)) i_274_106 (by rfl) ?_
                refine x_iadd i_274_107 ?_
                refine x0 (r := (109, [some (.ref 143), some (.int (zI wy)), some (.int (zI mv)), some (.int (zI sl)), some (.int (zI se)), some (.int (zI v16)), none, none, none, none, none, none, none, none], [.int (zI 0), .int (zI ((119 + (98 * v16)) + 1)), .ref 144], es17)) i_274_108 (by rfl) ?_
                refine x_iast (p := 80) i_274_109 hs_es17 rfl (by unfold i32 iLO iHI; omega) (by omega) (by omega) ?_
                obtain ⟨es18, e_es18⟩ : ∃ z : PH, z = sA es17 80 ((119 + (98 * v16)) + 1).toNat (zI 0) := ⟨_, rfl⟩
                have hs_es18 : sh es18 := by rw [e_es18]; exact sh_sA hs_es17
                rw [← e_es18]
                refine x0 (r := (111, [some (.ref 143), some (.int (zI wy)), some (.int (zI mv)), some (.int (zI sl)), some (.int (zI se)), some (.int (zI v16)), none, none, none, none, none, none, none, none], [.ref 143], es18)) i_274_110 rfl ?_
                refine x_getr (p := 79) (k := 144) i_274_111 hs_es18 rfl rfl ?_
                show aW _ _ _ _ _ _ (114, [some (.ref 143), some (.int (zI wy)), some (.int (zI mv)), some (.int (zI sl)), some (.int (zI se)), some (.int (zI v16)), none, none, none, none, none, none, none, none], [.ref 144], es18)
                refine x0 (r := (115, [some (.ref 143), some (.int (zI wy)), some (.int (zI mv)), some (.int (zI sl)), some (.int (zI se)), some (.int (zI v16)), none, none, none, none, none, none, none, none], [.int (zI 1), .ref 144], es18)) i_274_114 (by rfl) ?_
                refine x0 (r := (116, [some (.ref 143), some (.int (zI wy)), some (.int (zI mv)), some (.int (zI sl)), some (.int (zI se)), some (.int (zI v16)), none, none, none, none, none, none, none, none], [.int (zI 1), .ref 144, .int (zI 1), .ref 144], es18)) i_274_115 rfl ?_
                refine x_iald (p := 80) i_274_116 hs_es18 rfl (by unfold i32 iLO iHI; omega) (by omega) (by omega) ?_
                obtain ⟨v19, e_v19⟩ : ∃ z : Int, z = (gA es18 80 (Int.toNat 1)).toInt := ⟨_, rfl⟩
                rw [← e_v19]
                have r_v19 : iLO ≤ v19 ∧ v19 ≤ iHI := by rw [e_v19]; exact i32_rng _
                unfold iLO iHI at r_v19
                refine x0 (r := (118, [some (.ref 143), some (.int (zI wy)), some (.int (zI mv)), some (.int (zI sl)), some (.int (zI se)), some (.int (zI v16)), none, none, none, none, none, none, none, none], [.int (zI 1), .int (zI v19), .int (zI 1), .ref 144], es18)) i_274_117 (by rfl) ?_
                refine x_iadd i_274_118 ?_
                refine x_iast (p := 80) i_274_119 hs_es18 rfl (by unfold i32 iLO iHI; omega) (by omega) (by omega) ?_
                obtain ⟨es20, e_es20⟩ : ∃ z : PH, z = sA es18 80 (Int.toNat 1) (zI (v19 + 1)) := ⟨_, rfl⟩
                have hs_es20 : sh es20 := by rw [e_es20]; exact sh_sA hs_es18
                rw [← e_es20]
                refine x0 (r := (121, [some (.ref 143), some (.int (zI wy)), some (.int (zI mv)), some (.int (zI sl)), some (.int (zI se)), some (.int (zI v16)), none, none, none, none, none, none, none, none], [.ref 143], es20)) i_274_120 rfl ?_
                refine x0 (r := (123, [some (.ref 143), some (.int (zI wy)), some (.int (zI mv)), some (.int (zI sl)), some (.int (zI se)), some (.int (zI v16)), none, none, none, none, none, none, none, none], [.int (zI se), .ref 143], es20)) i_274_121 rfl ?_
                refine x_puti (p := 79) (ty := .int) i_274_123 hs_es20 rfl rfl rfl (Or.inl rfl) ?_
                obtain ⟨es21, e_es21⟩ : ∃ z : PH, z = sI es20 79 51 (.int (zI se)) := ⟨_, rfl⟩
                have hs_es21 : sh es21 := by rw [e_es21]; exact sh_sI hs_es20 (p := 79) (b := 51) rfl rfl
                rw [← e_es21]
                refine x0 (r := (127, [some (.ref 143), some (.int (zI wy)), some (.int (zI mv)), some (.int (zI sl)), some (.int (zI se)), some (.int (zI v16)), none, none, none, none, none, none, none, none], [.ref 143], es21)) i_274_126 rfl ?_
                exact K7 es1 e_es1 c2 c4 c6 c8 c10 c12 v14 e_v14 c15 v16 e_v16 es17 e_es17 es18 e_es18 v19 e_v19 es20 e_es20 es21 e_es21
              · refine x_cmpF i_274_55 (by unfold i32 iLO iHI; omega) (by unfold i32 iLO iHI; omega) rfl (by simp only [zC, cR]; omega) ?_
                refine x0 (r := (59, [some (.ref 143), some (.int (zI wy)), some (.int (zI mv)), some (.int (zI sl)), some (.int (zI se)), none, none, none, none, none, none, none, none, none], [.int (zI 1), .ref 143], es1)) i_274_58 (by rfl) ?_
                refine x0 (r := (63, [some (.ref 143), some (.int (zI wy)), some (.int (zI mv)), some (.int (zI sl)), some (.int (zI se)), none, none, none, none, none, none, none, none, none], [.int (zI 1), .ref 143], es1)) i_274_59 rfl ?_
                refine x0 (r := (64, [some (.ref 143), some (.int (zI wy)), some (.int (zI mv)), some (.int (zI sl)), some (.int (zI se)), none, none, none, none, none, none, none, none, none], [.int (zI 2), .int (zI 1), .ref 143], es1)) i_274_63 (by rfl) ?_
                refine x_call (vs := [.ref 143, .int (zI 1), .int (zI 2)]) (rs := []) i_274_64 rfl (fun _ => rfl) rfl rfl rfl rfl rfl (pCall_v (p := 79) hs_es1 rfl rfl rfl rfl rfl (by decide) rfl rfl rfl rfl rfl) ?_
                show aW _ _ _ _ _ _ (0, [some (.ref 143), some (.int (zI 1)), some (.int (zI 2))], [], es1)
                refine x0 (r := (1, [some (.ref 143), some (.int (zI 1)), some (.int (zI 2))], [.int (zI 1)], es1)) i_194_0 rfl ?_
                refine x_ifF i_194_1 (by unfold i32 iLO iHI; omega) rfl (by simp only [zC, cR]; omega) ?_
                refine x0 (r := (5, [some (.ref 143), some (.int (zI 1)), some (.int (zI 2))], [.ref 143], es1)) i_194_4 rfl ?_
                refine x0 (r := (6, [some (.ref 143), some (.int (zI 1)), some (.int (zI 2))], [.int (zI 2), .ref 143], es1)) i_194_5 rfl ?_
                refine x_puti (p := 79) (ty := .int) i_194_6 hs_es1 rfl rfl rfl (Or.inl rfl) ?_
                obtain ⟨es22, e_es22⟩ : ∃ z : PH, z = sI es1 79 0 (.int (zI 2)) := ⟨_, rfl⟩
                have hs_es22 : sh es22 := by rw [e_es22]; exact sh_sI hs_es1 (p := 79) (b := 0) rfl rfl
                have hT_es22 : hOK tT es22 := by rw [e_es22]; exact hOK_sI hT_es1 (p := 79) (b := 0) (lo := iLO) (hi := iHI) rfl rfl (i32_rng _)
                rw [← e_es22]
                refine x0 (r := (10, [some (.ref 143), some (.int (zI 1)), some (.int (zI 2))], [.int (zI 1)], es22)) i_194_9 rfl ?_
                refine x_ret (v := some (.int (zI 1))) i_194_10 rfl (fun _ => rfl) rfl rfl (pFin_b (by omega)) ?_
                show aW _ _ _ _ _ _ (67, [some (.ref 143), some (.int (zI wy)), some (.int (zI mv)), some (.int (zI sl)), some (.int (zI se)), none, none, none, none, none, none, none, none, none], [.int (zI 1)], es22)
                refine x_ifF i_274_67 (by unfold i32 iLO iHI; omega) rfl (by simp only [zC, cR]; omega) ?_
                refine x0 (r := (71, [some (.ref 143), some (.int (zI wy)), some (.int (zI mv)), some (.int (zI sl)), some (.int (zI se)), none, none, none, none, none, none, none, none, none], [.int (zI 0)], es22)) i_274_70 (by rfl) ?_
                refine x_ret (v := some (.int (zI 0))) i_274_71 rfl (fun _ => rfl) rfl rfl rfl ?_
                exact K8 es1 e_es1 c2 c4 c6 c8 c10 c12 v14 e_v14 c15 es22 e_es22

theorem s_write130 {O : pOut} {d kc ks : Nat} {Q : pRes → Prop} {es : PH} {wy mv sl se b : Int} (hs_es : sh es) (h1 : 1 ≤ mv ∧ mv ≤ 24)
    (K1 : mv ≤ 0 → Q (.inl (some (.int (zI b))), es, kc, ks))
    (K2 : ¬ (mv ≤ 0) → aW O d 274 kc ks Q (146, [some (.ref 143), some (.int (zI wy)), some (.int (zI mv)), some (.int (zI sl)), some (.int (zI se)), some (.int (zI b)), some (.int (zI 0)), none, none, none, none, none, none, none], [.int (zI (0 % 2)), .int (zI 0), .ref 143], es)) :
    aW O d 274 kc ks Q (130, [some (.ref 143), some (.int (zI wy)), some (.int (zI mv)), some (.int (zI sl)), some (.int (zI se)), some (.int (zI b)), none, none, none, none, none, none, none, none], [], es) := by
  refine x0 (r := (131, [some (.ref 143), some (.int (zI wy)), some (.int (zI mv)), some (.int (zI sl)), some (.int (zI se)), some (.int (zI b)), none, none, none, none, none, none, none, none], [.int (zI 0)], es)) i_274_130 (by rfl) ?_
  refine x0 (r := (133, [some (.ref 143), some (.int (zI wy)), some (.int (zI mv)), some (.int (zI sl)), some (.int (zI se)), some (.int (zI b)), some (.int (zI 0)), none, none, none, none, none, none, none], [], es)) i_274_131 rfl ?_
  refine x0 (r := (135, [some (.ref 143), some (.int (zI wy)), some (.int (zI mv)), some (.int (zI sl)), some (.int (zI se)), some (.int (zI b)), some (.int (zI 0)), none, none, none, none, none, none, none], [.int (zI 0)], es)) i_274_133 rfl ?_
  refine x0 (r := (136, [some (.ref 143), some (.int (zI wy)), some (.int (zI mv)), some (.int (zI sl)), some (.int (zI se)), some (.int (zI b)), some (.int (zI 0)), none, none, none, none, none, none, none], [.int (zI mv), .int (zI 0)], es)) i_274_135 rfl ?_
  by_cases c1 : mv ≤ 0
  · refine x_cmpT i_274_136 (by unfold i32 iLO iHI; omega) (by unfold i32 iLO iHI; omega) rfl (by simp only [zC, cR]; omega) ?_
    refine x0 (r := (356, [some (.ref 143), some (.int (zI wy)), some (.int (zI mv)), some (.int (zI sl)), some (.int (zI se)), some (.int (zI b)), some (.int (zI 0)), none, none, none, none, none, none, none], [.int (zI b)], es)) i_274_354 rfl ?_
    refine x_ret (v := some (.int (zI b))) i_274_356 rfl (fun _ => rfl) rfl rfl rfl ?_
    exact K1 c1
  · refine x_cmpF i_274_136 (by unfold i32 iLO iHI; omega) (by unfold i32 iLO iHI; omega) rfl (by simp only [zC, cR]; omega) ?_
    refine x0 (r := (140, [some (.ref 143), some (.int (zI wy)), some (.int (zI mv)), some (.int (zI sl)), some (.int (zI se)), some (.int (zI b)), some (.int (zI 0)), none, none, none, none, none, none, none], [.ref 143], es)) i_274_139 rfl ?_
    refine x0 (r := (142, [some (.ref 143), some (.int (zI wy)), some (.int (zI mv)), some (.int (zI sl)), some (.int (zI se)), some (.int (zI b)), some (.int (zI 0)), none, none, none, none, none, none, none], [.int (zI 0), .ref 143], es)) i_274_140 rfl ?_
    refine x0 (r := (144, [some (.ref 143), some (.int (zI wy)), some (.int (zI mv)), some (.int (zI sl)), some (.int (zI se)), some (.int (zI b)), some (.int (zI 0)), none, none, none, none, none, none, none], [.int (zI 0), .int (zI 0), .ref 143], es)) i_274_142 rfl ?_
    refine x0 (r := (145, [some (.ref 143), some (.int (zI wy)), some (.int (zI mv)), some (.int (zI sl)), some (.int (zI se)), some (.int (zI b)), some (.int (zI 0)), none, none, none, none, none, none, none], [.int (zI 2), .int (zI 0), .int (zI 0), .ref 143], es)) i_274_144 (by rfl) ?_
    refine x_iremn i_274_145 (by omega) (by unfold i32 iLO iHI; omega) (by unfold i32 iLO iHI; omega) (by omega) ?_
    exact K2 c1

theorem s_write149 {O : pOut} {d kc ks : Nat} {Q : pRes → Prop} {es : PH} {wy mv sl se b : Int} (hs_es : sh es)
    (K1 : aW O d 274 kc ks Q (152, [some (.ref 143), some (.int (zI wy)), some (.int (zI mv)), some (.int (zI sl)), some (.int (zI se)), some (.int (zI b)), some (.int (zI 0)), none, none, none, none, none, none, none], [.int (zI 0), .ref 143], es)) :
    aW O d 274 kc ks Q (149, [some (.ref 143), some (.int (zI wy)), some (.int (zI mv)), some (.int (zI sl)), some (.int (zI se)), some (.int (zI b)), some (.int (zI 0)), none, none, none, none, none, none, none], [], es) := by
  refine x0 (r := (150, [some (.ref 143), some (.int (zI wy)), some (.int (zI mv)), some (.int (zI sl)), some (.int (zI se)), some (.int (zI b)), some (.int (zI 0)), none, none, none, none, none, none, none], [.ref 143], es)) i_274_149 rfl ?_
  refine x0 (r := (152, [some (.ref 143), some (.int (zI wy)), some (.int (zI mv)), some (.int (zI sl)), some (.int (zI se)), some (.int (zI b)), some (.int (zI 0)), none, none, none, none, none, none, none], [.int (zI 0), .ref 143], es)) i_274_150 rfl ?_
  exact K1

theorem s_write155 {O : pOut} {d kc ks : Nat} {Q : pRes → Prop} {es : PH} {wy mv sl se b : Int} (hs_es : sh es)
    (K1 : Q (.inl (some (.int (zI b))), es, kc, ks)) :
    aW O d 274 kc ks Q (155, [some (.ref 143), some (.int (zI wy)), some (.int (zI mv)), some (.int (zI sl)), some (.int (zI se)), some (.int (zI b)), some (.int (zI 0)), none, none, none, none, none, none, none], [.int (zI 0)], es) := by
  refine x0 (r := (157, [some (.ref 143), some (.int (zI wy)), some (.int (zI mv)), some (.int (zI sl)), some (.int (zI se)), some (.int (zI b)), some (.int (zI 0)), some (.int (zI 0)), none, none, none, none, none, none], [], es)) i_274_155 rfl ?_
  refine x0 (r := (159, [some (.ref 143), some (.int (zI wy)), some (.int (zI mv)), some (.int (zI sl)), some (.int (zI se)), some (.int (zI b)), some (.int (zI 0)), some (.int (zI 0)), none, none, none, none, none, none], [.int (zI 0)], es)) i_274_157 rfl ?_
  refine x_ifF i_274_159 (by unfold i32 iLO iHI; omega) rfl (by simp only [zC, cR]; omega) ?_
  refine x0 (r := (164, [some (.ref 143), some (.int (zI wy)), some (.int (zI mv)), some (.int (zI sl)), some (.int (zI se)), some (.int (zI b)), some (.int (zI 0)), some (.int (zI 0)), none, none, none, none, none, none], [.int (zI b)], es)) i_274_162 rfl ?_
  refine x_ret (v := some (.int (zI b))) i_274_164 rfl (fun _ => rfl) rfl rfl rfl ?_
  exact K1
