theorem i_48_0 : iRow 48 0 = some (.iload_n 0, 0, 0, 0, (some (Jvm.ClassFile.FieldType.boolean))) := rfl
theorem i_48_1 : iRow 48 1 = some (.ifCond .le 16, 0, 0, 0, (some (Jvm.ClassFile.FieldType.boolean))) := rfl
theorem i_48_4 : iRow 48 4 = some (.iload_n 0, 0, 0, 0, (some (Jvm.ClassFile.FieldType.boolean))) := rfl
theorem i_48_5 : iRow 48 5 = some (.iconst 1, 0, 0, 0, (some (Jvm.ClassFile.FieldType.boolean))) := rfl
theorem i_48_6 : iRow 48 6 = some (.isub, 0, 0, 0, (some (Jvm.ClassFile.FieldType.boolean))) := rfl
theorem i_48_7 : iRow 48 7 = some (.iconst 1, 0, 0, 0, (some (Jvm.ClassFile.FieldType.boolean))) := rfl
theorem i_48_8 : iRow 48 8 = some (.iand, 0, 0, 0, (some (Jvm.ClassFile.FieldType.boolean))) := rfl
theorem i_48_9 : iRow 48 9 = some (.iload_n 1, 0, 0, 0, (some (Jvm.ClassFile.FieldType.boolean))) := rfl
theorem i_48_10 : iRow 48 10 = some (.if_icmp .ne 7, 0, 0, 0, (some (Jvm.ClassFile.FieldType.boolean))) := rfl
theorem i_48_13 : iRow 48 13 = some (.iconst 1, 0, 0, 0, (some (Jvm.ClassFile.FieldType.boolean))) := rfl
theorem i_48_14 : iRow 48 14 = some (.goto 4, 0, 0, 0, (some (Jvm.ClassFile.FieldType.boolean))) := rfl
theorem i_48_17 : iRow 48 17 = some (.iconst 0, 0, 0, 0, (some (Jvm.ClassFile.FieldType.boolean))) := rfl
theorem i_48_18 : iRow 48 18 = some (.ireturn, 0, 0, 0, (some (Jvm.ClassFile.FieldType.boolean))) := rfl
theorem i_51_42 : iRow 51 42 = some (.iload 12, 0, 0, 0, (some (Jvm.ClassFile.FieldType.long))) := rfl
theorem i_51_44 : iRow 51 44 = some (.iload_n 2, 0, 0, 0, (some (Jvm.ClassFile.FieldType.long))) := rfl
theorem i_51_45 : iRow 51 45 = some (.if_icmp .ge 127, 0, 0, 0, (some (Jvm.ClassFile.FieldType.long))) := rfl
theorem i_51_48 : iRow 51 48 = some (.iload 11, 0, 0, 0, (some (Jvm.ClassFile.FieldType.long))) := rfl
theorem i_51_50 : iRow 51 50 = some (.ifCond .ne 122, 0, 0, 0, (some (Jvm.ClassFile.FieldType.long))) := rfl
theorem i_51_53 : iRow 51 53 = some (.iload 9, 0, 0, 0, (some (Jvm.ClassFile.FieldType.long))) := rfl
theorem i_51_55 : iRow 51 55 = some (.aload 5, 0, 0, 0, (some (Jvm.ClassFile.FieldType.long))) := rfl
theorem i_51_57 : iRow 51 57 = some (.iload 8, 0, 0, 0, (some (Jvm.ClassFile.FieldType.long))) := rfl
theorem i_51_59 : iRow 51 59 = some (.iaload, 0, 0, 0, (some (Jvm.ClassFile.FieldType.long))) := rfl
theorem i_51_60 : iRow 51 60 = some (.iadd, 0, 0, 0, (some (Jvm.ClassFile.FieldType.long))) := rfl
theorem i_51_61 : iRow 51 61 = some (.istore 9, 0, 0, 0, (some (Jvm.ClassFile.FieldType.long))) := rfl
theorem i_51_63 : iRow 51 63 = some (.iload 10, 0, 0, 0, (some (Jvm.ClassFile.FieldType.long))) := rfl
theorem i_51_65 : iRow 51 65 = some (.aload 5, 0, 0, 0, (some (Jvm.ClassFile.FieldType.long))) := rfl
theorem i_51_67 : iRow 51 67 = some (.iload 8, 0, 0, 0, (some (Jvm.ClassFile.FieldType.long))) := rfl
theorem i_51_69 : iRow 51 69 = some (.iconst 1, 0, 0, 0, (some (Jvm.ClassFile.FieldType.long))) := rfl
theorem i_51_70 : iRow 51 70 = some (.iadd, 0, 0, 0, (some (Jvm.ClassFile.FieldType.long))) := rfl
theorem i_51_71 : iRow 51 71 = some (.iaload, 0, 0, 0, (some (Jvm.ClassFile.FieldType.long))) := rfl
theorem i_51_72 : iRow 51 72 = some (.iadd, 0, 0, 0, (some (Jvm.ClassFile.FieldType.long))) := rfl
theorem i_51_73 : iRow 51 73 = some (.istore 10, 0, 0, 0, (some (Jvm.ClassFile.FieldType.long))) := rfl
theorem i_51_75 : iRow 51 75 = some (.iload 9, 0, 0, 0, (some (Jvm.ClassFile.FieldType.long))) := rfl
theorem i_51_77 : iRow 51 77 = some (.ifCond .lt 95, 0, 0, 0, (some (Jvm.ClassFile.FieldType.long))) := rfl
theorem i_51_80 : iRow 51 80 = some (.iload 9, 0, 0, 0, (some (Jvm.ClassFile.FieldType.long))) := rfl
theorem i_51_82 : iRow 51 82 = some (.bipush 6, 0, 0, 0, (some (Jvm.ClassFile.FieldType.long))) := rfl
theorem i_51_84 : iRow 51 84 = some (.if_icmp .ge 88, 0, 0, 0, (some (Jvm.ClassFile.FieldType.long))) := rfl
theorem i_51_87 : iRow 51 87 = some (.iload 10, 0, 0, 0, (some (Jvm.ClassFile.FieldType.long))) := rfl
theorem i_51_89 : iRow 51 89 = some (.ifCond .lt 83, 0, 0, 0, (some (Jvm.ClassFile.FieldType.long))) := rfl
theorem i_51_92 : iRow 51 92 = some (.iload 10, 0, 0, 0, (some (Jvm.ClassFile.FieldType.long))) := rfl
theorem i_51_94 : iRow 51 94 = some (.bipush 6, 0, 0, 0, (some (Jvm.ClassFile.FieldType.long))) := rfl
theorem i_51_96 : iRow 51 96 = some (.if_icmp .lt 6, 0, 0, 0, (some (Jvm.ClassFile.FieldType.long))) := rfl
theorem i_51_99 : iRow 51 99 = some (.goto 73, 0, 0, 0, (some (Jvm.ClassFile.FieldType.long))) := rfl
theorem i_51_102 : iRow 51 102 = some (.aload_n 0, 0, 0, 0, (some (Jvm.ClassFile.FieldType.long))) := rfl
theorem i_51_103 : iRow 51 103 = some (.getfield 9, 54, 0, 1, (some (Jvm.ClassFile.FieldType.long))) := rfl
theorem i_51_106 : iRow 51 106 = some (.bipush 6, 0, 0, 0, (some (Jvm.ClassFile.FieldType.long))) := rfl
theorem i_51_108 : iRow 51 108 = some (.iload 9, 0, 0, 0, (some (Jvm.ClassFile.FieldType.long))) := rfl
theorem i_51_110 : iRow 51 110 = some (.imul, 0, 0, 0, (some (Jvm.ClassFile.FieldType.long))) := rfl
theorem i_51_111 : iRow 51 111 = some (.iload 10, 0, 0, 0, (some (Jvm.ClassFile.FieldType.long))) := rfl
theorem i_51_113 : iRow 51 113 = some (.iadd, 0, 0, 0, (some (Jvm.ClassFile.FieldType.long))) := rfl
theorem i_51_114 : iRow 51 114 = some (.invokestatic 28, 16, 28, 3, (some (Jvm.ClassFile.FieldType.long))) := rfl
theorem i_51_117 : iRow 51 117 = some (.istore 11, 0, 0, 0, (some (Jvm.ClassFile.FieldType.long))) := rfl
theorem i_51_119 : iRow 51 119 = some (.iload 11, 0, 0, 0, (some (Jvm.ClassFile.FieldType.long))) := rfl
theorem i_51_121 : iRow 51 121 = some (.ifCond .ne 12, 0, 0, 0, (some (Jvm.ClassFile.FieldType.long))) := rfl
theorem i_51_124 : iRow 51 124 = some (.iload_n 1, 0, 0, 0, (some (Jvm.ClassFile.FieldType.long))) := rfl
theorem i_51_125 : iRow 51 125 = some (.bipush (-16), 0, 0, 0, (some (Jvm.ClassFile.FieldType.long))) := rfl
theorem i_51_127 : iRow 51 127 = some (.if_icmp .eq 39, 0, 0, 0, (some (Jvm.ClassFile.FieldType.long))) := rfl
theorem i_51_130 : iRow 51 130 = some (.goto 21, 0, 0, 0, (some (Jvm.ClassFile.FieldType.long))) := rfl
theorem i_51_133 : iRow 51 133 = some (.iload_n 1, 0, 0, 0, (some (Jvm.ClassFile.FieldType.long))) := rfl
theorem i_51_134 : iRow 51 134 = some (.bipush (-14), 0, 0, 0, (some (Jvm.ClassFile.FieldType.long))) := rfl
theorem i_51_136 : iRow 51 136 = some (.if_icmp .eq 30, 0, 0, 0, (some (Jvm.ClassFile.FieldType.long))) := rfl
theorem i_51_139 : iRow 51 139 = some (.iload 11, 0, 0, 0, (some (Jvm.ClassFile.FieldType.long))) := rfl
theorem i_51_141 : iRow 51 141 = some (.iconst 1, 0, 0, 0, (some (Jvm.ClassFile.FieldType.long))) := rfl
theorem i_51_142 : iRow 51 142 = some (.iload 4, 0, 0, 0, (some (Jvm.ClassFile.FieldType.long))) := rfl
theorem i_51_144 : iRow 51 144 = some (.isub, 0, 0, 0, (some (Jvm.ClassFile.FieldType.long))) := rfl
theorem i_51_145 : iRow 51 145 = some (.invokestatic 36, 17, 48, 3, (some (Jvm.ClassFile.FieldType.long))) := rfl
theorem i_51_148 : iRow 51 148 = some (.ifCond .eq 18, 0, 0, 0, (some (Jvm.ClassFile.FieldType.long))) := rfl
theorem i_51_151 : iRow 51 151 = some (.lload 6, 0, 0, 0, (some (Jvm.ClassFile.FieldType.long))) := rfl
theorem i_51_153 : iRow 51 153 = some (.lconst 1, 0, 0, 0, (some (Jvm.ClassFile.FieldType.long))) := rfl
theorem i_51_154 : iRow 51 154 = some (.bipush 6, 0, 0, 0, (some (Jvm.ClassFile.FieldType.long))) := rfl
theorem i_51_156 : iRow 51 156 = some (.iload 9, 0, 0, 0, (some (Jvm.ClassFile.FieldType.long))) := rfl
theorem i_51_158 : iRow 51 158 = some (.imul, 0, 0, 0, (some (Jvm.ClassFile.FieldType.long))) := rfl
theorem i_51_159 : iRow 51 159 = some (.iload 10, 0, 0, 0, (some (Jvm.ClassFile.FieldType.long))) := rfl
theorem i_51_161 : iRow 51 161 = some (.iadd, 0, 0, 0, (some (Jvm.ClassFile.FieldType.long))) := rfl
theorem i_51_162 : iRow 51 162 = some (.lshl, 0, 0, 0, (some (Jvm.ClassFile.FieldType.long))) := rfl
theorem i_51_163 : iRow 51 163 = some (.lor, 0, 0, 0, (some (Jvm.ClassFile.FieldType.long))) := rfl
theorem i_51_164 : iRow 51 164 = some (.lstore 6, 0, 0, 0, (some (Jvm.ClassFile.FieldType.long))) := rfl
theorem i_51_166 : iRow 51 166 = some (.iinc 12 1, 0, 0, 0, (some (Jvm.ClassFile.FieldType.long))) := rfl
theorem i_51_169 : iRow 51 169 = some (.goto (-127), 0, 0, 0, (some (Jvm.ClassFile.FieldType.long))) := rfl
theorem s_rb42 {O : pOut} {d kc ks : Nat} {Q : pRes → Prop} {es : PH} {al : Int64} {go : Nat → Int32} {sr fa fr sd i rk fi be n : Int} {so ln : Nat} (hs_es : sh es) (ho64 : so < 64) (ho : O so = some (ln, go)) (hg : ∀ j, -2 ≤ (go j).toInt ∧ (go j).toInt ≤ 2) (h1 : -16 ≤ sr ∧ sr ≤ -12) (h2 : 0 ≤ fa ∧ fa ≤ 5) (h3 : 0 ≤ fr ∧ fr ≤ 35) (h4 : 0 ≤ sd ∧ sd ≤ 1) (h5 : 0 ≤ i ∧ i ≤ 20) (hi1 : i + 1 < (ln : Int)) (h6 : -2 ≤ rk ∧ rk ≤ 7) (h7 : -2 ≤ fi ∧ fi ≤ 7) (h8 : 0 ≤ be ∧ be ≤ 10) (h9 : 0 ≤ n ∧ n ≤ 5) (hT_es : hOK tT es)
    (K1 : fa ≤ n → aW O (d + 1) 51 kc ks Q (172, [some (.ref 93), some (.int (zI sr)), some (.int (zI fa)), some (.int (zI fr)), some (.int (zI sd)), some (.ref so), some (.long al), none, some (.int (zI i)), some (.int (zI rk)), some (.int (zI fi)), some (.int (zI be)), some (.int (zI n))], [], es))
    (K2 : ¬ (fa ≤ n) → be ≠ 0 → aW O (d + 1) 51 kc ks Q (172, [some (.ref 93), some (.int (zI sr)), some (.int (zI fa)), some (.int (zI fr)), some (.int (zI sd)), some (.ref so), some (.long al), none, some (.int (zI i)), some (.int (zI rk)), some (.int (zI fi)), some (.int (zI be)), some (.int (zI n))], [], es))
    (K3 : ¬ (fa ≤ n) → ¬ (be ≠ 0) → ∀ v3 : Int, v3 = (go i.toNat).toInt → ∀ v4 : Int, v4 = (go (i + 1).toNat).toInt → (rk + v3) < 0 → aW O (d + 1) 51 kc ks Q (172, [some (.ref 93), some (.int (zI sr)), some (.int (zI fa)), some (.int (zI fr)), some (.int (zI sd)), some (.ref so), some (.long al), none, some (.int (zI i)), some (.int (zI (rk + v3))), some (.int (zI (fi + v4))), some (.int (zI be)), some (.int (zI n))], [], es))
    (K4 : ¬ (fa ≤ n) → ¬ (be ≠ 0) → ∀ v3 : Int, v3 = (go i.toNat).toInt → ∀ v4 : Int, v4 = (go (i + 1).toNat).toInt → ¬ ((rk + v3) < 0) → 6 ≤ (rk + v3) → aW O (d + 1) 51 kc ks Q (172, [some (.ref 93), some (.int (zI sr)), some (.int (zI fa)), some (.int (zI fr)), some (.int (zI sd)), some (.ref so), some (.long al), none, some (.int (zI i)), some (.int (zI (rk + v3))), some (.int (zI (fi + v4))), some (.int (zI be)), some (.int (zI n))], [], es))
    (K5 : ¬ (fa ≤ n) → ¬ (be ≠ 0) → ∀ v3 : Int, v3 = (go i.toNat).toInt → ∀ v4 : Int, v4 = (go (i + 1).toNat).toInt → ¬ ((rk + v3) < 0) → ¬ (6 ≤ (rk + v3)) → (fi + v4) < 0 → aW O (d + 1) 51 kc ks Q (172, [some (.ref 93), some (.int (zI sr)), some (.int (zI fa)), some (.int (zI fr)), some (.int (zI sd)), some (.ref so), some (.long al), none, some (.int (zI i)), some (.int (zI (rk + v3))), some (.int (zI (fi + v4))), some (.int (zI be)), some (.int (zI n))], [], es))
    (K6 : ¬ (fa ≤ n) → ¬ (be ≠ 0) → ∀ v3 : Int, v3 = (go i.toNat).toInt → ∀ v4 : Int, v4 = (go (i + 1).toNat).toInt → ¬ ((rk + v3) < 0) → ¬ (6 ≤ (rk + v3)) → ¬ ((fi + v4) < 0) → (fi + v4) < 6 → ∀ v9 : Int, atP 30 ((6 * (rk + v3)) + (fi + v4)) es v9 → v9 ≠ 0 → sr = (-14) → aW O (d + 1) 51 kc ks Q (42, [some (.ref 93), some (.int (zI sr)), some (.int (zI fa)), some (.int (zI fr)), some (.int (zI sd)), some (.ref so), some (.long al), none, some (.int (zI i)), some (.int (zI (rk + v3))), some (.int (zI (fi + v4))), some (.int (zI v9)), some (.int (zI (n + 1)))], [], es))
    (K7 : ¬ (fa ≤ n) → ¬ (be ≠ 0) → ∀ v3 : Int, v3 = (go i.toNat).toInt → ∀ v4 : Int, v4 = (go (i + 1).toNat).toInt → ¬ ((rk + v3) < 0) → ¬ (6 ≤ (rk + v3)) → ¬ ((fi + v4) < 0) → (fi + v4) < 6 → ∀ v9 : Int, atP 30 ((6 * (rk + v3)) + (fi + v4)) es v9 → v9 ≠ 0 → ¬ (sr = (-14)) → v9 ≤ 0 → aW O (d + 1) 51 kc ks Q (42, [some (.ref 93), some (.int (zI sr)), some (.int (zI fa)), some (.int (zI fr)), some (.int (zI sd)), some (.ref so), some (.long al), none, some (.int (zI i)), some (.int (zI (rk + v3))), some (.int (zI (fi + v4))), some (.int (zI v9)), some (.int (zI (n + 1)))], [], es))
    (K8 : ¬ (fa ≤ n) → ¬ (be ≠ 0) → ∀ v3 : Int, v3 = (go i.toNat).toInt → ∀ v4 : Int, v4 = (go (i + 1).toNat).toInt → ¬ ((rk + v3) < 0) → ¬ (6 ≤ (rk + v3)) → ¬ ((fi + v4) < 0) → (fi + v4) < 6 → ∀ v9 : Int, atP 30 ((6 * (rk + v3)) + (fi + v4)) es v9 → v9 ≠ 0 → ¬ (sr = (-14)) → ¬ (v9 ≤ 0) → ∀ v13 : Int, v13 = (zI (v9 - 1) &&& zI 1).toInt → v13 ≠ (1 - sd) → aW O (d + 1) 51 kc ks Q (42, [some (.ref 93), some (.int (zI sr)), some (.int (zI fa)), some (.int (zI fr)), some (.int (zI sd)), some (.ref so), some (.long al), none, some (.int (zI i)), some (.int (zI (rk + v3))), some (.int (zI (fi + v4))), some (.int (zI v9)), some (.int (zI (n + 1)))], [], es))
    (K9 : ¬ (fa ≤ n) → ¬ (be ≠ 0) → ∀ v3 : Int, v3 = (go i.toNat).toInt → ∀ v4 : Int, v4 = (go (i + 1).toNat).toInt → ¬ ((rk + v3) < 0) → ¬ (6 ≤ (rk + v3)) → ¬ ((fi + v4) < 0) → (fi + v4) < 6 → ∀ v9 : Int, atP 30 ((6 * (rk + v3)) + (fi + v4)) es v9 → v9 ≠ 0 → ¬ (sr = (-14)) → ¬ (v9 ≤ 0) → ∀ v13 : Int, v13 = (zI (v9 - 1) &&& zI 1).toInt → ¬ (v13 ≠ (1 - sd)) → ∀ w15 : Int64, w15 = (Int64.ofNat 1) <<< ((zI ((6 * (rk + v3)) + (fi + v4))).toInt64 &&& 63) → ∀ w16 : Int64, w16 = al ||| w15 → aW O (d + 1) 51 kc ks Q (42, [some (.ref 93), some (.int (zI sr)), some (.int (zI fa)), some (.int (zI fr)), some (.int (zI sd)), some (.ref so), some (.long w16), none, some (.int (zI i)), some (.int (zI (rk + v3))), some (.int (zI (fi + v4))), some (.int (zI v9)), some (.int (zI (n + 1)))], [], es))
    (K10 : ¬ (fa ≤ n) → ¬ (be ≠ 0) → ∀ v3 : Int, v3 = (go i.toNat).toInt → ∀ v4 : Int, v4 = (go (i + 1).toNat).toInt → ¬ ((rk + v3) < 0) → ¬ (6 ≤ (rk + v3)) → ¬ ((fi + v4) < 0) → (fi + v4) < 6 → ∀ v9 : Int, atP 30 ((6 * (rk + v3)) + (fi + v4)) es v9 → ¬ (v9 ≠ 0) → sr = (-16) → aW O (d + 1) 51 kc ks Q (42, [some (.ref 93), some (.int (zI sr)), some (.int (zI fa)), some (.int (zI fr)), some (.int (zI sd)), some (.ref so), some (.long al), none, some (.int (zI i)), some (.int (zI (rk + v3))), some (.int (zI (fi + v4))), some (.int (zI v9)), some (.int (zI (n + 1)))], [], es))
    (K11 : ¬ (fa ≤ n) → ¬ (be ≠ 0) → ∀ v3 : Int, v3 = (go i.toNat).toInt → ∀ v4 : Int, v4 = (go (i + 1).toNat).toInt → ¬ ((rk + v3) < 0) → ¬ (6 ≤ (rk + v3)) → ¬ ((fi + v4) < 0) → (fi + v4) < 6 → ∀ v9 : Int, atP 30 ((6 * (rk + v3)) + (fi + v4)) es v9 → ¬ (v9 ≠ 0) → ¬ (sr = (-16)) → ∀ w18 : Int64, w18 = (Int64.ofNat 1) <<< ((zI ((6 * (rk + v3)) + (fi + v4))).toInt64 &&& 63) → ∀ w19 : Int64, w19 = al ||| w18 → aW O (d + 1) 51 kc ks Q (42, [some (.ref 93), some (.int (zI sr)), some (.int (zI fa)), some (.int (zI fr)), some (.int (zI sd)), some (.ref so), some (.long w19), none, some (.int (zI i)), some (.int (zI (rk + v3))), some (.int (zI (fi + v4))), some (.int (zI v9)), some (.int (zI (n + 1)))], [], es))
    (K12 : ¬ (fa ≤ n) → ¬ (be ≠ 0) → ∀ v3 : Int, v3 = (go i.toNat).toInt → ∀ v4 : Int, v4 = (go (i + 1).toNat).toInt → ¬ ((rk + v3) < 0) → ¬ (6 ≤ (rk + v3)) → ¬ ((fi + v4) < 0) → ¬ ((fi + v4) < 6) → aW O (d + 1) 51 kc ks Q (172, [some (.ref 93), some (.int (zI sr)), some (.int (zI fa)), some (.int (zI fr)), some (.int (zI sd)), some (.ref so), some (.long al), none, some (.int (zI i)), some (.int (zI (rk + v3))), some (.int (zI (fi + v4))), some (.int (zI be)), some (.int (zI n))], [], es)) :
    aW O (d + 1) 51 kc ks Q (42, [some (.ref 93), some (.int (zI sr)), some (.int (zI fa)), some (.int (zI fr)), some (.int (zI sd)), some (.ref so), some (.long al), none, some (.int (zI i)), some (.int (zI rk)), some (.int (zI fi)), some (.int (zI be)), some (.int (zI n))], [], es) := by
  refine x0 (r := (44, [some (.ref 93), some (.int (zI sr)), some (.int (zI fa)), some (.int (zI fr)), some (.int (zI sd)), some (.ref so), some (.long al), none, some (.int (zI i)), some (.int (zI rk)), some (.int (zI fi)), some (.int (zI be)), some (.int (zI n))], [.int (zI n)], es)) i_51_42 rfl ?_
  refine x0 (r := (45, [some (.ref 93), some (.int (zI sr)), some (.int (zI fa)), some (.int (zI fr)), some (.int (zI sd)), some (.ref so), some (.long al), none, some (.int (zI i)), some (.int (zI rk)), some (.int (zI fi)), some (.int (zI be)), some (.int (zI n))], [.int (zI fa), .int (zI n)], es)) i_51_44 rfl ?_
  by_cases c1 : fa ≤ n
  · refine x_cmpT i_51_45 (by unfold i32 iLO iHI; omega) (by unfold i32 iLO iHI; omega) rfl (by simp only [zC, cR]; omega) ?_
    exact K1 c1
  · refine x_cmpF i_51_45 (by unfold i32 iLO iHI; omega) (by unfold i32 iLO iHI; omega) rfl (by simp only [zC, cR]; omega) ?_
    refine x0 (r := (50, [some (.ref 93), some (.int (zI sr)), some (.int (zI fa)), some (.int (zI fr)), some (.int (zI sd)), some (.ref so), some (.long al), none, some (.int (zI i)), some (.int (zI rk)), some (.int (zI fi)), some (.int (zI be)), some (.int (zI n))], [.int (zI be)], es)) i_51_48 rfl ?_
    by_cases c2 : be ≠ 0
    · refine x_ifT i_51_50 (by unfold i32 iLO iHI; omega) rfl (by simp only [zC, cR]; omega) ?_
      exact K2 c1 c2
    · refine x_ifF i_51_50 (by unfold i32 iLO iHI; omega) rfl (by simp only [zC, cR]; omega) ?_
      refine x0 (r := (55, [some (.ref 93), some (.int (zI sr)), some (.int (zI fa)), some (.int (zI fr)), some (.int (zI sd)), some (.ref so), some (.long al), none, some (.int (zI i)), some (.int (zI rk)), some (.int (zI fi)), some (.int (zI be)), some (.int (zI n))], [.int (zI rk)], es)) i_51_53 rfl ?_
      refine x0 (r := (57, [some (.ref 93), some (.int (zI sr)), some (.int (zI fa)), some (.int (zI fr)), some (.int (zI sd)), some (.ref so), some (.long al), none, some (.int (zI i)), some (.int (zI rk)), some (.int (zI fi)), some (.int (zI be)), some (.int (zI n))], [.ref so, .int (zI rk)], es)) i_51_55 rfl ?_
      refine x0 (r := (59, [some (.ref 93), some (.int (zI sr)), some (.int (zI fa)), some (.int (zI fr)), some (.int (zI sd)), some (.ref so), some (.long al), none, some (.int (zI i)), some (.int (zI rk)), some (.int (zI fi)), some (.int (zI be)), some (.int (zI n))], [.int (zI i), .ref so, .int (zI rk)], es)) i_51_57 rfl ?_
      refine x_oal i_51_59 ho64 ho (by unfold i32 iLO iHI; omega) (by omega) (by omega) ?_
      obtain ⟨v3, e_v3⟩ : ∃ z : Int, z = (go i.toNat).toInt := ⟨_, rfl⟩
      rw [← e_v3]
      have r_v3 : iLO ≤ v3 ∧ v3 ≤ iHI := by rw [e_v3]; exact i32_rng _
      unfold iLO iHI at r_v3
      have g_v3 := hg i.toNat
      rw [← e_v3] at g_v3
      refine x_iadd i_51_60 ?_
      refine x0 (r := (63, [some (.ref 93), some (.int (zI sr)), some (.int (zI fa)), some (.int (zI fr)), some (.int (zI sd)), some (.ref so), some (.long al), none, some (.int (zI i)), some (.int (zI (rk + v3))), some (.int (zI fi)), some (.int (zI be)), some (.int (zI n))], [], es)) i_51_61 rfl ?_
      refine x0 (r := (65, [some (.ref 93), some (.int (zI sr)), some (.int (zI fa)), some (.int (zI fr)), some (.int (zI sd)), some (.ref so), some (.long al), none, some (.int (zI i)), some (.int (zI (rk + v3))), some (.int (zI fi)), some (.int (zI be)), some (.int (zI n))], [.int (zI fi)], es)) i_51_63 rfl ?_
      refine x0 (r := (67, [some (.ref 93), some (.int (zI sr)), some (.int (zI fa)), some (.int (zI fr)), some (.int (zI sd)), some (.ref so), some (.long al), none, some (.int (zI i)), some (.int (zI (rk + v3))), some (.int (zI fi)), some (.int (zI be)), some (.int (zI n))], [.ref so, .int (zI fi)], es)) i_51_65 rfl ?_
      refine x0 (r := (69, [some (.ref 93), some (.int (zI sr)), some (.int (zI fa)), some (.int (zI fr)), some (.int (zI sd)), some (.ref so), some (.long al), none, some (.int (zI i)), some (.int (zI (rk + v3))), some (.int (zI fi)), some (.int (zI be)), some (.int (zI n))], [.int (zI i), .ref so, .int (zI fi)], es)) i_51_67 rfl ?_
      refine x0 (r := (70, [some (.ref 93), some (.int (zI sr)), some (.int (zI fa)), some (.int (zI fr)), some (.int (zI sd)), some (.ref so), some (.long al), none, some (.int (zI i)), some (.int (zI (rk + v3))), some (.int (zI fi)), some (.int (zI be)), some (.int (zI n))], [.int (zI 1), .int (zI i), .ref so, .int (zI fi)], es)) i_51_69 (by rfl) ?_
      refine x_iadd i_51_70 ?_
      refine x_oal i_51_71 ho64 ho (by unfold i32 iLO iHI; omega) (by omega) (by omega) ?_
      obtain ⟨v4, e_v4⟩ : ∃ z : Int, z = (go (i + 1).toNat).toInt := ⟨_, rfl⟩
      rw [← e_v4]
      have r_v4 : iLO ≤ v4 ∧ v4 ≤ iHI := by rw [e_v4]; exact i32_rng _
      unfold iLO iHI at r_v4
      have g_v4 := hg (i + 1).toNat
      rw [← e_v4] at g_v4
      refine x_iadd i_51_72 ?_
      refine x0 (r := (75, [some (.ref 93), some (.int (zI sr)), some (.int (zI fa)), some (.int (zI fr)), some (.int (zI sd)), some (.ref so), some (.long al), none, some (.int (zI i)), some (.int (zI (rk + v3))), some (.int (zI (fi + v4))), some (.int (zI be)), some (.int (zI n))], [], es)) i_51_73 rfl ?_
      refine x0 (r := (77, [some (.ref 93), some (.int (zI sr)), some (.int (zI fa)), some (.int (zI fr)), some (.int (zI sd)), some (.ref so), some (.long al), none, some (.int (zI i)), some (.int (zI (rk + v3))), some (.int (zI (fi + v4))), some (.int (zI be)), some (.int (zI n))], [.int (zI (rk + v3))], es)) i_51_75 rfl ?_
      by_cases c5 : (rk + v3) < 0
      · refine x_ifT i_51_77 (by unfold i32 iLO iHI; omega) rfl (by simp only [zC, cR]; omega) ?_
        exact K3 c1 c2 v3 e_v3 v4 e_v4 c5
      · refine x_ifF i_51_77 (by unfold i32 iLO iHI; omega) rfl (by simp only [zC, cR]; omega) ?_
        refine x0 (r := (82, [some (.ref 93), some (.int (zI sr)), some (.int (zI fa)), some (.int (zI fr)), some (.int (zI sd)), some (.ref so), some (.long al), none, some (.int (zI i)), some (.int (zI (rk + v3))), some (.int (zI (fi + v4))), some (.int (zI be)), some (.int (zI n))], [.int (zI (rk + v3))], es)) i_51_80 rfl ?_
        refine x0 (r := (84, [some (.ref 93), some (.int (zI sr)), some (.int (zI fa)), some (.int (zI fr)), some (.int (zI sd)), some (.ref so), some (.long al), none, some (.int (zI i)), some (.int (zI (rk + v3))), some (.int (zI (fi + v4))), some (.int (zI be)), some (.int (zI n))], [.int (zI 6), .int (zI (rk + v3))], es)) i_51_82 (by rfl) ?_
        by_cases c6 : 6 ≤ (rk + v3)
        · refine x_cmpT i_51_84 (by unfold i32 iLO iHI; omega) (by unfold i32 iLO iHI; omega) rfl (by simp only [zC, cR]; omega) ?_
          exact K4 c1 c2 v3 e_v3 v4 e_v4 c5 c6
        · refine x_cmpF i_51_84 (by unfold i32 iLO iHI; omega) (by unfold i32 iLO iHI; omega) rfl (by simp only [zC, cR]; omega) ?_
          refine x0 (r := (89, [some (.ref 93), some (.int (zI sr)), some (.int (zI fa)), some (.int (zI fr)), some (.int (zI sd)), some (.ref so), some (.long al), none, some (.int (zI i)), some (.int (zI (rk + v3))), some (.int (zI (fi + v4))), some (.int (zI be)), some (.int (zI n))], [.int (zI (fi + v4))], es)) i_51_87 rfl ?_
          by_cases c7 : (fi + v4) < 0
          · refine x_ifT i_51_89 (by unfold i32 iLO iHI; omega) rfl (by simp only [zC, cR]; omega) ?_
            exact K5 c1 c2 v3 e_v3 v4 e_v4 c5 c6 c7
          · refine x_ifF i_51_89 (by unfold i32 iLO iHI; omega) rfl (by simp only [zC, cR]; omega) ?_
            refine x0 (r := (94, [some (.ref 93), some (.int (zI sr)), some (.int (zI fa)), some (.int (zI fr)), some (.int (zI sd)), some (.ref so), some (.long al), none, some (.int (zI i)), some (.int (zI (rk + v3))), some (.int (zI (fi + v4))), some (.int (zI be)), some (.int (zI n))], [.int (zI (fi + v4))], es)) i_51_92 rfl ?_
            refine x0 (r := (96, [some (.ref 93), some (.int (zI sr)), some (.int (zI fa)), some (.int (zI fr)), some (.int (zI sd)), some (.ref so), some (.long al), none, some (.int (zI i)), some (.int (zI (rk + v3))), some (.int (zI (fi + v4))), some (.int (zI be)), some (.int (zI n))], [.int (zI 6), .int (zI (fi + v4))], es)) i_51_94 (by rfl) ?_
            by_cases c8 : (fi + v4) < 6
            · refine x_cmpT i_51_96 (by unfold i32 iLO iHI; omega) (by unfold i32 iLO iHI; omega) rfl (by simp only [zC, cR]; omega) ?_
              refine x0 (r := (103, [some (.ref 93), some (.int (zI sr)), some (.int (zI fa)), some (.int (zI fr)), some (.int (zI sd)), some (.ref so), some (.long al), none, some (.int (zI i)), some (.int (zI (rk + v3))), some (.int (zI (fi + v4))), some (.int (zI be)), some (.int (zI n))], [.ref 93], es)) i_51_102 rfl ?_
              refine x_getr (p := 29) (k := 94) i_51_103 hs_es rfl rfl ?_
              show aW _ _ _ _ _ _ (106, [some (.ref 93), some (.int (zI sr)), some (.int (zI fa)), some (.int (zI fr)), some (.int (zI sd)), some (.ref so), some (.long al), none, some (.int (zI i)), some (.int (zI (rk + v3))), some (.int (zI (fi + v4))), some (.int (zI be)), some (.int (zI n))], [.ref 94], es)
              refine x0 (r := (108, [some (.ref 93), some (.int (zI sr)), some (.int (zI fa)), some (.int (zI fr)), some (.int (zI sd)), some (.ref so), some (.long al), none, some (.int (zI i)), some (.int (zI (rk + v3))), some (.int (zI (fi + v4))), some (.int (zI be)), some (.int (zI n))], [.int (zI 6), .ref 94], es)) i_51_106 (by rfl) ?_
              refine x0 (r := (110, [some (.ref 93), some (.int (zI sr)), some (.int (zI fa)), some (.int (zI fr)), some (.int (zI sd)), some (.ref so), some (.long al), none, some (.int (zI i)), some (.int (zI (rk + v3))), some (.int (zI (fi + v4))), some (.int (zI be)), some (.int (zI n))], [.int (zI (rk + v3)), .int (zI 6), .ref 94], es)) i_51_108 rfl ?_
              refine x_imul i_51_110 ?_
              refine x0 (r := (113, [some (.ref 93), some (.int (zI sr)), some (.int (zI fa)), some (.int (zI fr)), some (.int (zI sd)), some (.ref so), some (.long al), none, some (.int (zI i)), some (.int (zI (rk + v3))), some (.int (zI (fi + v4))), some (.int (zI be)), some (.int (zI n))], [.int (zI (fi + v4)), .int (zI (6 * (rk + v3))), .ref 94], es)) i_51_111 rfl ?_
              refine x_iadd i_51_113 ?_
              refine x_call (vs := [.ref 94, .int (zI ((6 * (rk + v3)) + (fi + v4)))]) (rs := []) i_51_114 rfl (fun _ => rfl) rfl rfl rfl rfl rfl rfl ?_
              show aW _ _ _ _ _ _ (0, [some (.ref 94), some (.int (zI ((6 * (rk + v3)) + (fi + v4))))], [], es)
              refine at_sp (p := 30) rfl hs_es (by omega) (by omega) (by decide) (fun v9 p_v9 => ?_)
              have r_v9 := atP_is p_v9
              show aW _ _ _ _ _ _ (117, [some (.ref 93), some (.int (zI sr)), some (.int (zI fa)), some (.int (zI fr)), some (.int (zI sd)), some (.ref so), some (.long al), none, some (.int (zI i)), some (.int (zI (rk + v3))), some (.int (zI (fi + v4))), some (.int (zI be)), some (.int (zI n))], [.int (zI v9)], es)
              refine x0 (r := (119, [some (.ref 93), some (.int (zI sr)), some (.int (zI fa)), some (.int (zI fr)), some (.int (zI sd)), some (.ref so), some (.long al), none, some (.int (zI i)), some (.int (zI (rk + v3))), some (.int (zI (fi + v4))), some (.int (zI v9)), some (.int (zI n))], [], es)) i_51_117 rfl ?_
              refine x0 (r := (121, [some (.ref 93), some (.int (zI sr)), some (.int (zI fa)), some (.int (zI fr)), some (.int (zI sd)), some (.ref so), some (.long al), none, some (.int (zI i)), some (.int (zI (rk + v3))), some (.int (zI (fi + v4))), some (.int (zI v9)), some (.int (zI n))], [.int (zI v9)], es)) i_51_119 rfl ?_
              by_cases c10 : v9 ≠ 0
              · refine x_ifT i_51_121 (by unfold i32 iLO iHI; omega) rfl (by simp only [zC, cR]; omega) ?_
                refine x0 (r := (134, [some (.ref 93), some (.int (zI sr)), some (.int (zI fa)), some (.int (zI fr)), some (.int (zI sd)), some (.ref so), some (.long al), none, some (.int (zI i)), some (.int (zI (rk + v3))), some (.int (zI (fi + v4))), some (.int (zI v9)), some (.int (zI n))], [.int (zI sr)], es)) i_51_133 rfl ?_
                refine x0 (r := (136, [some (.ref 93), some (.int (zI sr)), some (.int (zI fa)), some (.int (zI fr)), some (.int (zI sd)), some (.ref so), some (.long al), none, some (.int (zI i)), some (.int (zI (rk + v3))), some (.int (zI (fi + v4))), some (.int (zI v9)), some (.int (zI n))], [.int (zI (-14)), .int (zI sr)], es)) i_51_134 (by rfl) ?_
                by_cases c11 : sr = (-14)
                · refine x_cmpT i_51_136 (by unfold i32 iLO iHI; omega) (by unfold i32 iLO iHI; omega) rfl (by simp only [zC, cR]; omega) ?_
                  refine x_iinc (x := n) i_51_166 rfl (by show 12 < 13; decide) ?_
                  show aW _ _ _ _ _ _ (169, [some (.ref 93), some (.int (zI sr)), some (.int (zI fa)), some (.int (zI fr)), some (.int (zI sd)), some (.ref so), some (.long al), none, some (.int (zI i)), some (.int (zI (rk + v3))), some (.int (zI (fi + v4))), some (.int (zI v9)), some (.int (zI (n + 1)))], [], es)
                  refine x0 (r := (42, [some (.ref 93), some (.int (zI sr)), some (.int (zI fa)), some (.int (zI fr)), some (.int (zI sd)), some (.ref so), some (.long al), none, some (.int (zI i)), some (.int (zI (rk + v3))), some (.int (zI (fi + v4))), some (.int (zI v9)), some (.int (zI (n + 1)))], [], es)) i_51_169 rfl ?_
                  exact K6 c1 c2 v3 e_v3 v4 e_v4 c5 c6 c7 c8 v9 p_v9 c10 c11
                · refine x_cmpF i_51_136 (by unfold i32 iLO iHI; omega) (by unfold i32 iLO iHI; omega) rfl (by simp only [zC, cR]; omega) ?_
                  refine x0 (r := (141, [some (.ref 93), some (.int (zI sr)), some (.int (zI fa)), some (.int (zI fr)), some (.int (zI sd)), some (.ref so), some (.long al), none, some (.int (zI i)), some (.int (zI (rk + v3))), some (.int (zI (fi + v4))), some (.int (zI v9)), some (.int (zI n))], [.int (zI v9)], es)) i_51_139 rfl ?_
                  refine x0 (r := (142, [some (.ref 93), some (.int (zI sr)), some (.int (zI fa)), some (.int (zI fr)), some (.int (zI sd)), some (.ref so), some (.long al), none, some (.int (zI i)), some (.int (zI (rk + v3))), some (.int (zI (fi + v4))), some (.int (zI v9)), some (.int (zI n))], [.int (zI 1), .int (zI v9)], es)) i_51_141 (by rfl) ?_
                  refine x0 (r := (144, [some (.ref 93), some (.int (zI sr)), some (.int (zI fa)), some (.int (zI fr)), some (.int (zI sd)), some (.ref so), some (.long al), none, some (.int (zI i)), some (.int (zI (rk + v3))), some (.int (zI (fi + v4))), some (.int (zI v9)), some (.int (zI n))], [.int (zI sd), .int (zI 1), .int (zI v9)], es)) i_51_142 rfl ?_
                  refine x_isub i_51_144 ?_
                  refine x_call (vs := [.int (zI v9), .int (zI (1 - sd))]) (rs := []) i_51_145 rfl (fun _ => rfl) rfl rfl rfl rfl rfl rfl ?_
                  show aW _ _ _ _ _ _ (0, [some (.int (zI v9)), some (.int (zI (1 - sd)))], [], es)
                  refine x0 (r := (1, [some (.int (zI v9)), some (.int (zI (1 - sd)))], [.int (zI v9)], es)) i_48_0 rfl ?_
                  by_cases c12 : v9 ≤ 0
                  · refine x_ifT i_48_1 (by unfold i32 iLO iHI; omega) rfl (by simp only [zC, cR]; omega) ?_
                    refine x0 (r := (18, [some (.int (zI v9)), some (.int (zI (1 - sd)))], [.int (zI 0)], es)) i_48_17 (by rfl) ?_
                    refine x_ret (v := some (.int (zI 0))) i_48_18 rfl (fun _ => rfl) rfl rfl (pFin_b (by omega)) ?_
                    show aW _ _ _ _ _ _ (148, [some (.ref 93), some (.int (zI sr)), some (.int (zI fa)), some (.int (zI fr)), some (.int (zI sd)), some (.ref so), some (.long al), none, some (.int (zI i)), some (.int (zI (rk + v3))), some (.int (zI (fi + v4))), some (.int (zI v9)), some (.int (zI n))], [.int (zI 0)], es)
                    refine x_ifT i_51_148 (by unfold i32 iLO iHI; omega) rfl (by simp only [zC, cR]; omega) ?_
                    refine x_iinc (x := n) i_51_166 rfl (by show 12 < 13; decide) ?_
                    show aW _ _ _ _ _ _ (169, [some (.ref 93), some (.int (zI sr)), some (.int (zI fa)), some (.int (zI fr)), some (.int (zI sd)), some (.ref so), some (.long al), none, some (.int (zI i)), some (.int (zI (rk + v3))), some (.int (zI (fi + v4))), some (.int (zI v9)), some (.int (zI (n + 1)))], [], es)
                    refine x0 (r := (42, [some (.ref 93), some (.int (zI sr)), some (.int (zI fa)), some (.int (zI fr)), some (.int (zI sd)), some (.ref so), some (.long al), none, some (.int (zI i)), some (.int (zI (rk + v3))), some (.int (zI (fi + v4))), some (.int (zI v9)), some (.int (zI (n + 1)))], [], es)) i_51_169 rfl ?_
                    exact K7 c1 c2 v3 e_v3 v4 e_v4 c5 c6 c7 c8 v9 p_v9 c10 c11 c12
                  · refine x_ifF i_48_1 (by unfold i32 iLO iHI; omega) rfl (by simp only [zC, cR]; omega) ?_
                    refine x0 (r := (5, [some (.int (zI v9)), some (.int (zI (1 - sd)))], [.int (zI v9)], es)) i_48_4 rfl ?_
                    refine x0 (r := (6, [some (.int (zI v9)), some (.int (zI (1 - sd)))], [.int (zI 1), .int (zI v9)], es)) i_48_5 (by rfl) ?_
                    refine x_isub i_48_6 ?_
                    refine x0 (r := (8, [some (.int (zI v9)), some (.int (zI (1 - sd)))], [.int (zI 1), .int (zI (v9 - 1))], es)) i_48_7 (by rfl) ?_
                    refine x_op i_48_8 (w := (zI (v9 - 1) &&& zI 1)) rfl rfl ?_
                    obtain ⟨v13, e_v13⟩ : ∃ z : Int, z = (zI (v9 - 1) &&& zI 1).toInt := ⟨_, rfl⟩
                    rw [← e_v13]
                    have r_v13 : iLO ≤ v13 ∧ v13 ≤ iHI := by rw [e_v13]; exact i32_rng _
                    unfold iLO iHI at r_v13
                    refine x0 (r := (10, [some (.int (zI v9)), some (.int (zI (1 - sd)))], [.int (zI (1 - sd)), .int (zI v13)], es)) i_48_9 rfl ?_
                    by_cases c14 : v13 ≠ (1 - sd)
                    · refine x_cmpT i_48_10 (by unfold i32 iLO iHI; omega) (by unfold i32 iLO iHI; omega) rfl (by simp only [zC, cR]; omega) ?_
                      refine x0 (r := (18, [some (.int (zI v9)), some (.int (zI (1 - sd)))], [.int (zI 0)], es)) i_48_17 (by rfl) ?_
                      refine x_ret (v := some (.int (zI 0))) i_48_18 rfl (fun _ => rfl) rfl rfl (pFin_b (by omega)) ?_
                      show aW _ _ _ _ _ _ (148, [some (.ref 93), some (.int (zI sr)), some (.int (zI fa)), some (.int (zI fr)), some (.int (zI sd)), some (.ref so), some (.long al), none, some (.int (zI i)), some (.int (zI (rk + v3))), some (.int (zI (fi + v4))), some (.int (zI v9)), some (.int (zI n))], [.int (zI 0)], es)
                      refine x_ifT i_51_148 (by unfold i32 iLO iHI; omega) rfl (by simp only [zC, cR]; omega) ?_
                      refine x_iinc (x := n) i_51_166 rfl (by show 12 < 13; decide) ?_
                      show aW _ _ _ _ _ _ (169, [some (.ref 93), some (.int (zI sr)), some (.int (zI fa)), some (.int (zI fr)), some (.int (zI sd)), some (.ref so), some (.long al), none, some (.int (zI i)), some (.int (zI (rk + v3))), some (.int (zI (fi + v4))), some (.int (zI v9)), some (.int (zI (n + 1)))], [], es)
                      refine x0 (r := (42, [some (.ref 93), some (.int (zI sr)), some (.int (zI fa)), some (.int (zI fr)), some (.int (zI sd)), some (.ref so), some (.long al), none, some (.int (zI i)), some (.int (zI (rk + v3))), some (.int (zI (fi + v4))), some (.int (zI v9)), some (.int (zI (n + 1)))], [], es)) i_51_169 rfl ?_
                      exact K8 c1 c2 v3 e_v3 v4 e_v4 c5 c6 c7 c8 v9 p_v9 c10 c11 c12 v13 e_v13 c14
                    · refine x_cmpF i_48_10 (by unfold i32 iLO iHI; omega) (by unfold i32 iLO iHI; omega) rfl (by simp only [zC, cR]; omega) ?_
                      refine x0 (r := (14, [some (.int (zI v9)), some (.int (zI (1 - sd)))], [.int (zI 1)], es)) i_48_13 (by rfl) ?_
                      refine x0 (r := (18, [some (.int (zI v9)), some (.int (zI (1 - sd)))], [.int (zI 1)], es)) i_48_14 rfl ?_
                      refine x_ret (v := some (.int (zI 1))) i_48_18 rfl (fun _ => rfl) rfl rfl (pFin_b (by omega)) ?_
                      show aW _ _ _ _ _ _ (148, [some (.ref 93), some (.int (zI sr)), some (.int (zI fa)), some (.int (zI fr)), some (.int (zI sd)), some (.ref so), some (.long al), none, some (.int (zI i)), some (.int (zI (rk + v3))), some (.int (zI (fi + v4))), some (.int (zI v9)), some (.int (zI n))], [.int (zI 1)], es)
                      refine x_ifF i_51_148 (by unfold i32 iLO iHI; omega) rfl (by simp only [zC, cR]; omega) ?_
                      refine x0 (r := (153, [some (.ref 93), some (.int (zI sr)), some (.int (zI fa)), some (.int (zI fr)), some (.int (zI sd)), some (.ref so), some (.long al), none, some (.int (zI i)), some (.int (zI (rk + v3))), some (.int (zI (fi + v4))), some (.int (zI v9)), some (.int (zI n))], [.long al], es)) i_51_151 rfl ?_
                      refine x0 (r := (154, [some (.ref 93), some (.int (zI sr)), some (.int (zI fa)), some (.int (zI fr)), some (.int (zI sd)), some (.ref so), some (.long al), none, some (.int (zI i)), some (.int (zI (rk + v3))), some (.int (zI (fi + v4))), some (.int (zI v9)), some (.int (zI n))], [.long (Int64.ofNat 1), .long al], es)) i_51_153 rfl ?_
                      refine x0 (r := (156, [some (.ref 93), some (.int (zI sr)), some (.int (zI fa)), some (.int (zI fr)), some (.int (zI sd)), some (.ref so), some (.long al), none, some (.int (zI i)), some (.int (zI (rk + v3))), some (.int (zI (fi + v4))), some (.int (zI v9)), some (.int (zI n))], [.int (zI 6), .long (Int64.ofNat 1), .long al], es)) i_51_154 (by rfl) ?_
                      refine x0 (r := (158, [some (.ref 93), some (.int (zI sr)), some (.int (zI fa)), some (.int (zI fr)), some (.int (zI sd)), some (.ref so), some (.long al), none, some (.int (zI i)), some (.int (zI (rk + v3))), some (.int (zI (fi + v4))), some (.int (zI v9)), some (.int (zI n))], [.int (zI (rk + v3)), .int (zI 6), .long (Int64.ofNat 1), .long al], es)) i_51_156 rfl ?_
                      refine x_imul i_51_158 ?_
                      refine x0 (r := (161, [some (.ref 93), some (.int (zI sr)), some (.int (zI fa)), some (.int (zI fr)), some (.int (zI sd)), some (.ref so), some (.long al), none, some (.int (zI i)), some (.int (zI (rk + v3))), some (.int (zI (fi + v4))), some (.int (zI v9)), some (.int (zI n))], [.int (zI (fi + v4)), .int (zI (6 * (rk + v3))), .long (Int64.ofNat 1), .long al], es)) i_51_159 rfl ?_
                      refine x_iadd i_51_161 ?_
                      refine x0 (r := (163, [some (.ref 93), some (.int (zI sr)), some (.int (zI fa)), some (.int (zI fr)), some (.int (zI sd)), some (.ref so), some (.long al), none, some (.int (zI i)), some (.int (zI (rk + v3))), some (.int (zI (fi + v4))), some (.int (zI v9)), some (.int (zI n))], [.long ((Int64.ofNat 1) <<< ((zI ((6 * (rk + v3)) + (fi + v4))).toInt64 &&& 63)), .long al], es)) i_51_162 rfl ?_
                      obtain ⟨w15, e_w15⟩ : ∃ z : Int64, z = (Int64.ofNat 1) <<< ((zI ((6 * (rk + v3)) + (fi + v4))).toInt64 &&& 63) := ⟨_, rfl⟩
                      rw [← e_w15]
                      refine x0 (r := (164, [some (.ref 93), some (.int (zI sr)), some (.int (zI fa)), some (.int (zI fr)), some (.int (zI sd)), some (.ref so), some (.long al), none, some (.int (zI i)), some (.int (zI (rk + v3))), some (.int (zI (fi + v4))), some (.int (zI v9)), some (.int (zI n))], [.long (al ||| w15)], es)) i_51_163 rfl ?_
                      obtain ⟨w16, e_w16⟩ : ∃ z : Int64, z = al ||| w15 := ⟨_, rfl⟩
                      rw [← e_w16]
                      refine x0 (r := (166, [some (.ref 93), some (.int (zI sr)), some (.int (zI fa)), some (.int (zI fr)), some (.int (zI sd)), some (.ref so), some (.long w16), none, some (.int (zI i)), some (.int (zI (rk + v3))), some (.int (zI (fi + v4))), some (.int (zI v9)), some (.int (zI n))], [], es)) i_51_164 rfl ?_
                      refine x_iinc (x := n) i_51_166 rfl (by show 12 < 13; decide) ?_
                      show aW _ _ _ _ _ _ (169, [some (.ref 93), some (.int (zI sr)), some (.int (zI fa)), some (.int (zI fr)), some (.int (zI sd)), some (.ref so), some (.long w16), none, some (.int (zI i)), some (.int (zI (rk + v3))), some (.int (zI (fi + v4))), some (.int (zI v9)), some (.int (zI (n + 1)))], [], es)
                      refine x0 (r := (42, [some (.ref 93), some (.int (zI sr)), some (.int (zI fa)), some (.int (zI fr)), some (.int (zI sd)), some (.ref so), some (.long w16), none, some (.int (zI i)), some (.int (zI (rk + v3))), some (.int (zI (fi + v4))), some (.int (zI v9)), some (.int (zI (n + 1)))], [], es)) i_51_169 rfl ?_
                      exact K9 c1 c2 v3 e_v3 v4 e_v4 c5 c6 c7 c8 v9 p_v9 c10 c11 c12 v13 e_v13 c14 w15 e_w15 w16 e_w16
              · refine x_ifF i_51_121 (by unfold i32 iLO iHI; omega) rfl (by simp only [zC, cR]; omega) ?_
                refine x0 (r := (125, [some (.ref 93), some (.int (zI sr)), some (.int (zI fa)), some (.int (zI fr)), some (.int (zI sd)), some (.ref so), some (.long al), none, some (.int (zI i)), some (.int (zI (rk + v3))), some (.int (zI (fi + v4))), some (.int (zI v9)), some (.int (zI n))], [.int (zI sr)], es)) i_51_124 rfl ?_
                refine x0 (r := (127, [some (.ref 93), some (.int (zI sr)), some (.int (zI fa)), some (.int (zI fr)), some (.int (zI sd)), some (.ref so), some (.long al), none, some (.int (zI i)), some (.int (zI (rk + v3))), some (.int (zI (fi + v4))), some (.int (zI v9)), some (.int (zI n))], [.int (zI (-16)), .int (zI sr)], es)) i_51_125 (by rfl) ?_
                by_cases c17 : sr = (-16)
                · refine x_cmpT i_51_127 (by unfold i32 iLO iHI; omega) (by unfold i32 iLO iHI; omega) rfl (by simp only [zC, cR]; omega) ?_
                  refine x_iinc (x := n) i_51_166 rfl (by show 12 < 13; decide) ?_
                  show aW _ _ _ _ _ _ (169, [some (.ref 93), some (.int (zI sr)), some (.int (zI fa)), some (.int (zI fr)), some (.int (zI sd)), some (.ref so), some (.long al), none, some (.int (zI i)), some (.int (zI (rk + v3))), some (.int (zI (fi + v4))), some (.int (zI v9)), some (.int (zI (n + 1)))], [], es)
                  refine x0 (r := (42, [some (.ref 93), some (.int (zI sr)), some (.int (zI fa)), some (.int (zI fr)), some (.int (zI sd)), some (.ref so), some (.long al), none, some (.int (zI i)), some (.int (zI (rk + v3))), some (.int (zI (fi + v4))), some (.int (zI v9)), some (.int (zI (n + 1)))], [], es)) i_51_169 rfl ?_
                  exact K10 c1 c2 v3 e_v3 v4 e_v4 c5 c6 c7 c8 v9 p_v9 c10 c17
                · refine x_cmpF i_51_127 (by unfold i32 iLO iHI; omega) (by unfold i32 iLO iHI; omega) rfl (by simp only [zC, cR]; omega) ?_
                  refine x0 (r := (151, [some (.ref 93), some (.int (zI sr)), some (.int (zI fa)), some (.int (zI fr)), some (.int (zI sd)), some (.ref so), some (.long al), none, some (.int (zI i)), some (.int (zI (rk + v3))), some (.int (zI (fi + v4))), some (.int (zI v9)), some (.int (zI n))], [], es)) i_51_130 rfl ?_
                  refine x0 (r := (153, [some (.ref 93), some (.int (zI sr)), some (.int (zI fa)), some (.int (zI fr)), some (.int (zI sd)), some (.ref so), some (.long al), none, some (.int (zI i)), some (.int (zI (rk + v3))), some (.int (zI (fi + v4))), some (.int (zI v9)), some (.int (zI n))], [.long al], es)) i_51_151 rfl ?_
                  refine x0 (r := (154, [some (.ref 93), some (.int (zI sr)), some (.int (zI fa)), some (.int (zI fr)), some (.int (zI sd)), some (.ref so), some (.long al), none, some (.int (zI i)), some (.int (zI (rk + v3))), some (.int (zI (fi + v4))), some (.int (zI v9)), some (.int (zI n))], [.long (Int64.ofNat 1), .long al], es)) i_51_153 rfl ?_
                  refine x0 (r := (156, [some (.ref 93), some (.int (zI sr)), some (.int (zI fa)), some (.int (zI fr)), some (.int (zI sd)), some (.ref so), some (.long al), none, some (.int (zI i)), some (.int (zI (rk + v3))), some (.int (zI (fi + v4))), some (.int (zI v9)), some (.int (zI n))], [.int (zI 6), .long (Int64.ofNat 1), .long al], es)) i_51_154 (by rfl) ?_
                  refine x0 (r := (158, [some (.ref 93), some (.int (zI sr)), some (.int (zI fa)), some (.int (zI fr)), some (.int (zI sd)), some (.ref so), some (.long al), none, some (.int (zI i)), some (.int (zI (rk + v3))), some (.int (zI (fi + v4))), some (.int (zI v9)), some (.int (zI n))], [.int (zI (rk + v3)), .int (zI 6), .long (Int64.ofNat 1), .long al], es)) i_51_156 rfl ?_
                  refine x_imul i_51_158 ?_
                  refine x0 (r := (161, [some (.ref 93), some (.int (zI sr)), some (.int (zI fa)), some (.int (zI fr)), some (.int (zI sd)), some (.ref so), some (.long al), none, some (.int (zI i)), some (.int (zI (rk + v3))), some (.int (zI (fi + v4))), some (.int (zI v9)), some (.int (zI n))], [.int (zI (fi + v4)), .int (zI (6 * (rk + v3))), .long (Int64.ofNat 1), .long al], es)) i_51_159 rfl ?_
                  refine x_iadd i_51_161 ?_
                  refine x0 (r := (163, [some (.ref 93), some (.int (zI sr)), some (.int (zI fa)), some (.int (zI fr)), some (.int (zI sd)), some (.ref so), some (.long al), none, some (.int (zI i)), some (.int (zI (rk + v3))), some (.int (zI (fi + v4))), some (.int (zI v9)), some (.int (zI n))], [.long ((Int64.ofNat 1) <<< ((zI ((6 * (rk + v3)) + (fi + v4))).toInt64 &&& 63)), .long al], es)) i_51_162 rfl ?_
                  obtain ⟨w18, e_w18⟩ : ∃ z : Int64, z = (Int64.ofNat 1) <<< ((zI ((6 * (rk + v3)) + (fi + v4))).toInt64 &&& 63) := ⟨_, rfl⟩
                  rw [← e_w18]
                  refine x0 (r := (164, [some (.ref 93), some (.int (zI sr)), some (.int (zI fa)), some (.int (zI fr)), some (.int (zI sd)), some (.ref so), some (.long al), none, some (.int (zI i)), some (.int (zI (rk + v3))), some (.int (zI (fi + v4))), some (.int (zI v9)), some (.int (zI n))], [.long (al ||| w18)], es)) i_51_163 rfl ?_
                  obtain ⟨w19, e_w19⟩ : ∃ z : Int64, z = al ||| w18 := ⟨_, rfl⟩
                  rw [← e_w19]
                  refine x0 (r := (166, [some (.ref 93), some (.int (zI sr)), some (.int (zI fa)), some (.int (zI fr)), some (.int (zI sd)), some (.ref so), some (.long w19), none, some (.int (zI i)), some (.int (zI (rk + v3))), some (.int (zI (fi + v4))), some (.int (zI v9)), some (.int (zI n))], [], es)) i_51_164 rfl ?_
                  refine x_iinc (x := n) i_51_166 rfl (by show 12 < 13; decide) ?_
                  show aW _ _ _ _ _ _ (169, [some (.ref 93), some (.int (zI sr)), some (.int (zI fa)), some (.int (zI fr)), some (.int (zI sd)), some (.ref so), some (.long w19), none, some (.int (zI i)), some (.int (zI (rk + v3))), some (.int (zI (fi + v4))), some (.int (zI v9)), some (.int (zI (n + 1)))], [], es)
                  refine x0 (r := (42, [some (.ref 93), some (.int (zI sr)), some (.int (zI fa)), some (.int (zI fr)), some (.int (zI sd)), some (.ref so), some (.long w19), none, some (.int (zI i)), some (.int (zI (rk + v3))), some (.int (zI (fi + v4))), some (.int (zI v9)), some (.int (zI (n + 1)))], [], es)) i_51_169 rfl ?_
                  exact K11 c1 c2 v3 e_v3 v4 e_v4 c5 c6 c7 c8 v9 p_v9 c10 c17 w18 e_w18 w19 e_w19
            · refine x_cmpF i_51_96 (by unfold i32 iLO iHI; omega) (by unfold i32 iLO iHI; omega) rfl (by simp only [zC, cR]; omega) ?_
              refine x0 (r := (172, [some (.ref 93), some (.int (zI sr)), some (.int (zI fa)), some (.int (zI fr)), some (.int (zI sd)), some (.ref so), some (.long al), none, some (.int (zI i)), some (.int (zI (rk + v3))), some (.int (zI (fi + v4))), some (.int (zI be)), some (.int (zI n))], [], es)) i_51_99 rfl ?_
              exact K12 c1 c2 v3 e_v3 v4 e_v4 c5 c6 c7 c8
/-! a ray of the class's BOARD -/
theorem and1 {x : Int} (h : i32 x) : (zI x &&& zI 1).toInt = x % 2 := by
  rw [Jvm.Kit.i32_mask (zI x) (zI 1) (k := 1) (by decide) (by decide), zI_toInt h]
  rfl
theorem zOff_in {s : Nat} {rk fi df dr : Int} (hs : (s : Int) = 6 * rk + fi) (h0 : 0 ≤ rk) (h1 : rk ≤ 5) (h2 : 0 ≤ fi) (h3 : fi ≤ 5) : zOff s df dr = if 0 ≤ fi + df ∧ fi + df ≤ 5 ∧ 0 ≤ rk + dr ∧ rk + dr ≤ 5 then 6 * (rk + dr) + (fi + df) else -1 := by
  unfold zOff
  rw [show ((s % 6 : Nat) : Int) = fi by omega, show ((s / 6 : Nat) : Int) = rk by omega]
theorem zRay_s {B : Nat → Int} {md : Nat} {sd df dr : Int} {k s t : Nat} : zRay B md sd df dr (k + 1) s t = if zOff s df dr < 0 then false else (decide ((zOff s df dr).toNat = t) && zHit B md sd (zOff s df dr).toNat) || (decide (B (zOff s df dr).toNat = -1) && zRay B md sd df dr k (zOff s df dr).toNat t) := rfl
theorem zRay_out {B : Nat → Int} {md : Nat} {sd df dr : Int} {k s t : Nat} (h : zOff s df dr < 0) : zRay B md sd df dr (k + 1) s t = false := by rw [zRay_s, if_pos h]
/-- onto o, where a man stands; and where none does -/
theorem zRay_man {B : Nat → Int} {md : Nat} {sd df dr : Int} {k s t o : Nat} (h : zOff s df dr = (o : Int)) (hb : ¬ B o = -1) : zRay B md sd df dr (k + 1) s t = (decide (o = t) && (decide (md ≠ 1) && decide (B o % 2 ≠ sd))) := by
  rw [zRay_s, if_neg (by omega), show (zOff s df dr).toNat = o by omega, decide_eq_false hb, Bool.false_and, Bool.or_false]
  unfold zHit
  rw [if_neg hb]
theorem zRay_free {B : Nat → Int} {md : Nat} {sd df dr : Int} {k s t o : Nat} (h : zOff s df dr = (o : Int)) (hb : B o = -1) : zRay B md sd df dr (k + 1) s t = ((decide (o = t) && decide (md ≠ 2)) || zRay B md sd df dr k o t) := by
  rw [zRay_s, if_neg (by omega), show (zOff s df dr).toNat = o by omega, decide_eq_true hb, Bool.true_and]
  unfold zHit
  rw [if_pos hb]
theorem zMode_14 : zMode (-12 - (-14)) = 1 := rfl
theorem zMode_16 : zMode (-12 - (-16)) = 2 := rfl
theorem zMode_n {sr : Int} (h : ¬ sr = -14) : decide (zMode (-12 - sr) ≠ 1) = true := by
  unfold zMode
  rw [if_neg (by omega)]
  split <;> rfl
theorem zMode_m {sr : Int} (h : ¬ sr = -16) : decide (zMode (-12 - sr) ≠ 2) = true := by
  unfold zMode
  split
  · rfl
  · rw [if_neg (by omega)]; rfl
/-- the BOARD of men that the class has at row p -/
def bdC (B : Nat → Int) (p : Nat) (es : PH) : Prop := ∀ s, s < 36 → (gA es p s).toInt = B s + 1 ∧ -1 ≤ B s ∧ B s ≤ 9
section
variable {O : pOut} {d kc ks : Nat} {Q : pRes → Prop} {es : PH} {B : Nat → Int} {go : Nat → Int32} {so ln : Nat}
theorem rb_in {sr fa fr sd i : Int} (hT : hOK tT es) (hB : bdC B 30 es) (ho64 : so < 64) (ho : O so = some (ln, go)) (hg : ∀ j, -2 ≤ (go j).toInt ∧ (go j).toInt ≤ 2) (h1 : -16 ≤ sr ∧ sr ≤ -12) (h2 : 0 ≤ fa ∧ fa ≤ 5) (h3 : 0 ≤ fr ∧ fr ≤ 35) (h4 : 0 ≤ sd ∧ sd ≤ 1) (h5 : 0 ≤ i ∧ i ≤ 20) (hi1 : i + 1 < (ln : Int)) : ∀ (m : Nat) (n rk fi : Int) (s : Nat) (al : Int64), n + (m : Int) = fa → 0 ≤ n → 0 ≤ rk → rk ≤ 5 → 0 ≤ fi → fi ≤ 5 → (s : Int) = 6 * rk + fi →
    (∀ (al' : Int64) (rk' fi' be' n' : Int), (∀ t, lbit al' t = (lbit al t || zRay B (zMode (-12 - sr)) sd (go (i + 1).toNat).toInt (go i.toNat).toInt m s t)) → aW O (d + 1) 51 kc ks Q (172, [some (.ref 93), some (.int (zI sr)), some (.int (zI fa)), some (.int (zI fr)), some (.int (zI sd)), some (.ref so), some (.long al'), none, some (.int (zI i)), some (.int (zI rk')), some (.int (zI fi')), some (.int (zI be')), some (.int (zI n'))], [], es)) →
    aW O (d + 1) 51 kc ks Q (42, [some (.ref 93), some (.int (zI sr)), some (.int (zI fa)), some (.int (zI fr)), some (.int (zI sd)), some (.ref so), some (.long al), none, some (.int (zI i)), some (.int (zI rk)), some (.int (zI fi)), some (.int (zI 0)), some (.int (zI n))], [], es) := by
  intro m
  induction m with
  | zero =>
    intro n rk fi s al hn h0 r0 r1 f0 f1 hs K
    have K1 := K al rk fi 0 n (fun t => by rw [show zRay B (zMode (-12 - sr)) sd (go (i + 1).toNat).toInt (go i.toNat).toInt 0 s t = false from rfl, Bool.or_false])
    have hc : ¬ ¬ fa ≤ n := by omega
    exact s_rb42 (d := d) (sh_of hT) ho64 ho hg h1 h2 h3 h4 h5 hi1 ⟨by omega, by omega⟩ ⟨by omega, by omega⟩ ⟨by omega, by omega⟩ ⟨by omega, by omega⟩ hT (fun _ => K1) (fun c => absurd c hc) (fun c => absurd c hc) (fun c => absurd c hc) (fun c => absurd c hc) (fun c => absurd c hc) (fun c => absurd c hc) (fun c => absurd c hc) (fun c => absurd c hc) (fun c => absurd c hc) (fun c => absurd c hc) (fun c => absurd c hc)
  | succ m ih =>
    intro n rk fi s al hn h0 r0 r1 f0 f1 hs K
    -- where a man stands there one stops
    have stopped : ∀ (al' : Int64) (rk' fi' be' : Int), -2 ≤ rk' ∧ rk' ≤ 7 → -2 ≤ fi' ∧ fi' ≤ 7 → 0 ≤ be' ∧ be' ≤ 10 → ¬ be' = 0 → (∀ t, lbit al' t = (lbit al t || zRay B (zMode (-12 - sr)) sd (go (i + 1).toNat).toInt (go i.toNat).toInt (m + 1) s t)) → aW O (d + 1) 51 kc ks Q (42, [some (.ref 93), some (.int (zI sr)), some (.int (zI fa)), some (.int (zI fr)), some (.int (zI sd)), some (.ref so), some (.long al'), none, some (.int (zI i)), some (.int (zI rk')), some (.int (zI fi')), some (.int (zI be')), some (.int (zI (n + 1)))], [], es) := by
      intro al' rk' fi' be' b1 b2 b3 b4 hb
      have K1 := K al' rk' fi' be' (n + 1) hb
      have hc : ¬ ¬ be' ≠ 0 := fun h => h b4
      exact s_rb42 (d := d) (sh_of hT) ho64 ho hg h1 h2 h3 h4 h5 hi1 b1 b2 b3 ⟨by omega, by omega⟩ hT (fun _ => K1) (fun _ _ => K1) (fun _ c => absurd c hc) (fun _ c => absurd c hc) (fun _ c => absurd c hc) (fun _ c => absurd c hc) (fun _ c => absurd c hc) (fun _ c => absurd c hc) (fun _ c => absurd c hc) (fun _ c => absurd c hc) (fun _ c => absurd c hc) (fun _ c => absurd c hc)
    have hz := zOff_in (df := (go (i + 1).toNat).toInt) (dr := (go i.toNat).toInt) hs r0 r1 f0 f1
    have out : zOff s (go (i + 1).toNat).toInt (go i.toNat).toInt < 0 → ∀ rk' fi' be' n', aW O (d + 1) 51 kc ks Q (172, [some (.ref 93), some (.int (zI sr)), some (.int (zI fa)), some (.int (zI fr)), some (.int (zI sd)), some (.ref so), some (.long al), none, some (.int (zI i)), some (.int (zI rk')), some (.int (zI fi')), some (.int (zI be')), some (.int (zI n'))], [], es) := fun h rk' fi' be' n' => K al rk' fi' be' n' (fun t => by rw [zRay_out h, Bool.or_false])
    have inn : ∀ {v3 v4 v9 : Int}, v3 = (go i.toNat).toInt → v4 = (go (i + 1).toNat).toInt → ¬ rk + v3 < 0 → ¬ 6 ≤ rk + v3 → ¬ fi + v4 < 0 → fi + v4 < 6 → atP 30 (6 * (rk + v3) + (fi + v4)) es v9 → ∃ o : Nat, (o : Int) = 6 * (rk + v3) + (fi + v4) ∧ o < 36 ∧ zOff s (go (i + 1).toNat).toInt (go i.toNat).toInt = (o : Int) ∧ v9 = B o + 1 ∧ -1 ≤ B o ∧ B o ≤ 9 := by
      intro v3 v4 v9 e3 e4 c1 c2 c3 c4 p9
      refine ⟨(6 * (rk + v3) + (fi + v4)).toNat, by omega, by omega, ?_, ?_⟩
      · rw [hz, ← e3, ← e4, if_pos ⟨by omega, by omega, by omega, by omega⟩]
        omega
      · have h9 := hB (6 * (rk + v3) + (fi + v4)).toNat (by omega)
        unfold atP at p9
        exact ⟨by rw [p9]; exact h9.1, h9.2⟩
    refine s_rb42 (d := d) (sh_of hT) ho64 ho hg h1 h2 h3 h4 h5 hi1 ⟨by omega, by omega⟩ ⟨by omega, by omega⟩ ⟨by omega, by omega⟩ ⟨by omega, by omega⟩ hT (fun c => absurd c (by omega)) (fun _ c => absurd rfl c) (fun _ _ v3 e3 v4 e4 c5 => ?_) (fun _ _ v3 e3 v4 e4 c5 c6 => ?_) (fun _ _ v3 e3 v4 e4 c5 c6 c7 => ?_) (fun _ _ v3 e3 v4 e4 c5 c6 c7 c8 v9 p9 c10 c11 => ?_) (fun _ _ v3 e3 v4 e4 c5 c6 c7 c8 v9 p9 c10 c11 c12 => ?_) (fun _ _ v3 e3 v4 e4 c5 c6 c7 c8 v9 p9 c10 c11 c12 v13 e13 c14 => ?_) (fun _ _ v3 e3 v4 e4 c5 c6 c7 c8 v9 p9 c10 c11 c12 v13 e13 c14 w15 e15 w16 e16 => ?_) (fun _ _ v3 e3 v4 e4 c5 c6 c7 c8 v9 p9 c10 c17 => ?_) (fun _ _ v3 e3 v4 e4 c5 c6 c7 c8 v9 p9 c10 c17 w18 e18 w19 e19 => ?_) (fun _ _ v3 e3 v4 e4 c5 c6 c7 c8 => ?_)
    · exact out (by rw [hz, if_neg (by omega)]; omega) _ _ _ _
    · exact out (by rw [hz, if_neg (by omega)]; omega) _ _ _ _
    · exact out (by rw [hz, if_neg (by omega)]; omega) _ _ _ _
    · obtain ⟨o, o1, o2, o3, o4, o5, o6⟩ := inn e3 e4 c5 c6 c7 c8 p9
      refine stopped al _ _ v9 ⟨by omega, by omega⟩ ⟨by omega, by omega⟩ ⟨by omega, by omega⟩ c10 (fun t => ?_)
      rw [zRay_man o3 (by omega), c11, zMode_14]
      simp
    · obtain ⟨o, o1, o2, o3, o4, o5, o6⟩ := inn e3 e4 c5 c6 c7 c8 p9
      exact absurd c12 (by omega)
    · obtain ⟨o, o1, o2, o3, o4, o5, o6⟩ := inn e3 e4 c5 c6 c7 c8 p9
      have hm : v13 = B o % 2 := by rw [e13, and1 (by unfold i32 iLO iHI; omega)]; omega
      refine stopped al _ _ v9 ⟨by omega, by omega⟩ ⟨by omega, by omega⟩ ⟨by omega, by omega⟩ c10 (fun t => ?_)
      rw [zRay_man o3 (by omega), decide_eq_false (show ¬ B o % 2 ≠ sd by omega)]
      simp
    · obtain ⟨o, o1, o2, o3, o4, o5, o6⟩ := inn e3 e4 c5 c6 c7 c8 p9
      have hm : v13 = B o % 2 := by rw [e13, and1 (by unfold i32 iLO iHI; omega)]; omega
      refine stopped w16 _ _ v9 ⟨by omega, by omega⟩ ⟨by omega, by omega⟩ ⟨by omega, by omega⟩ c10 (fun t => ?_)
      rw [e16, lbit_or, e15, lbit_sh (by omega) (by omega), show (6 * (rk + v3) + (fi + v4)).toNat = o by omega, zRay_man o3 (by omega), zMode_n c11, decide_eq_true (show B o % 2 ≠ sd by omega)]
      simp
    · obtain ⟨o, o1, o2, o3, o4, o5, o6⟩ := inn e3 e4 c5 c6 c7 c8 p9
      have hv : v9 = 0 := by omega
      subst hv
      refine ih (n + 1) (rk + v3) (fi + v4) o al (by omega) (by omega) (by omega) (by omega) (by omega) (by omega) o1 (fun al' rk' fi' be' n' hb => K al' rk' fi' be' n' (fun t => ?_))
      rw [hb t, zRay_free o3 (by omega), c17, zMode_16]
      simp
    · obtain ⟨o, o1, o2, o3, o4, o5, o6⟩ := inn e3 e4 c5 c6 c7 c8 p9
      have hv : v9 = 0 := by omega
      subst hv
      refine ih (n + 1) (rk + v3) (fi + v4) o w19 (by omega) (by omega) (by omega) (by omega) (by omega) (by omega) o1 (fun al' rk' fi' be' n' hb => K al' rk' fi' be' n' (fun t => ?_))
      rw [hb t, e19, lbit_or, e18, lbit_sh (by omega) (by omega), show (6 * (rk + v3) + (fi + v4)).toNat = o by omega, zRay_free o3 (by omega), zMode_m c17, Bool.and_true, Bool.or_assoc]
    · exact out (by rw [hz, if_neg (by omega)]; omega) _ _ _ _
end
