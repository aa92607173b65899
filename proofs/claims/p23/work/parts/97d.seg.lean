/-! SEGMENTS of methods by hand, printed by wip/ai2/mk97.py (hand11.py, hand12.py) -/
section
variable {O : pOut} {d j kc ks pc q a b : Nat} {Q : pRes → Prop} {L : PL} {s : List Value} {es : PH} {ret : Option FieldType}
theorem x_lald {p n : Nat} {sp : Nat → Int × Int} {x : Int} (hi' : iRow j pc = some (.laload, q, a, b, ret)) (hs : sh es) (hp : tT[p]? = some (.inl (1, n, sp))) (hx : i32 x) (h0 : 0 ≤ x) (h1 : x < n) (K : aW O d j kc ks Q (pc + 1, L, .long (gJ es p x.toNat) :: s, es)) : aW O d j kc ks Q (pc, L, .int (zI x) :: .ref (64 + p) :: s, es) := by
  have h2 := sh_arrL hs hp
  obtain ⟨c1, c2⟩ := pIn_of (i := zI x) (n := n) (by rw [zI_toInt hx]; exact h0) (by rw [zI_toInt hx]; exact h1)
  have c3 : (zI x).toNatClampNeg = x.toNat := by
    rw [zI_toInt hx] at c2; omega
  refine x1 hi' rfl (fun ini => ?_) rfl K
  simp only [pS1]
  have h64 : ¬ 64 + p < 64 := by omega
  rw [if_neg h64, show 64 + p - 64 = p by omega, h2]
  simp only [c1, if_true, c3]
theorem x_last {p n : Nat} {sp : Nat → Int × Int} {x : Int} {v : Int64} (hi' : iRow j pc = some (.lastore, q, a, b, ret)) (hs : sh es) (hp : tT[p]? = some (.inl (1, n, sp))) (hx : i32 x) (h0 : 0 ≤ x) (h1 : x < n) (K : aW O d j kc ks Q (pc + 1, L, s, sJ es p x.toNat v)) : aW O d j kc ks Q (pc, L, .long v :: .int (zI x) :: .ref (64 + p) :: s, es) := by
  have h2 := sh_arrL hs hp
  obtain ⟨c1, c2⟩ := pIn_of (i := zI x) (n := n) (by rw [zI_toInt hx]; exact h0) (by rw [zI_toInt hx]; exact h1)
  have c3 : (zI x).toNatClampNeg = x.toNat := by
    rw [zI_toInt hx] at c2; omega
  refine x1 hi' rfl (fun ini => ?_) rfl K
  simp only [pS1]
  have h64 : ¬ 64 + p < 64 := by omega
  rw [if_neg h64, show 64 + p - 64 = p by omega, h2]
  simp only [c1, if_true, c3]
  unfold sJ
  rw [h2]
end
theorem i_205_0 : iRow 205 0 = some (.aload_n 0, 0, 0, 0, (some (Jvm.ClassFile.FieldType.int))) := rfl
theorem i_205_1 : iRow 205 1 = some (.iload_n 1, 0, 0, 0, (some (Jvm.ClassFile.FieldType.int))) := rfl
theorem i_205_2 : iRow 205 2 = some (.iconst 1, 0, 0, 0, (some (Jvm.ClassFile.FieldType.int))) := rfl
theorem i_205_3 : iRow 205 3 = some (.invokevirtual 114, 295, 206, 1, (some (Jvm.ClassFile.FieldType.int))) := rfl
theorem i_205_6 : iRow 205 6 = some (.ireturn, 0, 0, 0, (some (Jvm.ClassFile.FieldType.int))) := rfl
theorem i_206_0 : iRow 206 0 = some (.aload_n 0, 0, 0, 0, (some (Jvm.ClassFile.FieldType.int))) := rfl
theorem i_206_1 : iRow 206 1 = some (.getfield 13, 165, 12, 1, (some (Jvm.ClassFile.FieldType.int))) := rfl
theorem i_206_4 : iRow 206 4 = some (.bipush 119, 0, 0, 0, (some (Jvm.ClassFile.FieldType.int))) := rfl
theorem i_206_6 : iRow 206 6 = some (.bipush 98, 0, 0, 0, (some (Jvm.ClassFile.FieldType.int))) := rfl
theorem i_206_8 : iRow 206 8 = some (.iload_n 1, 0, 0, 0, (some (Jvm.ClassFile.FieldType.int))) := rfl
theorem i_206_9 : iRow 206 9 = some (.imul, 0, 0, 0, (some (Jvm.ClassFile.FieldType.int))) := rfl
theorem i_206_10 : iRow 206 10 = some (.iadd, 0, 0, 0, (some (Jvm.ClassFile.FieldType.int))) := rfl
theorem i_206_11 : iRow 206 11 = some (.iload_n 2, 0, 0, 0, (some (Jvm.ClassFile.FieldType.int))) := rfl
theorem i_206_12 : iRow 206 12 = some (.iadd, 0, 0, 0, (some (Jvm.ClassFile.FieldType.int))) := rfl
theorem i_206_13 : iRow 206 13 = some (.iaload, 0, 0, 0, (some (Jvm.ClassFile.FieldType.int))) := rfl
theorem i_206_14 : iRow 206 14 = some (.ireturn, 0, 0, 0, (some (Jvm.ClassFile.FieldType.int))) := rfl
theorem i_211_0 : iRow 211 0 = some (.aload_n 0, 0, 0, 0, (some (Jvm.ClassFile.FieldType.int))) := rfl
theorem i_211_1 : iRow 211 1 = some (.iload_n 1, 0, 0, 0, (some (Jvm.ClassFile.FieldType.int))) := rfl
theorem i_211_2 : iRow 211 2 = some (.iconst 2, 0, 0, 0, (some (Jvm.ClassFile.FieldType.int))) := rfl
theorem i_211_3 : iRow 211 3 = some (.iconst 4, 0, 0, 0, (some (Jvm.ClassFile.FieldType.int))) := rfl
theorem i_211_4 : iRow 211 4 = some (.iload_n 2, 0, 0, 0, (some (Jvm.ClassFile.FieldType.int))) := rfl
theorem i_211_5 : iRow 211 5 = some (.imul, 0, 0, 0, (some (Jvm.ClassFile.FieldType.int))) := rfl
theorem i_211_6 : iRow 211 6 = some (.iadd, 0, 0, 0, (some (Jvm.ClassFile.FieldType.int))) := rfl
theorem i_211_7 : iRow 211 7 = some (.iload_n 3, 0, 0, 0, (some (Jvm.ClassFile.FieldType.int))) := rfl
theorem i_211_8 : iRow 211 8 = some (.iadd, 0, 0, 0, (some (Jvm.ClassFile.FieldType.int))) := rfl
theorem i_211_9 : iRow 211 9 = some (.invokevirtual 114, 295, 206, 1, (some (Jvm.ClassFile.FieldType.int))) := rfl
theorem i_211_12 : iRow 211 12 = some (.ireturn, 0, 0, 0, (some (Jvm.ClassFile.FieldType.int))) := rfl
theorem i_233_0 : iRow 233 0 = some (.iconst 0, 0, 0, 0, none) := rfl
theorem i_233_1 : iRow 233 1 = some (.istore_n 2, 0, 0, 0, none) := rfl
theorem i_233_2 : iRow 233 2 = some (.iload_n 2, 0, 0, 0, none) := rfl
theorem i_233_3 : iRow 233 3 = some (.aload_n 0, 0, 0, 0, none) := rfl
theorem i_233_4 : iRow 233 4 = some (.getfield 68, 196, 12, 33, none) := rfl
theorem i_233_7 : iRow 233 7 = some (.arraylength, 0, 0, 0, none) := rfl
theorem i_233_8 : iRow 233 8 = some (.if_icmp .ge 23, 0, 0, 0, none) := rfl
theorem i_233_11 : iRow 233 11 = some (.aload_n 0, 0, 0, 0, none) := rfl
theorem i_233_12 : iRow 233 12 = some (.getfield 68, 196, 12, 33, none) := rfl
theorem i_233_15 : iRow 233 15 = some (.iload_n 2, 0, 0, 0, none) := rfl
theorem i_233_16 : iRow 233 16 = some (.lconst 0, 0, 0, 0, none) := rfl
theorem i_233_17 : iRow 233 17 = some (.lastore, 0, 0, 0, none) := rfl
theorem i_233_18 : iRow 233 18 = some (.aload_n 0, 0, 0, 0, none) := rfl
theorem i_233_19 : iRow 233 19 = some (.getfield 72, 197, 12, 34, none) := rfl
theorem i_233_22 : iRow 233 22 = some (.iload_n 2, 0, 0, 0, none) := rfl
theorem i_233_23 : iRow 233 23 = some (.lconst 0, 0, 0, 0, none) := rfl
theorem i_233_24 : iRow 233 24 = some (.lastore, 0, 0, 0, none) := rfl
theorem i_233_25 : iRow 233 25 = some (.iinc 2 1, 0, 0, 0, none) := rfl
theorem i_233_28 : iRow 233 28 = some (.goto (-26), 0, 0, 0, none) := rfl
theorem i_233_31 : iRow 233 31 = some (.aload_n 0, 0, 0, 0, none) := rfl
theorem i_233_32 : iRow 233 32 = some (.iconst 0, 0, 0, 0, none) := rfl
theorem i_233_33 : iRow 233 33 = some (.putfield 374, 200, 12, 37, none) := rfl
theorem i_233_36 : iRow 233 36 = some (.aload_n 0, 0, 0, 0, none) := rfl
theorem i_233_37 : iRow 233 37 = some (.iconst 0, 0, 0, 0, none) := rfl
theorem i_233_38 : iRow 233 38 = some (.putfield 404, 192, 12, 28, none) := rfl
theorem i_233_41 : iRow 233 41 = some (.aload_n 0, 0, 0, 0, none) := rfl
theorem i_233_42 : iRow 233 42 = some (.invokevirtual 302, 306, 217, 1, none) := rfl
theorem i_233_45 : iRow 233 45 = some (.aload_n 0, 0, 0, 0, none) := rfl
theorem i_233_46 : iRow 233 46 = some (.iconst 0, 0, 0, 0, none) := rfl
theorem i_233_47 : iRow 233 47 = some (.invokevirtual 420, 323, 234, 1, none) := rfl
theorem i_233_50 : iRow 233 50 = some (.aload_n 0, 0, 0, 0, none) := rfl
theorem i_233_51 : iRow 233 51 = some (.iconst 0, 0, 0, 0, none) := rfl
theorem i_233_52 : iRow 233 52 = some (.iload_n 1, 0, 0, 0, none) := rfl
theorem i_233_53 : iRow 233 53 = some (.invokevirtual 423, 333, 243, 1, none) := rfl
theorem i_233_56 : iRow 233 56 = some (.iconst 0, 0, 0, 0, none) := rfl
theorem i_233_57 : iRow 233 57 = some (.istore_n 2, 0, 0, 0, none) := rfl
theorem i_233_58 : iRow 233 58 = some (.iload_n 2, 0, 0, 0, none) := rfl
theorem i_233_59 : iRow 233 59 = some (.ifCond .lt 168, 0, 0, 0, none) := rfl
theorem i_233_62 : iRow 233 62 = some (.aload_n 0, 0, 0, 0, none) := rfl
theorem i_233_63 : iRow 233 63 = some (.getfield 401, 193, 12, 29, none) := rfl
theorem i_233_66 : iRow 233 66 = some (.ifCond .ne 161, 0, 0, 0, none) := rfl
theorem i_233_69 : iRow 233 69 = some (.aload_n 0, 0, 0, 0, none) := rfl
theorem i_233_70 : iRow 233 70 = some (.getfield 65, 195, 12, 31, none) := rfl
theorem i_233_73 : iRow 233 73 = some (.iload_n 2, 0, 0, 0, none) := rfl
theorem i_233_74 : iRow 233 74 = some (.iaload, 0, 0, 0, none) := rfl
theorem i_233_75 : iRow 233 75 = some (.istore_n 3, 0, 0, 0, none) := rfl
theorem i_233_76 : iRow 233 76 = some (.iload_n 3, 0, 0, 0, none) := rfl
theorem i_233_77 : iRow 233 77 = some (.sipush 1296, 0, 0, 0, none) := rfl
theorem i_233_80 : iRow 233 80 = some (.if_icmp .ge 24, 0, 0, 0, none) := rfl
theorem i_233_83 : iRow 233 83 = some (.aload_n 0, 0, 0, 0, none) := rfl
theorem i_233_84 : iRow 233 84 = some (.getfield 43, 181, 12, 17, none) := rfl
theorem i_233_87 : iRow 233 87 = some (.sipush 1296, 0, 0, 0, none) := rfl
theorem i_233_90 : iRow 233 90 = some (.iload_n 2, 0, 0, 0, none) := rfl
theorem i_233_91 : iRow 233 91 = some (.imul, 0, 0, 0, none) := rfl
theorem i_233_92 : iRow 233 92 = some (.iload_n 3, 0, 0, 0, none) := rfl
theorem i_233_93 : iRow 233 93 = some (.iadd, 0, 0, 0, none) := rfl
theorem i_233_94 : iRow 233 94 = some (.baload, 0, 0, 0, none) := rfl
theorem i_233_95 : iRow 233 95 = some (.ifCond .ne 9, 0, 0, 0, none) := rfl
theorem i_233_98 : iRow 233 98 = some (.iinc 3 1, 0, 0, 0, none) := rfl
theorem i_233_101 : iRow 233 101 = some (.goto (-25), 0, 0, 0, none) := rfl
theorem i_233_104 : iRow 233 104 = some (.iload_n 3, 0, 0, 0, none) := rfl
theorem i_233_105 : iRow 233 105 = some (.sipush 1296, 0, 0, 0, none) := rfl
theorem i_233_108 : iRow 233 108 = some (.if_icmp .ne 9, 0, 0, 0, none) := rfl
theorem i_233_111 : iRow 233 111 = some (.iinc 2 (-1), 0, 0, 0, none) := rfl
theorem i_233_114 : iRow 233 114 = some (.goto (-56), 0, 0, 0, none) := rfl
theorem i_233_117 : iRow 233 117 = some (.aload_n 0, 0, 0, 0, none) := rfl
theorem i_233_118 : iRow 233 118 = some (.getfield 65, 195, 12, 31, none) := rfl
theorem i_233_121 : iRow 233 121 = some (.iload_n 2, 0, 0, 0, none) := rfl
theorem i_233_122 : iRow 233 122 = some (.iload_n 3, 0, 0, 0, none) := rfl
theorem i_233_123 : iRow 233 123 = some (.iconst 1, 0, 0, 0, none) := rfl
theorem i_233_124 : iRow 233 124 = some (.iadd, 0, 0, 0, none) := rfl
theorem i_233_125 : iRow 233 125 = some (.iastore, 0, 0, 0, none) := rfl
theorem i_233_126 : iRow 233 126 = some (.aload_n 0, 0, 0, 0, none) := rfl
theorem i_233_127 : iRow 233 127 = some (.getfield 53, 185, 12, 21, none) := rfl
theorem i_233_130 : iRow 233 130 = some (.iload_n 2, 0, 0, 0, none) := rfl
theorem i_233_131 : iRow 233 131 = some (.iload_n 3, 0, 0, 0, none) := rfl
theorem i_233_132 : iRow 233 132 = some (.iastore, 0, 0, 0, none) := rfl
theorem i_233_133 : iRow 233 133 = some (.aload_n 0, 0, 0, 0, none) := rfl
theorem i_233_134 : iRow 233 134 = some (.iload_n 2, 0, 0, 0, none) := rfl
theorem i_233_135 : iRow 233 135 = some (.iload_n 3, 0, 0, 0, none) := rfl
theorem i_233_136 : iRow 233 136 = some (.invokevirtual 426, 344, 253, 1, none) := rfl
theorem i_233_139 : iRow 233 139 = some (.iconst 0, 0, 0, 0, none) := rfl
theorem i_233_140 : iRow 233 140 = some (.istore 4, 0, 0, 0, none) := rfl
theorem i_233_142 : iRow 233 142 = some (.iload 4, 0, 0, 0, none) := rfl
theorem i_233_144 : iRow 233 144 = some (.aload_n 0, 0, 0, 0, none) := rfl
theorem i_233_145 : iRow 233 145 = some (.getfield 13, 165, 12, 1, none) := rfl
theorem i_233_148 : iRow 233 148 = some (.iconst 1, 0, 0, 0, none) := rfl
theorem i_233_149 : iRow 233 149 = some (.iaload, 0, 0, 0, none) := rfl
theorem i_233_150 : iRow 233 150 = some (.if_icmp .ge 47, 0, 0, 0, none) := rfl
theorem i_233_153 : iRow 233 153 = some (.iconst 0, 0, 0, 0, none) := rfl
theorem i_233_154 : iRow 233 154 = some (.istore 5, 0, 0, 0, none) := rfl
theorem i_233_156 : iRow 233 156 = some (.iload 5, 0, 0, 0, none) := rfl
theorem i_233_158 : iRow 233 158 = some (.aload_n 0, 0, 0, 0, none) := rfl
theorem i_233_159 : iRow 233 159 = some (.iload 4, 0, 0, 0, none) := rfl
theorem i_233_161 : iRow 233 161 = some (.invokevirtual 251, 294, 205, 1, none) := rfl
theorem i_233_164 : iRow 233 164 = some (.if_icmp .ge 27, 0, 0, 0, none) := rfl
theorem i_233_167 : iRow 233 167 = some (.aload_n 0, 0, 0, 0, none) := rfl
theorem i_233_168 : iRow 233 168 = some (.iload 4, 0, 0, 0, none) := rfl
theorem i_233_170 : iRow 233 170 = some (.invokevirtual 353, 324, 235, 1, none) := rfl
theorem i_233_173 : iRow 233 173 = some (.ifCond .eq 18, 0, 0, 0, none) := rfl
theorem i_233_176 : iRow 233 176 = some (.aload_n 0, 0, 0, 0, none) := rfl
theorem i_233_177 : iRow 233 177 = some (.iload_n 2, 0, 0, 0, none) := rfl
theorem i_233_178 : iRow 233 178 = some (.iload 4, 0, 0, 0, none) := rfl
theorem i_233_180 : iRow 233 180 = some (.iload 5, 0, 0, 0, none) := rfl
theorem i_233_182 : iRow 233 182 = some (.invokevirtual 429, 345, 254, 1, none) := rfl
theorem i_233_185 : iRow 233 185 = some (.iinc 5 1, 0, 0, 0, none) := rfl
theorem i_233_188 : iRow 233 188 = some (.goto (-32), 0, 0, 0, none) := rfl
theorem i_233_191 : iRow 233 191 = some (.iinc 4 1, 0, 0, 0, none) := rfl
theorem i_233_194 : iRow 233 194 = some (.goto (-52), 0, 0, 0, none) := rfl
theorem i_233_197 : iRow 233 197 = some (.aload_n 0, 0, 0, 0, none) := rfl
theorem i_233_198 : iRow 233 198 = some (.iload_n 2, 0, 0, 0, none) := rfl
theorem i_233_199 : iRow 233 199 = some (.iconst 1, 0, 0, 0, none) := rfl
theorem i_233_200 : iRow 233 200 = some (.iadd, 0, 0, 0, none) := rfl
theorem i_233_201 : iRow 233 201 = some (.invokevirtual 420, 323, 234, 1, none) := rfl
theorem i_233_204 : iRow 233 204 = some (.aload_n 0, 0, 0, 0, none) := rfl
theorem i_233_205 : iRow 233 205 = some (.getfield 347, 189, 12, 25, none) := rfl
theorem i_233_208 : iRow 233 208 = some (.iload_n 1, 0, 0, 0, none) := rfl
theorem i_233_209 : iRow 233 209 = some (.if_icmp .le 6, 0, 0, 0, none) := rfl
theorem i_233_212 : iRow 233 212 = some (.goto (-154), 0, 0, 0, none) := rfl
theorem i_233_215 : iRow 233 215 = some (.iinc 2 1, 0, 0, 0, none) := rfl
theorem i_233_218 : iRow 233 218 = some (.aload_n 0, 0, 0, 0, none) := rfl
theorem i_233_219 : iRow 233 219 = some (.iload_n 2, 0, 0, 0, none) := rfl
theorem i_233_220 : iRow 233 220 = some (.iload_n 1, 0, 0, 0, none) := rfl
theorem i_233_221 : iRow 233 221 = some (.invokevirtual 423, 333, 243, 1, none) := rfl
theorem i_233_224 : iRow 233 224 = some (.goto (-166), 0, 0, 0, none) := rfl
theorem i_233_227 : iRow 233 227 = some (.return_, 0, 0, 0, none) := rfl
theorem i_234_0 : iRow 234 0 = some (.aload_n 0, 0, 0, 0, none) := rfl
theorem i_234_1 : iRow 234 1 = some (.iconst 0, 0, 0, 0, none) := rfl
theorem i_234_2 : iRow 234 2 = some (.putfield 347, 189, 12, 25, none) := rfl
theorem i_234_5 : iRow 234 5 = some (.aload_n 0, 0, 0, 0, none) := rfl
theorem i_234_6 : iRow 234 6 = some (.iconst 0, 0, 0, 0, none) := rfl
theorem i_234_7 : iRow 234 7 = some (.putfield 350, 190, 12, 26, none) := rfl
theorem i_234_10 : iRow 234 10 = some (.iconst 0, 0, 0, 0, none) := rfl
theorem i_234_11 : iRow 234 11 = some (.istore_n 2, 0, 0, 0, none) := rfl
theorem i_234_12 : iRow 234 12 = some (.iload_n 2, 0, 0, 0, none) := rfl
theorem i_234_13 : iRow 234 13 = some (.aload_n 0, 0, 0, 0, none) := rfl
theorem i_234_14 : iRow 234 14 = some (.getfield 13, 165, 12, 1, none) := rfl
theorem i_234_17 : iRow 234 17 = some (.iconst 1, 0, 0, 0, none) := rfl
theorem i_234_18 : iRow 234 18 = some (.iaload, 0, 0, 0, none) := rfl
theorem i_234_19 : iRow 234 19 = some (.if_icmp .ge 100, 0, 0, 0, none) := rfl
theorem i_234_22 : iRow 234 22 = some (.aload_n 0, 0, 0, 0, none) := rfl
theorem i_234_23 : iRow 234 23 = some (.iload_n 2, 0, 0, 0, none) := rfl
theorem i_234_24 : iRow 234 24 = some (.invokevirtual 353, 324, 235, 1, none) := rfl
theorem i_234_27 : iRow 234 27 = some (.ifCond .ne 6, 0, 0, 0, none) := rfl
theorem i_234_30 : iRow 234 30 = some (.goto 83, 0, 0, 0, none) := rfl
theorem i_234_33 : iRow 234 33 = some (.aload_n 0, 0, 0, 0, none) := rfl
theorem i_234_34 : iRow 234 34 = some (.iload_n 2, 0, 0, 0, none) := rfl
theorem i_234_35 : iRow 234 35 = some (.iload_n 1, 0, 0, 0, none) := rfl
theorem i_234_36 : iRow 234 36 = some (.invokevirtual 356, 325, 236, 1, none) := rfl
theorem i_234_39 : iRow 234 39 = some (.sipush 1000, 0, 0, 0, none) := rfl
theorem i_234_42 : iRow 234 42 = some (.istore_n 3, 0, 0, 0, none) := rfl
theorem i_234_43 : iRow 234 43 = some (.iconst 0, 0, 0, 0, none) := rfl
theorem i_234_44 : iRow 234 44 = some (.istore 4, 0, 0, 0, none) := rfl
theorem i_234_46 : iRow 234 46 = some (.iload 4, 0, 0, 0, none) := rfl
theorem i_234_48 : iRow 234 48 = some (.aload_n 0, 0, 0, 0, none) := rfl
theorem i_234_49 : iRow 234 49 = some (.iload_n 2, 0, 0, 0, none) := rfl
theorem i_234_50 : iRow 234 50 = some (.invokevirtual 251, 294, 205, 1, none) := rfl
theorem i_234_53 : iRow 234 53 = some (.if_icmp .gt 26, 0, 0, 0, none) := rfl
theorem i_234_56 : iRow 234 56 = some (.iload_n 3, 0, 0, 0, none) := rfl
theorem i_234_57 : iRow 234 57 = some (.aload_n 0, 0, 0, 0, none) := rfl
theorem i_234_58 : iRow 234 58 = some (.getfield 62, 188, 12, 24, none) := rfl
theorem i_234_61 : iRow 234 61 = some (.iload_n 2, 0, 0, 0, none) := rfl
theorem i_234_62 : iRow 234 62 = some (.iload_n 1, 0, 0, 0, none) := rfl
theorem i_234_63 : iRow 234 63 = some (.iload 4, 0, 0, 0, none) := rfl
theorem i_234_65 : iRow 234 65 = some (.invokestatic 332, 327, 238, 0, none) := rfl
theorem i_234_68 : iRow 234 68 = some (.iaload, 0, 0, 0, none) := rfl
theorem i_234_69 : iRow 234 69 = some (.invokestatic 326, 332, 21, 0, none) := rfl
theorem i_234_72 : iRow 234 72 = some (.istore_n 3, 0, 0, 0, none) := rfl
theorem i_234_73 : iRow 234 73 = some (.iinc 4 1, 0, 0, 0, none) := rfl
theorem i_234_76 : iRow 234 76 = some (.goto (-30), 0, 0, 0, none) := rfl
theorem i_234_79 : iRow 234 79 = some (.aload_n 0, 0, 0, 0, none) := rfl
theorem i_234_80 : iRow 234 80 = some (.dup, 0, 0, 0, none) := rfl
theorem i_234_81 : iRow 234 81 = some (.getfield 347, 189, 12, 25, none) := rfl
theorem i_234_84 : iRow 234 84 = some (.iload_n 3, 0, 0, 0, none) := rfl
theorem i_234_85 : iRow 234 85 = some (.iadd, 0, 0, 0, none) := rfl
theorem i_234_86 : iRow 234 86 = some (.putfield 347, 189, 12, 25, none) := rfl
theorem i_234_89 : iRow 234 89 = some (.aload_n 0, 0, 0, 0, none) := rfl
theorem i_234_90 : iRow 234 90 = some (.dup, 0, 0, 0, none) := rfl
theorem i_234_91 : iRow 234 91 = some (.getfield 350, 190, 12, 26, none) := rfl
theorem i_234_94 : iRow 234 94 = some (.aload_n 0, 0, 0, 0, none) := rfl
theorem i_234_95 : iRow 234 95 = some (.getfield 62, 188, 12, 24, none) := rfl
theorem i_234_98 : iRow 234 98 = some (.iload_n 2, 0, 0, 0, none) := rfl
theorem i_234_99 : iRow 234 99 = some (.iload_n 1, 0, 0, 0, none) := rfl
theorem i_234_100 : iRow 234 100 = some (.aload_n 0, 0, 0, 0, none) := rfl
theorem i_234_101 : iRow 234 101 = some (.iload_n 2, 0, 0, 0, none) := rfl
theorem i_234_102 : iRow 234 102 = some (.invokevirtual 251, 294, 205, 1, none) := rfl
theorem i_234_105 : iRow 234 105 = some (.invokestatic 332, 327, 238, 0, none) := rfl
theorem i_234_108 : iRow 234 108 = some (.iaload, 0, 0, 0, none) := rfl
theorem i_234_109 : iRow 234 109 = some (.iadd, 0, 0, 0, none) := rfl
theorem i_234_110 : iRow 234 110 = some (.putfield 350, 190, 12, 26, none) := rfl
theorem i_234_113 : iRow 234 113 = some (.iinc 2 1, 0, 0, 0, none) := rfl
theorem i_234_116 : iRow 234 116 = some (.goto (-104), 0, 0, 0, none) := rfl
theorem i_234_119 : iRow 234 119 = some (.return_, 0, 0, 0, none) := rfl
theorem i_235_0 : iRow 235 0 = some (.aload_n 0, 0, 0, 0, (some (Jvm.ClassFile.FieldType.boolean))) := rfl
theorem i_235_1 : iRow 235 1 = some (.getfield 314, 182, 12, 18, (some (Jvm.ClassFile.FieldType.boolean))) := rfl
theorem i_235_4 : iRow 235 4 = some (.iload_n 1, 0, 0, 0, (some (Jvm.ClassFile.FieldType.boolean))) := rfl
theorem i_235_5 : iRow 235 5 = some (.ishr, 0, 0, 0, (some (Jvm.ClassFile.FieldType.boolean))) := rfl
theorem i_235_6 : iRow 235 6 = some (.iconst 1, 0, 0, 0, (some (Jvm.ClassFile.FieldType.boolean))) := rfl
theorem i_235_7 : iRow 235 7 = some (.iand, 0, 0, 0, (some (Jvm.ClassFile.FieldType.boolean))) := rfl
theorem i_235_8 : iRow 235 8 = some (.iconst 1, 0, 0, 0, (some (Jvm.ClassFile.FieldType.boolean))) := rfl
theorem i_235_9 : iRow 235 9 = some (.if_icmp .ne 7, 0, 0, 0, (some (Jvm.ClassFile.FieldType.boolean))) := rfl
theorem i_235_12 : iRow 235 12 = some (.iconst 1, 0, 0, 0, (some (Jvm.ClassFile.FieldType.boolean))) := rfl
theorem i_235_13 : iRow 235 13 = some (.goto 4, 0, 0, 0, (some (Jvm.ClassFile.FieldType.boolean))) := rfl
theorem i_235_16 : iRow 235 16 = some (.iconst 0, 0, 0, 0, (some (Jvm.ClassFile.FieldType.boolean))) := rfl
theorem i_235_17 : iRow 235 17 = some (.ireturn, 0, 0, 0, (some (Jvm.ClassFile.FieldType.boolean))) := rfl
theorem i_236_0 : iRow 236 0 = some (.iconst 0, 0, 0, 0, none) := rfl
theorem i_236_1 : iRow 236 1 = some (.istore_n 3, 0, 0, 0, none) := rfl
theorem i_236_2 : iRow 236 2 = some (.iload_n 3, 0, 0, 0, none) := rfl
theorem i_236_3 : iRow 236 3 = some (.aload_n 0, 0, 0, 0, none) := rfl
theorem i_236_4 : iRow 236 4 = some (.iload_n 1, 0, 0, 0, none) := rfl
theorem i_236_5 : iRow 236 5 = some (.invokevirtual 251, 294, 205, 1, none) := rfl
theorem i_236_8 : iRow 236 8 = some (.if_icmp .gt 67, 0, 0, 0, none) := rfl
theorem i_236_11 : iRow 236 11 = some (.iload_n 2, 0, 0, 0, none) := rfl
theorem i_236_12 : iRow 236 12 = some (.iload_n 3, 0, 0, 0, none) := rfl
theorem i_236_13 : iRow 236 13 = some (.iadd, 0, 0, 0, none) := rfl
theorem i_236_14 : iRow 236 14 = some (.ifCond .ne 7, 0, 0, 0, none) := rfl
theorem i_236_17 : iRow 236 17 = some (.iconst 0, 0, 0, 0, none) := rfl
theorem i_236_18 : iRow 236 18 = some (.goto 30, 0, 0, 0, none) := rfl
theorem i_236_21 : iRow 236 21 = some (.aload_n 0, 0, 0, 0, none) := rfl
theorem i_236_22 : iRow 236 22 = some (.iload_n 2, 0, 0, 0, none) := rfl
theorem i_236_23 : iRow 236 23 = some (.iload_n 3, 0, 0, 0, none) := rfl
theorem i_236_24 : iRow 236 24 = some (.iload_n 1, 0, 0, 0, none) := rfl
theorem i_236_25 : iRow 236 25 = some (.invokevirtual 338, 326, 237, 1, none) := rfl
theorem i_236_28 : iRow 236 28 = some (.aload_n 0, 0, 0, 0, none) := rfl
theorem i_236_29 : iRow 236 29 = some (.iload_n 2, 0, 0, 0, none) := rfl
theorem i_236_30 : iRow 236 30 = some (.iload_n 3, 0, 0, 0, none) := rfl
theorem i_236_31 : iRow 236 31 = some (.iload_n 1, 0, 0, 0, none) := rfl
theorem i_236_32 : iRow 236 32 = some (.invokevirtual 341, 329, 240, 1, none) := rfl
theorem i_236_35 : iRow 236 35 = some (.aload_n 0, 0, 0, 0, none) := rfl
theorem i_236_36 : iRow 236 36 = some (.iload_n 2, 0, 0, 0, none) := rfl
theorem i_236_37 : iRow 236 37 = some (.iload_n 3, 0, 0, 0, none) := rfl
theorem i_236_38 : iRow 236 38 = some (.iload_n 1, 0, 0, 0, none) := rfl
theorem i_236_39 : iRow 236 39 = some (.invokevirtual 344, 330, 241, 1, none) := rfl
theorem i_236_42 : iRow 236 42 = some (.invokestatic 326, 332, 21, 0, none) := rfl
theorem i_236_45 : iRow 236 45 = some (.invokestatic 326, 332, 21, 0, none) := rfl
theorem i_236_48 : iRow 236 48 = some (.istore 4, 0, 0, 0, none) := rfl
theorem i_236_50 : iRow 236 50 = some (.aload_n 0, 0, 0, 0, none) := rfl
theorem i_236_51 : iRow 236 51 = some (.getfield 62, 188, 12, 24, none) := rfl
theorem i_236_54 : iRow 236 54 = some (.iload_n 1, 0, 0, 0, none) := rfl
theorem i_236_55 : iRow 236 55 = some (.iload_n 2, 0, 0, 0, none) := rfl
theorem i_236_56 : iRow 236 56 = some (.iload_n 3, 0, 0, 0, none) := rfl
theorem i_236_57 : iRow 236 57 = some (.invokestatic 332, 327, 238, 0, none) := rfl
theorem i_236_60 : iRow 236 60 = some (.sipush 1000, 0, 0, 0, none) := rfl
theorem i_236_63 : iRow 236 63 = some (.iload 4, 0, 0, 0, none) := rfl
theorem i_236_65 : iRow 236 65 = some (.invokestatic 326, 332, 21, 0, none) := rfl
theorem i_236_68 : iRow 236 68 = some (.iastore, 0, 0, 0, none) := rfl
theorem i_236_69 : iRow 236 69 = some (.iinc 3 1, 0, 0, 0, none) := rfl
theorem i_236_72 : iRow 236 72 = some (.goto (-70), 0, 0, 0, none) := rfl
theorem i_236_75 : iRow 236 75 = some (.return_, 0, 0, 0, none) := rfl
theorem i_237_0 : iRow 237 0 = some (.iload_n 1, 0, 0, 0, (some (Jvm.ClassFile.FieldType.int))) := rfl
theorem i_237_1 : iRow 237 1 = some (.ifCond .eq 7, 0, 0, 0, (some (Jvm.ClassFile.FieldType.int))) := rfl
theorem i_237_4 : iRow 237 4 = some (.iload_n 2, 0, 0, 0, (some (Jvm.ClassFile.FieldType.int))) := rfl
theorem i_237_5 : iRow 237 5 = some (.ifCond .ne 9, 0, 0, 0, (some (Jvm.ClassFile.FieldType.int))) := rfl
theorem i_237_8 : iRow 237 8 = some (.sipush 1000, 0, 0, 0, (some (Jvm.ClassFile.FieldType.int))) := rfl
theorem i_237_11 : iRow 237 11 = some (.goto 34, 0, 0, 0, (some (Jvm.ClassFile.FieldType.int))) := rfl
theorem i_237_14 : iRow 237 14 = some (.aload_n 0, 0, 0, 0, (some (Jvm.ClassFile.FieldType.int))) := rfl
theorem i_237_15 : iRow 237 15 = some (.getfield 62, 188, 12, 24, (some (Jvm.ClassFile.FieldType.int))) := rfl
theorem i_237_18 : iRow 237 18 = some (.iload_n 3, 0, 0, 0, (some (Jvm.ClassFile.FieldType.int))) := rfl
theorem i_237_19 : iRow 237 19 = some (.iload_n 1, 0, 0, 0, (some (Jvm.ClassFile.FieldType.int))) := rfl
theorem i_237_20 : iRow 237 20 = some (.iconst 1, 0, 0, 0, (some (Jvm.ClassFile.FieldType.int))) := rfl
theorem i_237_21 : iRow 237 21 = some (.isub, 0, 0, 0, (some (Jvm.ClassFile.FieldType.int))) := rfl
theorem i_237_22 : iRow 237 22 = some (.iload_n 2, 0, 0, 0, (some (Jvm.ClassFile.FieldType.int))) := rfl
theorem i_237_23 : iRow 237 23 = some (.iconst 1, 0, 0, 0, (some (Jvm.ClassFile.FieldType.int))) := rfl
theorem i_237_24 : iRow 237 24 = some (.isub, 0, 0, 0, (some (Jvm.ClassFile.FieldType.int))) := rfl
theorem i_237_25 : iRow 237 25 = some (.invokestatic 332, 327, 238, 0, (some (Jvm.ClassFile.FieldType.int))) := rfl
theorem i_237_28 : iRow 237 28 = some (.iaload, 0, 0, 0, (some (Jvm.ClassFile.FieldType.int))) := rfl
theorem i_237_29 : iRow 237 29 = some (.aload_n 0, 0, 0, 0, (some (Jvm.ClassFile.FieldType.int))) := rfl
theorem i_237_30 : iRow 237 30 = some (.getfield 56, 186, 12, 22, (some (Jvm.ClassFile.FieldType.int))) := rfl
theorem i_237_33 : iRow 237 33 = some (.iload_n 1, 0, 0, 0, (some (Jvm.ClassFile.FieldType.int))) := rfl
theorem i_237_34 : iRow 237 34 = some (.iconst 1, 0, 0, 0, (some (Jvm.ClassFile.FieldType.int))) := rfl
theorem i_237_35 : iRow 237 35 = some (.isub, 0, 0, 0, (some (Jvm.ClassFile.FieldType.int))) := rfl
theorem i_237_36 : iRow 237 36 = some (.iload_n 3, 0, 0, 0, (some (Jvm.ClassFile.FieldType.int))) := rfl
theorem i_237_37 : iRow 237 37 = some (.iload_n 2, 0, 0, 0, (some (Jvm.ClassFile.FieldType.int))) := rfl
theorem i_237_38 : iRow 237 38 = some (.iconst 1, 0, 0, 0, (some (Jvm.ClassFile.FieldType.int))) := rfl
theorem i_237_39 : iRow 237 39 = some (.isub, 0, 0, 0, (some (Jvm.ClassFile.FieldType.int))) := rfl
theorem i_237_40 : iRow 237 40 = some (.invokestatic 329, 328, 239, 0, (some (Jvm.ClassFile.FieldType.int))) := rfl
theorem i_237_43 : iRow 237 43 = some (.iaload, 0, 0, 0, (some (Jvm.ClassFile.FieldType.int))) := rfl
theorem i_237_44 : iRow 237 44 = some (.iadd, 0, 0, 0, (some (Jvm.ClassFile.FieldType.int))) := rfl
theorem i_237_45 : iRow 237 45 = some (.ireturn, 0, 0, 0, (some (Jvm.ClassFile.FieldType.int))) := rfl
theorem i_238_0 : iRow 238 0 = some (.bipush 25, 0, 0, 0, (some (Jvm.ClassFile.FieldType.int))) := rfl
theorem i_238_2 : iRow 238 2 = some (.bipush 31, 0, 0, 0, (some (Jvm.ClassFile.FieldType.int))) := rfl
theorem i_238_4 : iRow 238 4 = some (.iload_n 0, 0, 0, 0, (some (Jvm.ClassFile.FieldType.int))) := rfl
theorem i_238_5 : iRow 238 5 = some (.imul, 0, 0, 0, (some (Jvm.ClassFile.FieldType.int))) := rfl
theorem i_238_6 : iRow 238 6 = some (.iload_n 1, 0, 0, 0, (some (Jvm.ClassFile.FieldType.int))) := rfl
theorem i_238_7 : iRow 238 7 = some (.iadd, 0, 0, 0, (some (Jvm.ClassFile.FieldType.int))) := rfl
theorem i_238_8 : iRow 238 8 = some (.imul, 0, 0, 0, (some (Jvm.ClassFile.FieldType.int))) := rfl
theorem i_238_9 : iRow 238 9 = some (.iload_n 2, 0, 0, 0, (some (Jvm.ClassFile.FieldType.int))) := rfl
theorem i_238_10 : iRow 238 10 = some (.iadd, 0, 0, 0, (some (Jvm.ClassFile.FieldType.int))) := rfl
theorem i_238_11 : iRow 238 11 = some (.ireturn, 0, 0, 0, (some (Jvm.ClassFile.FieldType.int))) := rfl
theorem i_239_0 : iRow 239 0 = some (.iconst 3, 0, 0, 0, (some (Jvm.ClassFile.FieldType.int))) := rfl
theorem i_239_1 : iRow 239 1 = some (.iload_n 0, 0, 0, 0, (some (Jvm.ClassFile.FieldType.int))) := rfl
theorem i_239_2 : iRow 239 2 = some (.imul, 0, 0, 0, (some (Jvm.ClassFile.FieldType.int))) := rfl
theorem i_239_3 : iRow 239 3 = some (.iload_n 1, 0, 0, 0, (some (Jvm.ClassFile.FieldType.int))) := rfl
theorem i_239_4 : iRow 239 4 = some (.iadd, 0, 0, 0, (some (Jvm.ClassFile.FieldType.int))) := rfl
theorem i_239_5 : iRow 239 5 = some (.bipush 24, 0, 0, 0, (some (Jvm.ClassFile.FieldType.int))) := rfl
theorem i_239_7 : iRow 239 7 = some (.imul, 0, 0, 0, (some (Jvm.ClassFile.FieldType.int))) := rfl
theorem i_239_8 : iRow 239 8 = some (.iload_n 2, 0, 0, 0, (some (Jvm.ClassFile.FieldType.int))) := rfl
theorem i_239_9 : iRow 239 9 = some (.iadd, 0, 0, 0, (some (Jvm.ClassFile.FieldType.int))) := rfl
theorem i_239_10 : iRow 239 10 = some (.ireturn, 0, 0, 0, (some (Jvm.ClassFile.FieldType.int))) := rfl
theorem i_240_0 : iRow 240 0 = some (.iload_n 1, 0, 0, 0, (some (Jvm.ClassFile.FieldType.int))) := rfl
theorem i_240_1 : iRow 240 1 = some (.ifCond .eq 13, 0, 0, 0, (some (Jvm.ClassFile.FieldType.int))) := rfl
theorem i_240_4 : iRow 240 4 = some (.aload_n 0, 0, 0, 0, (some (Jvm.ClassFile.FieldType.int))) := rfl
theorem i_240_5 : iRow 240 5 = some (.getfield 50, 184, 12, 20, (some (Jvm.ClassFile.FieldType.int))) := rfl
theorem i_240_8 : iRow 240 8 = some (.bipush 6, 0, 0, 0, (some (Jvm.ClassFile.FieldType.int))) := rfl
theorem i_240_10 : iRow 240 10 = some (.iaload, 0, 0, 0, (some (Jvm.ClassFile.FieldType.int))) := rfl
theorem i_240_11 : iRow 240 11 = some (.ifCond .ne 9, 0, 0, 0, (some (Jvm.ClassFile.FieldType.int))) := rfl
theorem i_240_14 : iRow 240 14 = some (.sipush 1000, 0, 0, 0, (some (Jvm.ClassFile.FieldType.int))) := rfl
theorem i_240_17 : iRow 240 17 = some (.goto 24, 0, 0, 0, (some (Jvm.ClassFile.FieldType.int))) := rfl
theorem i_240_20 : iRow 240 20 = some (.aload_n 0, 0, 0, 0, (some (Jvm.ClassFile.FieldType.int))) := rfl
theorem i_240_21 : iRow 240 21 = some (.getfield 62, 188, 12, 24, (some (Jvm.ClassFile.FieldType.int))) := rfl
theorem i_240_24 : iRow 240 24 = some (.iload_n 3, 0, 0, 0, (some (Jvm.ClassFile.FieldType.int))) := rfl
theorem i_240_25 : iRow 240 25 = some (.iload_n 1, 0, 0, 0, (some (Jvm.ClassFile.FieldType.int))) := rfl
theorem i_240_26 : iRow 240 26 = some (.iconst 1, 0, 0, 0, (some (Jvm.ClassFile.FieldType.int))) := rfl
theorem i_240_27 : iRow 240 27 = some (.isub, 0, 0, 0, (some (Jvm.ClassFile.FieldType.int))) := rfl
theorem i_240_28 : iRow 240 28 = some (.iload_n 2, 0, 0, 0, (some (Jvm.ClassFile.FieldType.int))) := rfl
theorem i_240_29 : iRow 240 29 = some (.invokestatic 332, 327, 238, 0, (some (Jvm.ClassFile.FieldType.int))) := rfl
theorem i_240_32 : iRow 240 32 = some (.iaload, 0, 0, 0, (some (Jvm.ClassFile.FieldType.int))) := rfl
theorem i_240_33 : iRow 240 33 = some (.aload_n 0, 0, 0, 0, (some (Jvm.ClassFile.FieldType.int))) := rfl
theorem i_240_34 : iRow 240 34 = some (.getfield 50, 184, 12, 20, (some (Jvm.ClassFile.FieldType.int))) := rfl
theorem i_240_37 : iRow 240 37 = some (.bipush 6, 0, 0, 0, (some (Jvm.ClassFile.FieldType.int))) := rfl
theorem i_240_39 : iRow 240 39 = some (.iaload, 0, 0, 0, (some (Jvm.ClassFile.FieldType.int))) := rfl
theorem i_240_40 : iRow 240 40 = some (.iadd, 0, 0, 0, (some (Jvm.ClassFile.FieldType.int))) := rfl
theorem i_240_41 : iRow 240 41 = some (.ireturn, 0, 0, 0, (some (Jvm.ClassFile.FieldType.int))) := rfl
theorem i_241_0 : iRow 241 0 = some (.iload_n 2, 0, 0, 0, (some (Jvm.ClassFile.FieldType.int))) := rfl
theorem i_241_1 : iRow 241 1 = some (.ifCond .eq 14, 0, 0, 0, (some (Jvm.ClassFile.FieldType.int))) := rfl
theorem i_241_4 : iRow 241 4 = some (.aload_n 0, 0, 0, 0, (some (Jvm.ClassFile.FieldType.int))) := rfl
theorem i_241_5 : iRow 241 5 = some (.iload_n 3, 0, 0, 0, (some (Jvm.ClassFile.FieldType.int))) := rfl
theorem i_241_6 : iRow 241 6 = some (.iload_n 2, 0, 0, 0, (some (Jvm.ClassFile.FieldType.int))) := rfl
theorem i_241_7 : iRow 241 7 = some (.iconst 1, 0, 0, 0, (some (Jvm.ClassFile.FieldType.int))) := rfl
theorem i_241_8 : iRow 241 8 = some (.isub, 0, 0, 0, (some (Jvm.ClassFile.FieldType.int))) := rfl
theorem i_241_9 : iRow 241 9 = some (.invokevirtual 335, 331, 242, 1, (some (Jvm.ClassFile.FieldType.int))) := rfl
theorem i_241_12 : iRow 241 12 = some (.ifCond .ne 9, 0, 0, 0, (some (Jvm.ClassFile.FieldType.int))) := rfl
theorem i_241_15 : iRow 241 15 = some (.sipush 1000, 0, 0, 0, (some (Jvm.ClassFile.FieldType.int))) := rfl
theorem i_241_18 : iRow 241 18 = some (.goto 24, 0, 0, 0, (some (Jvm.ClassFile.FieldType.int))) := rfl
theorem i_241_21 : iRow 241 21 = some (.aload_n 0, 0, 0, 0, (some (Jvm.ClassFile.FieldType.int))) := rfl
theorem i_241_22 : iRow 241 22 = some (.getfield 62, 188, 12, 24, (some (Jvm.ClassFile.FieldType.int))) := rfl
theorem i_241_25 : iRow 241 25 = some (.iload_n 3, 0, 0, 0, (some (Jvm.ClassFile.FieldType.int))) := rfl
theorem i_241_26 : iRow 241 26 = some (.iload_n 1, 0, 0, 0, (some (Jvm.ClassFile.FieldType.int))) := rfl
theorem i_241_27 : iRow 241 27 = some (.iload_n 2, 0, 0, 0, (some (Jvm.ClassFile.FieldType.int))) := rfl
theorem i_241_28 : iRow 241 28 = some (.iconst 1, 0, 0, 0, (some (Jvm.ClassFile.FieldType.int))) := rfl
theorem i_241_29 : iRow 241 29 = some (.isub, 0, 0, 0, (some (Jvm.ClassFile.FieldType.int))) := rfl
theorem i_241_30 : iRow 241 30 = some (.invokestatic 332, 327, 238, 0, (some (Jvm.ClassFile.FieldType.int))) := rfl
theorem i_241_33 : iRow 241 33 = some (.iaload, 0, 0, 0, (some (Jvm.ClassFile.FieldType.int))) := rfl
theorem i_241_34 : iRow 241 34 = some (.aload_n 0, 0, 0, 0, (some (Jvm.ClassFile.FieldType.int))) := rfl
theorem i_241_35 : iRow 241 35 = some (.getfield 50, 184, 12, 20, (some (Jvm.ClassFile.FieldType.int))) := rfl
theorem i_241_38 : iRow 241 38 = some (.bipush 7, 0, 0, 0, (some (Jvm.ClassFile.FieldType.int))) := rfl
theorem i_241_40 : iRow 241 40 = some (.iaload, 0, 0, 0, (some (Jvm.ClassFile.FieldType.int))) := rfl
theorem i_241_41 : iRow 241 41 = some (.iadd, 0, 0, 0, (some (Jvm.ClassFile.FieldType.int))) := rfl
theorem i_241_42 : iRow 241 42 = some (.ireturn, 0, 0, 0, (some (Jvm.ClassFile.FieldType.int))) := rfl
theorem i_242_0 : iRow 242 0 = some (.iload_n 2, 0, 0, 0, (some (Jvm.ClassFile.FieldType.boolean))) := rfl
theorem i_242_1 : iRow 242 1 = some (.ifCond .le 17, 0, 0, 0, (some (Jvm.ClassFile.FieldType.boolean))) := rfl
theorem i_242_4 : iRow 242 4 = some (.aload_n 0, 0, 0, 0, (some (Jvm.ClassFile.FieldType.boolean))) := rfl
theorem i_242_5 : iRow 242 5 = some (.getfield 50, 184, 12, 20, (some (Jvm.ClassFile.FieldType.boolean))) := rfl
theorem i_242_8 : iRow 242 8 = some (.bipush 7, 0, 0, 0, (some (Jvm.ClassFile.FieldType.boolean))) := rfl
theorem i_242_10 : iRow 242 10 = some (.iaload, 0, 0, 0, (some (Jvm.ClassFile.FieldType.boolean))) := rfl
theorem i_242_11 : iRow 242 11 = some (.ifCond .le 7, 0, 0, 0, (some (Jvm.ClassFile.FieldType.boolean))) := rfl
theorem i_242_14 : iRow 242 14 = some (.iconst 1, 0, 0, 0, (some (Jvm.ClassFile.FieldType.boolean))) := rfl
theorem i_242_15 : iRow 242 15 = some (.goto 4, 0, 0, 0, (some (Jvm.ClassFile.FieldType.boolean))) := rfl
theorem i_242_18 : iRow 242 18 = some (.iconst 0, 0, 0, 0, (some (Jvm.ClassFile.FieldType.boolean))) := rfl
theorem i_242_19 : iRow 242 19 = some (.istore_n 3, 0, 0, 0, (some (Jvm.ClassFile.FieldType.boolean))) := rfl
theorem i_242_20 : iRow 242 20 = some (.iconst 0, 0, 0, 0, (some (Jvm.ClassFile.FieldType.boolean))) := rfl
theorem i_242_21 : iRow 242 21 = some (.istore 4, 0, 0, 0, (some (Jvm.ClassFile.FieldType.boolean))) := rfl
theorem i_242_23 : iRow 242 23 = some (.iload 4, 0, 0, 0, (some (Jvm.ClassFile.FieldType.boolean))) := rfl
theorem i_242_25 : iRow 242 25 = some (.iconst 4, 0, 0, 0, (some (Jvm.ClassFile.FieldType.boolean))) := rfl
theorem i_242_26 : iRow 242 26 = some (.if_icmp .ge 40, 0, 0, 0, (some (Jvm.ClassFile.FieldType.boolean))) := rfl
theorem i_242_29 : iRow 242 29 = some (.iload_n 3, 0, 0, 0, (some (Jvm.ClassFile.FieldType.boolean))) := rfl
theorem i_242_30 : iRow 242 30 = some (.ifCond .eq 36, 0, 0, 0, (some (Jvm.ClassFile.FieldType.boolean))) := rfl
theorem i_242_33 : iRow 242 33 = some (.aload_n 0, 0, 0, 0, (some (Jvm.ClassFile.FieldType.boolean))) := rfl
theorem i_242_34 : iRow 242 34 = some (.iload_n 1, 0, 0, 0, (some (Jvm.ClassFile.FieldType.boolean))) := rfl
theorem i_242_35 : iRow 242 35 = some (.iload_n 2, 0, 0, 0, (some (Jvm.ClassFile.FieldType.boolean))) := rfl
theorem i_242_36 : iRow 242 36 = some (.iload 4, 0, 0, 0, (some (Jvm.ClassFile.FieldType.boolean))) := rfl
theorem i_242_38 : iRow 242 38 = some (.invokevirtual 272, 300, 211, 1, (some (Jvm.ClassFile.FieldType.boolean))) := rfl
theorem i_242_41 : iRow 242 41 = some (.aload_n 0, 0, 0, 0, (some (Jvm.ClassFile.FieldType.boolean))) := rfl
theorem i_242_42 : iRow 242 42 = some (.iload_n 1, 0, 0, 0, (some (Jvm.ClassFile.FieldType.boolean))) := rfl
theorem i_242_43 : iRow 242 43 = some (.iload_n 2, 0, 0, 0, (some (Jvm.ClassFile.FieldType.boolean))) := rfl
theorem i_242_44 : iRow 242 44 = some (.iconst 1, 0, 0, 0, (some (Jvm.ClassFile.FieldType.boolean))) := rfl
theorem i_242_45 : iRow 242 45 = some (.isub, 0, 0, 0, (some (Jvm.ClassFile.FieldType.boolean))) := rfl
theorem i_242_46 : iRow 242 46 = some (.iload 4, 0, 0, 0, (some (Jvm.ClassFile.FieldType.boolean))) := rfl
theorem i_242_48 : iRow 242 48 = some (.invokevirtual 272, 300, 211, 1, (some (Jvm.ClassFile.FieldType.boolean))) := rfl
theorem i_242_51 : iRow 242 51 = some (.if_icmp .ne 7, 0, 0, 0, (some (Jvm.ClassFile.FieldType.boolean))) := rfl
theorem i_242_54 : iRow 242 54 = some (.iconst 1, 0, 0, 0, (some (Jvm.ClassFile.FieldType.boolean))) := rfl
theorem i_242_55 : iRow 242 55 = some (.goto 4, 0, 0, 0, (some (Jvm.ClassFile.FieldType.boolean))) := rfl
theorem i_242_58 : iRow 242 58 = some (.iconst 0, 0, 0, 0, (some (Jvm.ClassFile.FieldType.boolean))) := rfl
theorem i_242_59 : iRow 242 59 = some (.istore_n 3, 0, 0, 0, (some (Jvm.ClassFile.FieldType.boolean))) := rfl
theorem i_242_60 : iRow 242 60 = some (.iinc 4 1, 0, 0, 0, (some (Jvm.ClassFile.FieldType.boolean))) := rfl
theorem i_242_63 : iRow 242 63 = some (.goto (-40), 0, 0, 0, (some (Jvm.ClassFile.FieldType.boolean))) := rfl
theorem i_242_66 : iRow 242 66 = some (.iload_n 3, 0, 0, 0, (some (Jvm.ClassFile.FieldType.boolean))) := rfl
theorem i_242_67 : iRow 242 67 = some (.ireturn, 0, 0, 0, (some (Jvm.ClassFile.FieldType.boolean))) := rfl
theorem i_243_0 : iRow 243 0 = some (.aload_n 0, 0, 0, 0, none) := rfl
theorem i_243_1 : iRow 243 1 = some (.dup, 0, 0, 0, none) := rfl
theorem i_243_2 : iRow 243 2 = some (.getfield 398, 191, 12, 27, none) := rfl
theorem i_243_5 : iRow 243 5 = some (.iconst 1, 0, 0, 0, none) := rfl
theorem i_243_6 : iRow 243 6 = some (.iadd, 0, 0, 0, none) := rfl
theorem i_243_7 : iRow 243 7 = some (.putfield 398, 191, 12, 27, none) := rfl
theorem i_243_10 : iRow 243 10 = some (.aload_n 0, 0, 0, 0, none) := rfl
theorem i_243_11 : iRow 243 11 = some (.aload_n 0, 0, 0, 0, none) := rfl
theorem i_243_12 : iRow 243 12 = some (.getfield 401, 193, 12, 29, none) := rfl
theorem i_243_15 : iRow 243 15 = some (.ifCond .ne 13, 0, 0, 0, none) := rfl
theorem i_243_18 : iRow 243 18 = some (.aload_n 0, 0, 0, 0, none) := rfl
theorem i_243_19 : iRow 243 19 = some (.getfield 398, 191, 12, 27, none) := rfl
theorem i_243_22 : iRow 243 22 = some (.sipush 8000, 0, 0, 0, none) := rfl
theorem i_243_25 : iRow 243 25 = some (.if_icmp .le 7, 0, 0, 0, none) := rfl
theorem i_243_28 : iRow 243 28 = some (.iconst 1, 0, 0, 0, none) := rfl
theorem i_243_29 : iRow 243 29 = some (.goto 4, 0, 0, 0, none) := rfl
theorem i_243_32 : iRow 243 32 = some (.iconst 0, 0, 0, 0, none) := rfl
theorem i_243_33 : iRow 243 33 = some (.putfield 401, 193, 12, 29, none) := rfl
theorem i_243_36 : iRow 243 36 = some (.aload_n 0, 0, 0, 0, none) := rfl
theorem i_243_37 : iRow 243 37 = some (.aload_n 0, 0, 0, 0, none) := rfl
theorem i_243_38 : iRow 243 38 = some (.getfield 404, 192, 12, 28, none) := rfl
theorem i_243_41 : iRow 243 41 = some (.iload_n 1, 0, 0, 0, none) := rfl
theorem i_243_42 : iRow 243 42 = some (.invokestatic 407, 334, 30, 0, none) := rfl
theorem i_243_45 : iRow 243 45 = some (.putfield 404, 192, 12, 28, none) := rfl
theorem i_243_48 : iRow 243 48 = some (.aload_n 0, 0, 0, 0, none) := rfl
theorem i_243_49 : iRow 243 49 = some (.iload_n 1, 0, 0, 0, none) := rfl
theorem i_243_50 : iRow 243 50 = some (.iload_n 1, 0, 0, 0, none) := rfl
theorem i_243_51 : iRow 243 51 = some (.iconst 2, 0, 0, 0, none) := rfl
theorem i_243_52 : iRow 243 52 = some (.irem, 0, 0, 0, none) := rfl
theorem i_243_53 : iRow 243 53 = some (.invokevirtual 305, 307, 218, 1, none) := rfl
theorem i_243_56 : iRow 243 56 = some (.aload_n 0, 0, 0, 0, none) := rfl
theorem i_243_57 : iRow 243 57 = some (.iload_n 1, 0, 0, 0, none) := rfl
theorem i_243_58 : iRow 243 58 = some (.invokevirtual 410, 335, 244, 1, none) := rfl
theorem i_243_61 : iRow 243 61 = some (.aload_n 0, 0, 0, 0, none) := rfl
theorem i_243_62 : iRow 243 62 = some (.iload_n 1, 0, 0, 0, none) := rfl
theorem i_243_63 : iRow 243 63 = some (.iload_n 2, 0, 0, 0, none) := rfl
theorem i_243_64 : iRow 243 64 = some (.invokevirtual 414, 339, 248, 1, none) := rfl
theorem i_243_67 : iRow 243 67 = some (.aload_n 0, 0, 0, 0, none) := rfl
theorem i_243_68 : iRow 243 68 = some (.getfield 65, 195, 12, 31, none) := rfl
theorem i_243_71 : iRow 243 71 = some (.iload_n 1, 0, 0, 0, none) := rfl
theorem i_243_72 : iRow 243 72 = some (.aload_n 0, 0, 0, 0, none) := rfl
theorem i_243_73 : iRow 243 73 = some (.iload_n 1, 0, 0, 0, none) := rfl
theorem i_243_74 : iRow 243 74 = some (.invokevirtual 417, 343, 252, 1, none) := rfl
theorem i_243_77 : iRow 243 77 = some (.ifCond .eq 7, 0, 0, 0, none) := rfl
theorem i_243_80 : iRow 243 80 = some (.iconst 0, 0, 0, 0, none) := rfl
theorem i_243_81 : iRow 243 81 = some (.goto 6, 0, 0, 0, none) := rfl
theorem i_243_84 : iRow 243 84 = some (.sipush 1296, 0, 0, 0, none) := rfl
theorem i_243_87 : iRow 243 87 = some (.iastore, 0, 0, 0, none) := rfl
theorem i_243_88 : iRow 243 88 = some (.return_, 0, 0, 0, none) := rfl
theorem i_248_0 : iRow 248 0 = some (.aload_n 0, 0, 0, 0, none) := rfl
theorem i_248_1 : iRow 248 1 = some (.getfield 350, 190, 12, 26, none) := rfl
theorem i_248_4 : iRow 248 4 = some (.iload_n 2, 0, 0, 0, none) := rfl
theorem i_248_5 : iRow 248 5 = some (.if_icmp .gt 19, 0, 0, 0, none) := rfl
theorem i_248_8 : iRow 248 8 = some (.aload_n 0, 0, 0, 0, none) := rfl
theorem i_248_9 : iRow 248 9 = some (.iload_n 1, 0, 0, 0, none) := rfl
theorem i_248_10 : iRow 248 10 = some (.invokevirtual 362, 340, 249, 1, none) := rfl
theorem i_248_13 : iRow 248 13 = some (.ifCond .ne 11, 0, 0, 0, none) := rfl
theorem i_248_16 : iRow 248 16 = some (.aload_n 0, 0, 0, 0, none) := rfl
theorem i_248_17 : iRow 248 17 = some (.iload_n 1, 0, 0, 0, none) := rfl
theorem i_248_18 : iRow 248 18 = some (.invokevirtual 365, 341, 250, 1, none) := rfl
theorem i_248_21 : iRow 248 21 = some (.ifCond .ne 4, 0, 0, 0, none) := rfl
theorem i_248_24 : iRow 248 24 = some (.return_, 0, 0, 0, none) := rfl
theorem i_248_25 : iRow 248 25 = some (.aload_n 0, 0, 0, 0, none) := rfl
theorem i_248_26 : iRow 248 26 = some (.getfield 68, 196, 12, 33, none) := rfl
theorem i_248_29 : iRow 248 29 = some (.aload_n 0, 0, 0, 0, none) := rfl
theorem i_248_30 : iRow 248 30 = some (.getfield 350, 190, 12, 26, none) := rfl
theorem i_248_33 : iRow 248 33 = some (.dup2, 0, 0, 0, none) := rfl
theorem i_248_34 : iRow 248 34 = some (.laload, 0, 0, 0, none) := rfl
theorem i_248_35 : iRow 248 35 = some (.lconst 1, 0, 0, 0, none) := rfl
theorem i_248_36 : iRow 248 36 = some (.ladd, 0, 0, 0, none) := rfl
theorem i_248_37 : iRow 248 37 = some (.lastore, 0, 0, 0, none) := rfl
theorem i_248_38 : iRow 248 38 = some (.aload_n 0, 0, 0, 0, none) := rfl
theorem i_248_39 : iRow 248 39 = some (.getfield 368, 198, 12, 35, none) := rfl
theorem i_248_42 : iRow 248 42 = some (.iload_n 1, 0, 0, 0, none) := rfl
theorem i_248_43 : iRow 248 43 = some (.if_icmp .ge 32, 0, 0, 0, none) := rfl
theorem i_248_46 : iRow 248 46 = some (.aload_n 0, 0, 0, 0, none) := rfl
theorem i_248_47 : iRow 248 47 = some (.getfield 53, 185, 12, 21, none) := rfl
theorem i_248_50 : iRow 248 50 = some (.aload_n 0, 0, 0, 0, none) := rfl
theorem i_248_51 : iRow 248 51 = some (.getfield 368, 198, 12, 35, none) := rfl
theorem i_248_54 : iRow 248 54 = some (.iaload, 0, 0, 0, none) := rfl
theorem i_248_55 : iRow 248 55 = some (.aload_n 0, 0, 0, 0, none) := rfl
theorem i_248_56 : iRow 248 56 = some (.getfield 371, 199, 12, 36, none) := rfl
theorem i_248_59 : iRow 248 59 = some (.if_icmp .ne 16, 0, 0, 0, none) := rfl
theorem i_248_62 : iRow 248 62 = some (.aload_n 0, 0, 0, 0, none) := rfl
theorem i_248_63 : iRow 248 63 = some (.getfield 72, 197, 12, 34, none) := rfl
theorem i_248_66 : iRow 248 66 = some (.aload_n 0, 0, 0, 0, none) := rfl
theorem i_248_67 : iRow 248 67 = some (.getfield 350, 190, 12, 26, none) := rfl
theorem i_248_70 : iRow 248 70 = some (.dup2, 0, 0, 0, none) := rfl
theorem i_248_71 : iRow 248 71 = some (.laload, 0, 0, 0, none) := rfl
theorem i_248_72 : iRow 248 72 = some (.lconst 1, 0, 0, 0, none) := rfl
theorem i_248_73 : iRow 248 73 = some (.ladd, 0, 0, 0, none) := rfl
theorem i_248_74 : iRow 248 74 = some (.lastore, 0, 0, 0, none) := rfl
theorem i_248_75 : iRow 248 75 = some (.aload_n 0, 0, 0, 0, none) := rfl
theorem i_248_76 : iRow 248 76 = some (.dup, 0, 0, 0, none) := rfl
theorem i_248_77 : iRow 248 77 = some (.getfield 374, 200, 12, 37, none) := rfl
theorem i_248_80 : iRow 248 80 = some (.iconst 1, 0, 0, 0, none) := rfl
theorem i_248_81 : iRow 248 81 = some (.iadd, 0, 0, 0, none) := rfl
theorem i_248_82 : iRow 248 82 = some (.putfield 374, 200, 12, 37, none) := rfl
theorem i_248_85 : iRow 248 85 = some (.aload_n 0, 0, 0, 0, none) := rfl
theorem i_248_86 : iRow 248 86 = some (.getfield 374, 200, 12, 37, none) := rfl
theorem i_248_89 : iRow 248 89 = some (.iconst 1, 0, 0, 0, none) := rfl
theorem i_248_90 : iRow 248 90 = some (.if_icmp .ne 16, 0, 0, 0, none) := rfl
theorem i_248_93 : iRow 248 93 = some (.aload_n 0, 0, 0, 0, none) := rfl
theorem i_248_94 : iRow 248 94 = some (.aload_n 0, 0, 0, 0, none) := rfl
theorem i_248_95 : iRow 248 95 = some (.aload_n 0, 0, 0, 0, none) := rfl
theorem i_248_96 : iRow 248 96 = some (.getfield 75, 201, 12, 38, none) := rfl
theorem i_248_99 : iRow 248 99 = some (.iload_n 1, 0, 0, 0, none) := rfl
theorem i_248_100 : iRow 248 100 = some (.invokevirtual 377, 342, 251, 1, none) := rfl
theorem i_248_103 : iRow 248 103 = some (.putfield 380, 204, 12, 41, none) := rfl
theorem i_248_106 : iRow 248 106 = some (.aload_n 0, 0, 0, 0, none) := rfl
theorem i_248_107 : iRow 248 107 = some (.getfield 374, 200, 12, 37, none) := rfl
theorem i_248_110 : iRow 248 110 = some (.iconst 2, 0, 0, 0, none) := rfl
theorem i_248_111 : iRow 248 111 = some (.if_icmp .ne 16, 0, 0, 0, none) := rfl
theorem i_248_114 : iRow 248 114 = some (.aload_n 0, 0, 0, 0, none) := rfl
theorem i_248_115 : iRow 248 115 = some (.aload_n 0, 0, 0, 0, none) := rfl
theorem i_248_116 : iRow 248 116 = some (.aload_n 0, 0, 0, 0, none) := rfl
theorem i_248_117 : iRow 248 117 = some (.getfield 78, 202, 12, 39, none) := rfl
theorem i_248_120 : iRow 248 120 = some (.iload_n 1, 0, 0, 0, none) := rfl
theorem i_248_121 : iRow 248 121 = some (.invokevirtual 377, 342, 251, 1, none) := rfl
theorem i_248_124 : iRow 248 124 = some (.putfield 383, 205, 12, 42, none) := rfl
theorem i_248_127 : iRow 248 127 = some (.aload_n 0, 0, 0, 0, none) := rfl
theorem i_248_128 : iRow 248 128 = some (.getfield 374, 200, 12, 37, none) := rfl
theorem i_248_131 : iRow 248 131 = some (.sipush 200, 0, 0, 0, none) := rfl
theorem i_248_134 : iRow 248 134 = some (.if_icmp .gt 24, 0, 0, 0, none) := rfl
theorem i_248_137 : iRow 248 137 = some (.aload_n 0, 0, 0, 0, none) := rfl
theorem i_248_138 : iRow 248 138 = some (.getfield 374, 200, 12, 37, none) := rfl
theorem i_248_141 : iRow 248 141 = some (.iconst 1, 0, 0, 0, none) := rfl
theorem i_248_142 : iRow 248 142 = some (.if_icmp .le 17, 0, 0, 0, none) := rfl
theorem i_248_145 : iRow 248 145 = some (.aload_n 0, 0, 0, 0, none) := rfl
theorem i_248_146 : iRow 248 146 = some (.getfield 84, 208, 12, 45, none) := rfl
theorem i_248_149 : iRow 248 149 = some (.iload_n 1, 0, 0, 0, none) := rfl
theorem i_248_150 : iRow 248 150 = some (.iaload, 0, 0, 0, none) := rfl
theorem i_248_151 : iRow 248 151 = some (.aload_n 0, 0, 0, 0, none) := rfl
theorem i_248_152 : iRow 248 152 = some (.getfield 386, 207, 12, 44, none) := rfl
theorem i_248_155 : iRow 248 155 = some (.if_icmp .lt 4, 0, 0, 0, none) := rfl
theorem i_248_158 : iRow 248 158 = some (.return_, 0, 0, 0, none) := rfl
theorem i_248_159 : iRow 248 159 = some (.aload_n 0, 0, 0, 0, none) := rfl
theorem i_248_160 : iRow 248 160 = some (.aload_n 0, 0, 0, 0, none) := rfl
theorem i_248_161 : iRow 248 161 = some (.aload_n 0, 0, 0, 0, none) := rfl
theorem i_248_162 : iRow 248 162 = some (.getfield 81, 203, 12, 40, none) := rfl
theorem i_248_165 : iRow 248 165 = some (.iload_n 1, 0, 0, 0, none) := rfl
theorem i_248_166 : iRow 248 166 = some (.invokevirtual 377, 342, 251, 1, none) := rfl
theorem i_248_169 : iRow 248 169 = some (.putfield 389, 206, 12, 43, none) := rfl
theorem i_248_172 : iRow 248 172 = some (.aload_n 0, 0, 0, 0, none) := rfl
theorem i_248_173 : iRow 248 173 = some (.aload_n 0, 0, 0, 0, none) := rfl
theorem i_248_174 : iRow 248 174 = some (.getfield 84, 208, 12, 45, none) := rfl
theorem i_248_177 : iRow 248 177 = some (.iload_n 1, 0, 0, 0, none) := rfl
theorem i_248_178 : iRow 248 178 = some (.iaload, 0, 0, 0, none) := rfl
theorem i_248_179 : iRow 248 179 = some (.putfield 386, 207, 12, 44, none) := rfl
theorem i_248_182 : iRow 248 182 = some (.return_, 0, 0, 0, none) := rfl
theorem i_249_0 : iRow 249 0 = some (.iconst 0, 0, 0, 0, (some (Jvm.ClassFile.FieldType.boolean))) := rfl
theorem i_249_1 : iRow 249 1 = some (.istore_n 2, 0, 0, 0, (some (Jvm.ClassFile.FieldType.boolean))) := rfl
theorem i_249_2 : iRow 249 2 = some (.iconst 0, 0, 0, 0, (some (Jvm.ClassFile.FieldType.boolean))) := rfl
theorem i_249_3 : iRow 249 3 = some (.istore_n 3, 0, 0, 0, (some (Jvm.ClassFile.FieldType.boolean))) := rfl
theorem i_249_4 : iRow 249 4 = some (.iload_n 3, 0, 0, 0, (some (Jvm.ClassFile.FieldType.boolean))) := rfl
theorem i_249_5 : iRow 249 5 = some (.aload_n 0, 0, 0, 0, (some (Jvm.ClassFile.FieldType.boolean))) := rfl
theorem i_249_6 : iRow 249 6 = some (.getfield 13, 165, 12, 1, (some (Jvm.ClassFile.FieldType.boolean))) := rfl
theorem i_249_9 : iRow 249 9 = some (.iconst 2, 0, 0, 0, (some (Jvm.ClassFile.FieldType.boolean))) := rfl
theorem i_249_10 : iRow 249 10 = some (.iaload, 0, 0, 0, (some (Jvm.ClassFile.FieldType.boolean))) := rfl
theorem i_249_11 : iRow 249 11 = some (.if_icmp .ge 72, 0, 0, 0, (some (Jvm.ClassFile.FieldType.boolean))) := rfl
theorem i_249_14 : iRow 249 14 = some (.aload_n 0, 0, 0, 0, (some (Jvm.ClassFile.FieldType.boolean))) := rfl
theorem i_249_15 : iRow 249 15 = some (.getfield 359, 194, 12, 30, (some (Jvm.ClassFile.FieldType.boolean))) := rfl
theorem i_249_18 : iRow 249 18 = some (.ifCond .ne 65, 0, 0, 0, (some (Jvm.ClassFile.FieldType.boolean))) := rfl
theorem i_249_21 : iRow 249 21 = some (.sipush 413, 0, 0, 0, (some (Jvm.ClassFile.FieldType.boolean))) := rfl
theorem i_249_24 : iRow 249 24 = some (.iconst 3, 0, 0, 0, (some (Jvm.ClassFile.FieldType.boolean))) := rfl
theorem i_249_25 : iRow 249 25 = some (.iload_n 3, 0, 0, 0, (some (Jvm.ClassFile.FieldType.boolean))) := rfl
theorem i_249_26 : iRow 249 26 = some (.imul, 0, 0, 0, (some (Jvm.ClassFile.FieldType.boolean))) := rfl
theorem i_249_27 : iRow 249 27 = some (.iadd, 0, 0, 0, (some (Jvm.ClassFile.FieldType.boolean))) := rfl
theorem i_249_28 : iRow 249 28 = some (.istore 4, 0, 0, 0, (some (Jvm.ClassFile.FieldType.boolean))) := rfl
theorem i_249_30 : iRow 249 30 = some (.iload_n 2, 0, 0, 0, (some (Jvm.ClassFile.FieldType.boolean))) := rfl
theorem i_249_31 : iRow 249 31 = some (.ifCond .ne 40, 0, 0, 0, (some (Jvm.ClassFile.FieldType.boolean))) := rfl
theorem i_249_34 : iRow 249 34 = some (.aload_n 0, 0, 0, 0, (some (Jvm.ClassFile.FieldType.boolean))) := rfl
theorem i_249_35 : iRow 249 35 = some (.getfield 13, 165, 12, 1, (some (Jvm.ClassFile.FieldType.boolean))) := rfl
theorem i_249_38 : iRow 249 38 = some (.iload 4, 0, 0, 0, (some (Jvm.ClassFile.FieldType.boolean))) := rfl
theorem i_249_40 : iRow 249 40 = some (.iaload, 0, 0, 0, (some (Jvm.ClassFile.FieldType.boolean))) := rfl
theorem i_249_41 : iRow 249 41 = some (.iload_n 1, 0, 0, 0, (some (Jvm.ClassFile.FieldType.boolean))) := rfl
theorem i_249_42 : iRow 249 42 = some (.if_icmp .ne 33, 0, 0, 0, (some (Jvm.ClassFile.FieldType.boolean))) := rfl
theorem i_249_45 : iRow 249 45 = some (.aload_n 0, 0, 0, 0, (some (Jvm.ClassFile.FieldType.boolean))) := rfl
theorem i_249_46 : iRow 249 46 = some (.iload_n 1, 0, 0, 0, (some (Jvm.ClassFile.FieldType.boolean))) := rfl
theorem i_249_47 : iRow 249 47 = some (.aload_n 0, 0, 0, 0, (some (Jvm.ClassFile.FieldType.boolean))) := rfl
theorem i_249_48 : iRow 249 48 = some (.getfield 13, 165, 12, 1, (some (Jvm.ClassFile.FieldType.boolean))) := rfl
theorem i_249_51 : iRow 249 51 = some (.iload 4, 0, 0, 0, (some (Jvm.ClassFile.FieldType.boolean))) := rfl
theorem i_249_53 : iRow 249 53 = some (.iconst 1, 0, 0, 0, (some (Jvm.ClassFile.FieldType.boolean))) := rfl
theorem i_249_54 : iRow 249 54 = some (.iadd, 0, 0, 0, (some (Jvm.ClassFile.FieldType.boolean))) := rfl
theorem i_249_55 : iRow 249 55 = some (.iaload, 0, 0, 0, (some (Jvm.ClassFile.FieldType.boolean))) := rfl
theorem i_249_56 : iRow 249 56 = some (.invokevirtual 279, 308, 219, 1, (some (Jvm.ClassFile.FieldType.boolean))) := rfl
theorem i_249_59 : iRow 249 59 = some (.aload_n 0, 0, 0, 0, (some (Jvm.ClassFile.FieldType.boolean))) := rfl
theorem i_249_60 : iRow 249 60 = some (.getfield 13, 165, 12, 1, (some (Jvm.ClassFile.FieldType.boolean))) := rfl
theorem i_249_63 : iRow 249 63 = some (.iload 4, 0, 0, 0, (some (Jvm.ClassFile.FieldType.boolean))) := rfl
theorem i_249_65 : iRow 249 65 = some (.iconst 2, 0, 0, 0, (some (Jvm.ClassFile.FieldType.boolean))) := rfl
theorem i_249_66 : iRow 249 66 = some (.iadd, 0, 0, 0, (some (Jvm.ClassFile.FieldType.boolean))) := rfl
theorem i_249_67 : iRow 249 67 = some (.iaload, 0, 0, 0, (some (Jvm.ClassFile.FieldType.boolean))) := rfl
theorem i_249_68 : iRow 249 68 = some (.if_icmp .eq 7, 0, 0, 0, (some (Jvm.ClassFile.FieldType.boolean))) := rfl
theorem i_249_71 : iRow 249 71 = some (.iconst 1, 0, 0, 0, (some (Jvm.ClassFile.FieldType.boolean))) := rfl
theorem i_249_72 : iRow 249 72 = some (.goto 4, 0, 0, 0, (some (Jvm.ClassFile.FieldType.boolean))) := rfl
theorem i_249_75 : iRow 249 75 = some (.iconst 0, 0, 0, 0, (some (Jvm.ClassFile.FieldType.boolean))) := rfl
theorem i_249_76 : iRow 249 76 = some (.istore_n 2, 0, 0, 0, (some (Jvm.ClassFile.FieldType.boolean))) := rfl
theorem i_249_77 : iRow 249 77 = some (.iinc 3 1, 0, 0, 0, (some (Jvm.ClassFile.FieldType.boolean))) := rfl
theorem i_249_80 : iRow 249 80 = some (.goto (-76), 0, 0, 0, (some (Jvm.ClassFile.FieldType.boolean))) := rfl
theorem i_249_83 : iRow 249 83 = some (.iload_n 2, 0, 0, 0, (some (Jvm.ClassFile.FieldType.boolean))) := rfl
theorem i_249_84 : iRow 249 84 = some (.ireturn, 0, 0, 0, (some (Jvm.ClassFile.FieldType.boolean))) := rfl
theorem i_250_0 : iRow 250 0 = some (.aload_n 0, 0, 0, 0, (some (Jvm.ClassFile.FieldType.boolean))) := rfl
theorem i_250_1 : iRow 250 1 = some (.getfield 359, 194, 12, 30, (some (Jvm.ClassFile.FieldType.boolean))) := rfl
theorem i_250_4 : iRow 250 4 = some (.ifCond .ne 22, 0, 0, 0, (some (Jvm.ClassFile.FieldType.boolean))) := rfl
theorem i_250_7 : iRow 250 7 = some (.aload_n 0, 0, 0, 0, (some (Jvm.ClassFile.FieldType.boolean))) := rfl
theorem i_250_8 : iRow 250 8 = some (.getfield 13, 165, 12, 1, (some (Jvm.ClassFile.FieldType.boolean))) := rfl
theorem i_250_11 : iRow 250 11 = some (.iconst 3, 0, 0, 0, (some (Jvm.ClassFile.FieldType.boolean))) := rfl
theorem i_250_12 : iRow 250 12 = some (.iaload, 0, 0, 0, (some (Jvm.ClassFile.FieldType.boolean))) := rfl
theorem i_250_13 : iRow 250 13 = some (.ifCond .lt 13, 0, 0, 0, (some (Jvm.ClassFile.FieldType.boolean))) := rfl
theorem i_250_16 : iRow 250 16 = some (.aload_n 0, 0, 0, 0, (some (Jvm.ClassFile.FieldType.boolean))) := rfl
theorem i_250_17 : iRow 250 17 = some (.getfield 13, 165, 12, 1, (some (Jvm.ClassFile.FieldType.boolean))) := rfl
theorem i_250_20 : iRow 250 20 = some (.iconst 3, 0, 0, 0, (some (Jvm.ClassFile.FieldType.boolean))) := rfl
theorem i_250_21 : iRow 250 21 = some (.iaload, 0, 0, 0, (some (Jvm.ClassFile.FieldType.boolean))) := rfl
theorem i_250_22 : iRow 250 22 = some (.iload_n 1, 0, 0, 0, (some (Jvm.ClassFile.FieldType.boolean))) := rfl
theorem i_250_23 : iRow 250 23 = some (.if_icmp .ne 7, 0, 0, 0, (some (Jvm.ClassFile.FieldType.boolean))) := rfl
theorem i_250_26 : iRow 250 26 = some (.iconst 1, 0, 0, 0, (some (Jvm.ClassFile.FieldType.boolean))) := rfl
theorem i_250_27 : iRow 250 27 = some (.goto 4, 0, 0, 0, (some (Jvm.ClassFile.FieldType.boolean))) := rfl
theorem i_250_30 : iRow 250 30 = some (.iconst 0, 0, 0, 0, (some (Jvm.ClassFile.FieldType.boolean))) := rfl
theorem i_250_31 : iRow 250 31 = some (.istore_n 2, 0, 0, 0, (some (Jvm.ClassFile.FieldType.boolean))) := rfl
theorem i_250_32 : iRow 250 32 = some (.iconst 0, 0, 0, 0, (some (Jvm.ClassFile.FieldType.boolean))) := rfl
theorem i_250_33 : iRow 250 33 = some (.istore_n 3, 0, 0, 0, (some (Jvm.ClassFile.FieldType.boolean))) := rfl
theorem i_250_34 : iRow 250 34 = some (.iload_n 3, 0, 0, 0, (some (Jvm.ClassFile.FieldType.boolean))) := rfl
theorem i_250_35 : iRow 250 35 = some (.aload_n 0, 0, 0, 0, (some (Jvm.ClassFile.FieldType.boolean))) := rfl
theorem i_250_36 : iRow 250 36 = some (.getfield 13, 165, 12, 1, (some (Jvm.ClassFile.FieldType.boolean))) := rfl
theorem i_250_39 : iRow 250 39 = some (.iconst 2, 0, 0, 0, (some (Jvm.ClassFile.FieldType.boolean))) := rfl
theorem i_250_40 : iRow 250 40 = some (.iaload, 0, 0, 0, (some (Jvm.ClassFile.FieldType.boolean))) := rfl
theorem i_250_41 : iRow 250 41 = some (.if_icmp .ge 42, 0, 0, 0, (some (Jvm.ClassFile.FieldType.boolean))) := rfl
theorem i_250_44 : iRow 250 44 = some (.aload_n 0, 0, 0, 0, (some (Jvm.ClassFile.FieldType.boolean))) := rfl
theorem i_250_45 : iRow 250 45 = some (.getfield 359, 194, 12, 30, (some (Jvm.ClassFile.FieldType.boolean))) := rfl
theorem i_250_48 : iRow 250 48 = some (.ifCond .ne 35, 0, 0, 0, (some (Jvm.ClassFile.FieldType.boolean))) := rfl
theorem i_250_51 : iRow 250 51 = some (.iload_n 2, 0, 0, 0, (some (Jvm.ClassFile.FieldType.boolean))) := rfl
theorem i_250_52 : iRow 250 52 = some (.ifCond .eq 23, 0, 0, 0, (some (Jvm.ClassFile.FieldType.boolean))) := rfl
theorem i_250_55 : iRow 250 55 = some (.aload_n 0, 0, 0, 0, (some (Jvm.ClassFile.FieldType.boolean))) := rfl
theorem i_250_56 : iRow 250 56 = some (.getfield 13, 165, 12, 1, (some (Jvm.ClassFile.FieldType.boolean))) := rfl
theorem i_250_59 : iRow 250 59 = some (.sipush 413, 0, 0, 0, (some (Jvm.ClassFile.FieldType.boolean))) := rfl
theorem i_250_62 : iRow 250 62 = some (.iconst 3, 0, 0, 0, (some (Jvm.ClassFile.FieldType.boolean))) := rfl
theorem i_250_63 : iRow 250 63 = some (.iload_n 3, 0, 0, 0, (some (Jvm.ClassFile.FieldType.boolean))) := rfl
theorem i_250_64 : iRow 250 64 = some (.imul, 0, 0, 0, (some (Jvm.ClassFile.FieldType.boolean))) := rfl
theorem i_250_65 : iRow 250 65 = some (.iadd, 0, 0, 0, (some (Jvm.ClassFile.FieldType.boolean))) := rfl
theorem i_250_66 : iRow 250 66 = some (.iaload, 0, 0, 0, (some (Jvm.ClassFile.FieldType.boolean))) := rfl
theorem i_250_67 : iRow 250 67 = some (.iload_n 1, 0, 0, 0, (some (Jvm.ClassFile.FieldType.boolean))) := rfl
theorem i_250_68 : iRow 250 68 = some (.if_icmp .gt 7, 0, 0, 0, (some (Jvm.ClassFile.FieldType.boolean))) := rfl
theorem i_250_71 : iRow 250 71 = some (.iconst 1, 0, 0, 0, (some (Jvm.ClassFile.FieldType.boolean))) := rfl
theorem i_250_72 : iRow 250 72 = some (.goto 4, 0, 0, 0, (some (Jvm.ClassFile.FieldType.boolean))) := rfl
theorem i_250_75 : iRow 250 75 = some (.iconst 0, 0, 0, 0, (some (Jvm.ClassFile.FieldType.boolean))) := rfl
theorem i_250_76 : iRow 250 76 = some (.istore_n 2, 0, 0, 0, (some (Jvm.ClassFile.FieldType.boolean))) := rfl
theorem i_250_77 : iRow 250 77 = some (.iinc 3 1, 0, 0, 0, (some (Jvm.ClassFile.FieldType.boolean))) := rfl
theorem i_250_80 : iRow 250 80 = some (.goto (-46), 0, 0, 0, (some (Jvm.ClassFile.FieldType.boolean))) := rfl
theorem i_250_83 : iRow 250 83 = some (.iload_n 2, 0, 0, 0, (some (Jvm.ClassFile.FieldType.boolean))) := rfl
theorem i_250_84 : iRow 250 84 = some (.ireturn, 0, 0, 0, (some (Jvm.ClassFile.FieldType.boolean))) := rfl
theorem i_251_0 : iRow 251 0 = some (.iconst 0, 0, 0, 0, (some (Jvm.ClassFile.FieldType.int))) := rfl
theorem i_251_1 : iRow 251 1 = some (.istore_n 3, 0, 0, 0, (some (Jvm.ClassFile.FieldType.int))) := rfl
theorem i_251_2 : iRow 251 2 = some (.iload_n 3, 0, 0, 0, (some (Jvm.ClassFile.FieldType.int))) := rfl
theorem i_251_3 : iRow 251 3 = some (.iload_n 2, 0, 0, 0, (some (Jvm.ClassFile.FieldType.int))) := rfl
theorem i_251_4 : iRow 251 4 = some (.if_icmp .ge 18, 0, 0, 0, (some (Jvm.ClassFile.FieldType.int))) := rfl
theorem i_251_7 : iRow 251 7 = some (.aload_n 1, 0, 0, 0, (some (Jvm.ClassFile.FieldType.int))) := rfl
theorem i_251_8 : iRow 251 8 = some (.iload_n 3, 0, 0, 0, (some (Jvm.ClassFile.FieldType.int))) := rfl
theorem i_251_9 : iRow 251 9 = some (.aload_n 0, 0, 0, 0, (some (Jvm.ClassFile.FieldType.int))) := rfl
theorem i_251_10 : iRow 251 10 = some (.getfield 53, 185, 12, 21, (some (Jvm.ClassFile.FieldType.int))) := rfl
theorem i_251_13 : iRow 251 13 = some (.iload_n 3, 0, 0, 0, (some (Jvm.ClassFile.FieldType.int))) := rfl
theorem i_251_14 : iRow 251 14 = some (.iaload, 0, 0, 0, (some (Jvm.ClassFile.FieldType.int))) := rfl
theorem i_251_15 : iRow 251 15 = some (.iastore, 0, 0, 0, (some (Jvm.ClassFile.FieldType.int))) := rfl
theorem i_251_16 : iRow 251 16 = some (.iinc 3 1, 0, 0, 0, (some (Jvm.ClassFile.FieldType.int))) := rfl
theorem i_251_19 : iRow 251 19 = some (.goto (-17), 0, 0, 0, (some (Jvm.ClassFile.FieldType.int))) := rfl
theorem i_251_22 : iRow 251 22 = some (.iload_n 2, 0, 0, 0, (some (Jvm.ClassFile.FieldType.int))) := rfl
theorem i_251_23 : iRow 251 23 = some (.ireturn, 0, 0, 0, (some (Jvm.ClassFile.FieldType.int))) := rfl
theorem i_252_0 : iRow 252 0 = some (.iload_n 1, 0, 0, 0, (some (Jvm.ClassFile.FieldType.boolean))) := rfl
theorem i_252_1 : iRow 252 1 = some (.bipush 30, 0, 0, 0, (some (Jvm.ClassFile.FieldType.boolean))) := rfl
theorem i_252_3 : iRow 252 3 = some (.if_icmp .ge 32, 0, 0, 0, (some (Jvm.ClassFile.FieldType.boolean))) := rfl
theorem i_252_6 : iRow 252 6 = some (.aload_n 0, 0, 0, 0, (some (Jvm.ClassFile.FieldType.boolean))) := rfl
theorem i_252_7 : iRow 252 7 = some (.getfield 359, 194, 12, 30, (some (Jvm.ClassFile.FieldType.boolean))) := rfl
theorem i_252_10 : iRow 252 10 = some (.ifCond .ne 13, 0, 0, 0, (some (Jvm.ClassFile.FieldType.boolean))) := rfl
theorem i_252_13 : iRow 252 13 = some (.aload_n 0, 0, 0, 0, (some (Jvm.ClassFile.FieldType.boolean))) := rfl
theorem i_252_14 : iRow 252 14 = some (.getfield 13, 165, 12, 1, (some (Jvm.ClassFile.FieldType.boolean))) := rfl
theorem i_252_17 : iRow 252 17 = some (.iconst 3, 0, 0, 0, (some (Jvm.ClassFile.FieldType.boolean))) := rfl
theorem i_252_18 : iRow 252 18 = some (.iaload, 0, 0, 0, (some (Jvm.ClassFile.FieldType.boolean))) := rfl
theorem i_252_19 : iRow 252 19 = some (.iload_n 1, 0, 0, 0, (some (Jvm.ClassFile.FieldType.boolean))) := rfl
theorem i_252_20 : iRow 252 20 = some (.if_icmp .eq 15, 0, 0, 0, (some (Jvm.ClassFile.FieldType.boolean))) := rfl
theorem i_252_23 : iRow 252 23 = some (.aload_n 0, 0, 0, 0, (some (Jvm.ClassFile.FieldType.boolean))) := rfl
theorem i_252_24 : iRow 252 24 = some (.iload_n 1, 0, 0, 0, (some (Jvm.ClassFile.FieldType.boolean))) := rfl
theorem i_252_25 : iRow 252 25 = some (.invokevirtual 362, 340, 249, 1, (some (Jvm.ClassFile.FieldType.boolean))) := rfl
theorem i_252_28 : iRow 252 28 = some (.ifCond .ne 7, 0, 0, 0, (some (Jvm.ClassFile.FieldType.boolean))) := rfl
theorem i_252_31 : iRow 252 31 = some (.iconst 1, 0, 0, 0, (some (Jvm.ClassFile.FieldType.boolean))) := rfl
theorem i_252_32 : iRow 252 32 = some (.goto 4, 0, 0, 0, (some (Jvm.ClassFile.FieldType.boolean))) := rfl
theorem i_252_35 : iRow 252 35 = some (.iconst 0, 0, 0, 0, (some (Jvm.ClassFile.FieldType.boolean))) := rfl
theorem i_252_36 : iRow 252 36 = some (.ireturn, 0, 0, 0, (some (Jvm.ClassFile.FieldType.boolean))) := rfl
theorem i_254_0 : iRow 254 0 = some (.aload_n 0, 0, 0, 0, none) := rfl
theorem i_254_1 : iRow 254 1 = some (.getfield 53, 185, 12, 21, none) := rfl
theorem i_254_4 : iRow 254 4 = some (.iload_n 1, 0, 0, 0, none) := rfl
theorem i_254_5 : iRow 254 5 = some (.iaload, 0, 0, 0, none) := rfl
theorem i_254_6 : iRow 254 6 = some (.istore 4, 0, 0, 0, none) := rfl
theorem i_254_8 : iRow 254 8 = some (.aload_n 0, 0, 0, 0, none) := rfl
theorem i_254_9 : iRow 254 9 = some (.iload_n 1, 0, 0, 0, none) := rfl
theorem i_254_10 : iRow 254 10 = some (.iload 4, 0, 0, 0, none) := rfl
theorem i_254_12 : iRow 254 12 = some (.bipush 36, 0, 0, 0, none) := rfl
theorem i_254_14 : iRow 254 14 = some (.idiv, 0, 0, 0, none) := rfl
theorem i_254_15 : iRow 254 15 = some (.invokevirtual 279, 308, 219, 1, none) := rfl
theorem i_254_18 : iRow 254 18 = some (.istore 5, 0, 0, 0, none) := rfl
theorem i_254_20 : iRow 254 20 = some (.iload 4, 0, 0, 0, none) := rfl
theorem i_254_22 : iRow 254 22 = some (.bipush 36, 0, 0, 0, none) := rfl
theorem i_254_24 : iRow 254 24 = some (.irem, 0, 0, 0, none) := rfl
theorem i_254_25 : iRow 254 25 = some (.istore 6, 0, 0, 0, none) := rfl
theorem i_254_27 : iRow 254 27 = some (.aload_n 0, 0, 0, 0, none) := rfl
theorem i_254_28 : iRow 254 28 = some (.getfield 47, 183, 12, 19, none) := rfl
theorem i_254_31 : iRow 254 31 = some (.iload_n 2, 0, 0, 0, none) := rfl
theorem i_254_32 : iRow 254 32 = some (.iaload, 0, 0, 0, none) := rfl
theorem i_254_33 : iRow 254 33 = some (.iconst 1, 0, 0, 0, none) := rfl
theorem i_254_34 : iRow 254 34 = some (.if_icmp .ne 22, 0, 0, 0, none) := rfl
theorem i_254_37 : iRow 254 37 = some (.iload 5, 0, 0, 0, none) := rfl
theorem i_254_39 : iRow 254 39 = some (.invokestatic 282, 309, 220, 0, none) := rfl
theorem i_254_42 : iRow 254 42 = some (.iconst 1, 0, 0, 0, none) := rfl
theorem i_254_43 : iRow 254 43 = some (.if_icmp .ne 13, 0, 0, 0, none) := rfl
theorem i_254_46 : iRow 254 46 = some (.iconst 5, 0, 0, 0, none) := rfl
theorem i_254_47 : iRow 254 47 = some (.iload 6, 0, 0, 0, none) := rfl
theorem i_254_49 : iRow 254 49 = some (.bipush 6, 0, 0, 0, none) := rfl
theorem i_254_51 : iRow 254 51 = some (.idiv, 0, 0, 0, none) := rfl
theorem i_254_52 : iRow 254 52 = some (.isub, 0, 0, 0, none) := rfl
theorem i_254_53 : iRow 254 53 = some (.goto 8, 0, 0, 0, none) := rfl
theorem i_254_56 : iRow 254 56 = some (.iload 6, 0, 0, 0, none) := rfl
theorem i_254_58 : iRow 254 58 = some (.bipush 6, 0, 0, 0, none) := rfl
theorem i_254_60 : iRow 254 60 = some (.idiv, 0, 0, 0, none) := rfl
theorem i_254_61 : iRow 254 61 = some (.istore 7, 0, 0, 0, none) := rfl
theorem i_254_63 : iRow 254 63 = some (.aload_n 0, 0, 0, 0, none) := rfl
theorem i_254_64 : iRow 254 64 = some (.iload_n 2, 0, 0, 0, none) := rfl
theorem i_254_65 : iRow 254 65 = some (.iload_n 3, 0, 0, 0, none) := rfl
theorem i_254_66 : iRow 254 66 = some (.iconst 0, 0, 0, 0, none) := rfl
theorem i_254_67 : iRow 254 67 = some (.invokevirtual 272, 300, 211, 1, none) := rfl
theorem i_254_70 : iRow 254 70 = some (.iload 5, 0, 0, 0, none) := rfl
theorem i_254_72 : iRow 254 72 = some (.iconst 2, 0, 0, 0, none) := rfl
theorem i_254_73 : iRow 254 73 = some (.idiv, 0, 0, 0, none) := rfl
theorem i_254_74 : iRow 254 74 = some (.if_icmp .ne 7, 0, 0, 0, none) := rfl
theorem i_254_77 : iRow 254 77 = some (.iconst 1, 0, 0, 0, none) := rfl
theorem i_254_78 : iRow 254 78 = some (.goto 4, 0, 0, 0, none) := rfl
theorem i_254_81 : iRow 254 81 = some (.iconst 0, 0, 0, 0, none) := rfl
theorem i_254_82 : iRow 254 82 = some (.istore 8, 0, 0, 0, none) := rfl
theorem i_254_84 : iRow 254 84 = some (.aload_n 0, 0, 0, 0, none) := rfl
theorem i_254_85 : iRow 254 85 = some (.iload_n 2, 0, 0, 0, none) := rfl
theorem i_254_86 : iRow 254 86 = some (.iload_n 3, 0, 0, 0, none) := rfl
theorem i_254_87 : iRow 254 87 = some (.iconst 1, 0, 0, 0, none) := rfl
theorem i_254_88 : iRow 254 88 = some (.invokevirtual 272, 300, 211, 1, none) := rfl
theorem i_254_91 : iRow 254 91 = some (.ifCond .lt 21, 0, 0, 0, none) := rfl
theorem i_254_94 : iRow 254 94 = some (.aload_n 0, 0, 0, 0, none) := rfl
theorem i_254_95 : iRow 254 95 = some (.iload_n 2, 0, 0, 0, none) := rfl
theorem i_254_96 : iRow 254 96 = some (.iload_n 3, 0, 0, 0, none) := rfl
theorem i_254_97 : iRow 254 97 = some (.iconst 1, 0, 0, 0, none) := rfl
theorem i_254_98 : iRow 254 98 = some (.invokevirtual 272, 300, 211, 1, none) := rfl
theorem i_254_101 : iRow 254 101 = some (.iload 4, 0, 0, 0, none) := rfl
theorem i_254_103 : iRow 254 103 = some (.bipush 36, 0, 0, 0, none) := rfl
theorem i_254_105 : iRow 254 105 = some (.idiv, 0, 0, 0, none) := rfl
theorem i_254_106 : iRow 254 106 = some (.bipush 6, 0, 0, 0, none) := rfl
theorem i_254_108 : iRow 254 108 = some (.irem, 0, 0, 0, none) := rfl
theorem i_254_109 : iRow 254 109 = some (.if_icmp .ne 7, 0, 0, 0, none) := rfl
theorem i_254_112 : iRow 254 112 = some (.iconst 1, 0, 0, 0, none) := rfl
theorem i_254_113 : iRow 254 113 = some (.goto 4, 0, 0, 0, none) := rfl
theorem i_254_116 : iRow 254 116 = some (.iconst 0, 0, 0, 0, none) := rfl
theorem i_254_117 : iRow 254 117 = some (.istore 9, 0, 0, 0, none) := rfl
theorem i_254_119 : iRow 254 119 = some (.sipush 1000, 0, 0, 0, none) := rfl
theorem i_254_122 : iRow 254 122 = some (.istore 10, 0, 0, 0, none) := rfl
theorem i_254_124 : iRow 254 124 = some (.iconst 0, 0, 0, 0, none) := rfl
theorem i_254_125 : iRow 254 125 = some (.istore 11, 0, 0, 0, none) := rfl
theorem i_254_127 : iRow 254 127 = some (.iconst 0, 0, 0, 0, none) := rfl
theorem i_254_128 : iRow 254 128 = some (.istore 12, 0, 0, 0, none) := rfl
theorem i_254_130 : iRow 254 130 = some (.iload 12, 0, 0, 0, none) := rfl
theorem i_254_132 : iRow 254 132 = some (.bipush 6, 0, 0, 0, none) := rfl
theorem i_254_134 : iRow 254 134 = some (.if_icmp .ge 103, 0, 0, 0, none) := rfl
theorem i_254_137 : iRow 254 137 = some (.iload 12, 0, 0, 0, none) := rfl
theorem i_254_139 : iRow 254 139 = some (.ifCond .le 13, 0, 0, 0, none) := rfl
theorem i_254_142 : iRow 254 142 = some (.aload_n 0, 0, 0, 0, none) := rfl
theorem i_254_143 : iRow 254 143 = some (.getfield 50, 184, 12, 20, none) := rfl
theorem i_254_146 : iRow 254 146 = some (.iload 12, 0, 0, 0, none) := rfl
theorem i_254_148 : iRow 254 148 = some (.iaload, 0, 0, 0, none) := rfl
theorem i_254_149 : iRow 254 149 = some (.ifCond .eq 82, 0, 0, 0, none) := rfl
theorem i_254_152 : iRow 254 152 = some (.iload 12, 0, 0, 0, none) := rfl
theorem i_254_154 : iRow 254 154 = some (.iload 8, 0, 0, 0, none) := rfl
theorem i_254_156 : iRow 254 156 = some (.iload 9, 0, 0, 0, none) := rfl
theorem i_254_158 : iRow 254 158 = some (.aload_n 0, 0, 0, 0, none) := rfl
theorem i_254_159 : iRow 254 159 = some (.iload_n 2, 0, 0, 0, none) := rfl
theorem i_254_160 : iRow 254 160 = some (.iload_n 3, 0, 0, 0, none) := rfl
theorem i_254_161 : iRow 254 161 = some (.iconst 2, 0, 0, 0, none) := rfl
theorem i_254_162 : iRow 254 162 = some (.invokevirtual 272, 300, 211, 1, none) := rfl
theorem i_254_165 : iRow 254 165 = some (.aload_n 0, 0, 0, 0, none) := rfl
theorem i_254_166 : iRow 254 166 = some (.iload_n 2, 0, 0, 0, none) := rfl
theorem i_254_167 : iRow 254 167 = some (.iload_n 3, 0, 0, 0, none) := rfl
theorem i_254_168 : iRow 254 168 = some (.iconst 3, 0, 0, 0, none) := rfl
theorem i_254_169 : iRow 254 169 = some (.invokevirtual 272, 300, 211, 1, none) := rfl
theorem i_254_172 : iRow 254 172 = some (.iload 6, 0, 0, 0, none) := rfl
theorem i_254_174 : iRow 254 174 = some (.bipush 6, 0, 0, 0, none) := rfl
theorem i_254_176 : iRow 254 176 = some (.irem, 0, 0, 0, none) := rfl
theorem i_254_177 : iRow 254 177 = some (.iload 7, 0, 0, 0, none) := rfl
theorem i_254_179 : iRow 254 179 = some (.invokestatic 322, 346, 255, 0, none) := rfl
theorem i_254_182 : iRow 254 182 = some (.ifCond .ne 6, 0, 0, 0, none) := rfl
theorem i_254_185 : iRow 254 185 = some (.goto 46, 0, 0, 0, none) := rfl
theorem i_254_188 : iRow 254 188 = some (.iload 12, 0, 0, 0, none) := rfl
theorem i_254_190 : iRow 254 190 = some (.ifCond .ne 7, 0, 0, 0, none) := rfl
theorem i_254_193 : iRow 254 193 = some (.iconst 0, 0, 0, 0, none) := rfl
theorem i_254_194 : iRow 254 194 = some (.goto 10, 0, 0, 0, none) := rfl
theorem i_254_197 : iRow 254 197 = some (.aload_n 0, 0, 0, 0, none) := rfl
theorem i_254_198 : iRow 254 198 = some (.getfield 50, 184, 12, 20, none) := rfl
theorem i_254_201 : iRow 254 201 = some (.iload 12, 0, 0, 0, none) := rfl
theorem i_254_203 : iRow 254 203 = some (.iaload, 0, 0, 0, none) := rfl
theorem i_254_204 : iRow 254 204 = some (.istore 13, 0, 0, 0, none) := rfl
theorem i_254_206 : iRow 254 206 = some (.iload 13, 0, 0, 0, none) := rfl
theorem i_254_208 : iRow 254 208 = some (.iload 10, 0, 0, 0, none) := rfl
theorem i_254_210 : iRow 254 210 = some (.if_icmp .ge 8, 0, 0, 0, none) := rfl
theorem i_254_213 : iRow 254 213 = some (.iload 12, 0, 0, 0, none) := rfl
theorem i_254_215 : iRow 254 215 = some (.goto 5, 0, 0, 0, none) := rfl
theorem i_254_218 : iRow 254 218 = some (.iload 11, 0, 0, 0, none) := rfl
theorem i_254_220 : iRow 254 220 = some (.istore 11, 0, 0, 0, none) := rfl
theorem i_254_222 : iRow 254 222 = some (.iload 10, 0, 0, 0, none) := rfl
theorem i_254_224 : iRow 254 224 = some (.iload 13, 0, 0, 0, none) := rfl
theorem i_254_226 : iRow 254 226 = some (.invokestatic 326, 332, 21, 0, none) := rfl
theorem i_254_229 : iRow 254 229 = some (.istore 10, 0, 0, 0, none) := rfl
theorem i_254_231 : iRow 254 231 = some (.iinc 12 1, 0, 0, 0, none) := rfl
theorem i_254_234 : iRow 254 234 = some (.goto (-104), 0, 0, 0, none) := rfl
theorem i_254_237 : iRow 254 237 = some (.aload_n 0, 0, 0, 0, none) := rfl
theorem i_254_238 : iRow 254 238 = some (.getfield 56, 186, 12, 22, none) := rfl
set_option maxRecDepth 20000 in
theorem i_254_241 : iRow 254 241 = some (.iload_n 1, 0, 0, 0, none) := rfl
set_option maxRecDepth 20000 in
theorem i_254_242 : iRow 254 242 = some (.iload_n 2, 0, 0, 0, none) := rfl
set_option maxRecDepth 20000 in
theorem i_254_243 : iRow 254 243 = some (.iload_n 3, 0, 0, 0, none) := rfl
set_option maxRecDepth 20000 in
theorem i_254_244 : iRow 254 244 = some (.invokestatic 329, 328, 239, 0, none) := rfl
set_option maxRecDepth 20000 in
theorem i_254_247 : iRow 254 247 = some (.iload 10, 0, 0, 0, none) := rfl
set_option maxRecDepth 20000 in
theorem i_254_249 : iRow 254 249 = some (.iastore, 0, 0, 0, none) := rfl
set_option maxRecDepth 20000 in
theorem i_254_250 : iRow 254 250 = some (.aload_n 0, 0, 0, 0, none) := rfl
set_option maxRecDepth 20000 in
theorem i_254_251 : iRow 254 251 = some (.getfield 59, 187, 12, 23, none) := rfl
set_option maxRecDepth 20000 in
theorem i_254_254 : iRow 254 254 = some (.iload_n 1, 0, 0, 0, none) := rfl
set_option maxRecDepth 20000 in
theorem i_254_255 : iRow 254 255 = some (.iload_n 2, 0, 0, 0, none) := rfl
set_option maxRecDepth 20000 in
theorem i_254_256 : iRow 254 256 = some (.iload_n 3, 0, 0, 0, none) := rfl
set_option maxRecDepth 20000 in
theorem i_254_257 : iRow 254 257 = some (.invokestatic 329, 328, 239, 0, none) := rfl
set_option maxRecDepth 20000 in
theorem i_254_260 : iRow 254 260 = some (.iload 11, 0, 0, 0, none) := rfl
set_option maxRecDepth 20000 in
theorem i_254_262 : iRow 254 262 = some (.iastore, 0, 0, 0, none) := rfl
set_option maxRecDepth 20000 in
theorem i_254_263 : iRow 254 263 = some (.return_, 0, 0, 0, none) := rfl
theorem i_255_0 : iRow 255 0 = some (.iload_n 3, 0, 0, 0, (some (Jvm.ClassFile.FieldType.boolean))) := rfl
theorem i_255_1 : iRow 255 1 = some (.iload 5, 0, 0, 0, (some (Jvm.ClassFile.FieldType.boolean))) := rfl
theorem i_255_3 : iRow 255 3 = some (.if_icmp .ne 7, 0, 0, 0, (some (Jvm.ClassFile.FieldType.boolean))) := rfl
theorem i_255_6 : iRow 255 6 = some (.iconst 1, 0, 0, 0, (some (Jvm.ClassFile.FieldType.boolean))) := rfl
theorem i_255_7 : iRow 255 7 = some (.goto 4, 0, 0, 0, (some (Jvm.ClassFile.FieldType.boolean))) := rfl
theorem i_255_10 : iRow 255 10 = some (.iconst 0, 0, 0, 0, (some (Jvm.ClassFile.FieldType.boolean))) := rfl
theorem i_255_11 : iRow 255 11 = some (.istore 7, 0, 0, 0, (some (Jvm.ClassFile.FieldType.boolean))) := rfl
theorem i_255_13 : iRow 255 13 = some (.iload 4, 0, 0, 0, (some (Jvm.ClassFile.FieldType.boolean))) := rfl
theorem i_255_15 : iRow 255 15 = some (.iload 6, 0, 0, 0, (some (Jvm.ClassFile.FieldType.boolean))) := rfl
theorem i_255_17 : iRow 255 17 = some (.if_icmp .ne 7, 0, 0, 0, (some (Jvm.ClassFile.FieldType.boolean))) := rfl
theorem i_255_20 : iRow 255 20 = some (.iconst 1, 0, 0, 0, (some (Jvm.ClassFile.FieldType.boolean))) := rfl
theorem i_255_21 : iRow 255 21 = some (.goto 4, 0, 0, 0, (some (Jvm.ClassFile.FieldType.boolean))) := rfl
theorem i_255_24 : iRow 255 24 = some (.iconst 0, 0, 0, 0, (some (Jvm.ClassFile.FieldType.boolean))) := rfl
theorem i_255_25 : iRow 255 25 = some (.istore 8, 0, 0, 0, (some (Jvm.ClassFile.FieldType.boolean))) := rfl
theorem i_255_27 : iRow 255 27 = some (.iload_n 0, 0, 0, 0, (some (Jvm.ClassFile.FieldType.boolean))) := rfl
theorem i_255_28 : iRow 255 28 = some (.tableswitch 178 0 4 #[36, 60, 84, 114, 145], 0, 0, 0, (some (Jvm.ClassFile.FieldType.boolean))) := rfl
theorem i_255_64 : iRow 255 64 = some (.iload_n 1, 0, 0, 0, (some (Jvm.ClassFile.FieldType.boolean))) := rfl
theorem i_255_65 : iRow 255 65 = some (.ifCond .eq 21, 0, 0, 0, (some (Jvm.ClassFile.FieldType.boolean))) := rfl
theorem i_255_68 : iRow 255 68 = some (.iload_n 2, 0, 0, 0, (some (Jvm.ClassFile.FieldType.boolean))) := rfl
theorem i_255_69 : iRow 255 69 = some (.ifCond .eq 17, 0, 0, 0, (some (Jvm.ClassFile.FieldType.boolean))) := rfl
theorem i_255_72 : iRow 255 72 = some (.iload 7, 0, 0, 0, (some (Jvm.ClassFile.FieldType.boolean))) := rfl
theorem i_255_74 : iRow 255 74 = some (.ifCond .eq 12, 0, 0, 0, (some (Jvm.ClassFile.FieldType.boolean))) := rfl
theorem i_255_77 : iRow 255 77 = some (.iload 8, 0, 0, 0, (some (Jvm.ClassFile.FieldType.boolean))) := rfl
theorem i_255_79 : iRow 255 79 = some (.ifCond .eq 7, 0, 0, 0, (some (Jvm.ClassFile.FieldType.boolean))) := rfl
theorem i_255_82 : iRow 255 82 = some (.iconst 1, 0, 0, 0, (some (Jvm.ClassFile.FieldType.boolean))) := rfl
theorem i_255_83 : iRow 255 83 = some (.goto 4, 0, 0, 0, (some (Jvm.ClassFile.FieldType.boolean))) := rfl
theorem i_255_86 : iRow 255 86 = some (.iconst 0, 0, 0, 0, (some (Jvm.ClassFile.FieldType.boolean))) := rfl
theorem i_255_87 : iRow 255 87 = some (.ireturn, 0, 0, 0, (some (Jvm.ClassFile.FieldType.boolean))) := rfl
theorem i_255_88 : iRow 255 88 = some (.iload_n 1, 0, 0, 0, (some (Jvm.ClassFile.FieldType.boolean))) := rfl
theorem i_255_89 : iRow 255 89 = some (.ifCond .ne 21, 0, 0, 0, (some (Jvm.ClassFile.FieldType.boolean))) := rfl
theorem i_255_92 : iRow 255 92 = some (.iload_n 2, 0, 0, 0, (some (Jvm.ClassFile.FieldType.boolean))) := rfl
theorem i_255_93 : iRow 255 93 = some (.ifCond .eq 17, 0, 0, 0, (some (Jvm.ClassFile.FieldType.boolean))) := rfl
theorem i_255_96 : iRow 255 96 = some (.iload 7, 0, 0, 0, (some (Jvm.ClassFile.FieldType.boolean))) := rfl
theorem i_255_98 : iRow 255 98 = some (.ifCond .eq 12, 0, 0, 0, (some (Jvm.ClassFile.FieldType.boolean))) := rfl
theorem i_255_101 : iRow 255 101 = some (.iload 8, 0, 0, 0, (some (Jvm.ClassFile.FieldType.boolean))) := rfl
theorem i_255_103 : iRow 255 103 = some (.ifCond .eq 7, 0, 0, 0, (some (Jvm.ClassFile.FieldType.boolean))) := rfl
theorem i_255_106 : iRow 255 106 = some (.iconst 1, 0, 0, 0, (some (Jvm.ClassFile.FieldType.boolean))) := rfl
theorem i_255_107 : iRow 255 107 = some (.goto 4, 0, 0, 0, (some (Jvm.ClassFile.FieldType.boolean))) := rfl
theorem i_255_110 : iRow 255 110 = some (.iconst 0, 0, 0, 0, (some (Jvm.ClassFile.FieldType.boolean))) := rfl
theorem i_255_111 : iRow 255 111 = some (.ireturn, 0, 0, 0, (some (Jvm.ClassFile.FieldType.boolean))) := rfl
theorem i_255_112 : iRow 255 112 = some (.iload_n 1, 0, 0, 0, (some (Jvm.ClassFile.FieldType.boolean))) := rfl
theorem i_255_113 : iRow 255 113 = some (.ifCond .eq 27, 0, 0, 0, (some (Jvm.ClassFile.FieldType.boolean))) := rfl
theorem i_255_116 : iRow 255 116 = some (.iload_n 2, 0, 0, 0, (some (Jvm.ClassFile.FieldType.boolean))) := rfl
theorem i_255_117 : iRow 255 117 = some (.ifCond .eq 23, 0, 0, 0, (some (Jvm.ClassFile.FieldType.boolean))) := rfl
theorem i_255_120 : iRow 255 120 = some (.iload_n 3, 0, 0, 0, (some (Jvm.ClassFile.FieldType.boolean))) := rfl
theorem i_255_121 : iRow 255 121 = some (.iload 5, 0, 0, 0, (some (Jvm.ClassFile.FieldType.boolean))) := rfl
theorem i_255_123 : iRow 255 123 = some (.isub, 0, 0, 0, (some (Jvm.ClassFile.FieldType.boolean))) := rfl
theorem i_255_124 : iRow 255 124 = some (.invokestatic 317, 347, 256, 0, (some (Jvm.ClassFile.FieldType.boolean))) := rfl
theorem i_255_127 : iRow 255 127 = some (.iconst 1, 0, 0, 0, (some (Jvm.ClassFile.FieldType.boolean))) := rfl
theorem i_255_128 : iRow 255 128 = some (.if_icmp .ne 12, 0, 0, 0, (some (Jvm.ClassFile.FieldType.boolean))) := rfl
theorem i_255_131 : iRow 255 131 = some (.iload 8, 0, 0, 0, (some (Jvm.ClassFile.FieldType.boolean))) := rfl
theorem i_255_133 : iRow 255 133 = some (.ifCond .eq 7, 0, 0, 0, (some (Jvm.ClassFile.FieldType.boolean))) := rfl
theorem i_255_136 : iRow 255 136 = some (.iconst 1, 0, 0, 0, (some (Jvm.ClassFile.FieldType.boolean))) := rfl
theorem i_255_137 : iRow 255 137 = some (.goto 4, 0, 0, 0, (some (Jvm.ClassFile.FieldType.boolean))) := rfl
theorem i_255_140 : iRow 255 140 = some (.iconst 0, 0, 0, 0, (some (Jvm.ClassFile.FieldType.boolean))) := rfl
theorem i_255_141 : iRow 255 141 = some (.ireturn, 0, 0, 0, (some (Jvm.ClassFile.FieldType.boolean))) := rfl
theorem i_255_142 : iRow 255 142 = some (.iload_n 1, 0, 0, 0, (some (Jvm.ClassFile.FieldType.boolean))) := rfl
theorem i_255_143 : iRow 255 143 = some (.ifCond .eq 28, 0, 0, 0, (some (Jvm.ClassFile.FieldType.boolean))) := rfl
theorem i_255_146 : iRow 255 146 = some (.iload_n 2, 0, 0, 0, (some (Jvm.ClassFile.FieldType.boolean))) := rfl
theorem i_255_147 : iRow 255 147 = some (.ifCond .eq 24, 0, 0, 0, (some (Jvm.ClassFile.FieldType.boolean))) := rfl
theorem i_255_150 : iRow 255 150 = some (.iload 7, 0, 0, 0, (some (Jvm.ClassFile.FieldType.boolean))) := rfl
theorem i_255_152 : iRow 255 152 = some (.ifCond .eq 19, 0, 0, 0, (some (Jvm.ClassFile.FieldType.boolean))) := rfl
theorem i_255_155 : iRow 255 155 = some (.iload 4, 0, 0, 0, (some (Jvm.ClassFile.FieldType.boolean))) := rfl
theorem i_255_157 : iRow 255 157 = some (.iload 6, 0, 0, 0, (some (Jvm.ClassFile.FieldType.boolean))) := rfl
theorem i_255_159 : iRow 255 159 = some (.isub, 0, 0, 0, (some (Jvm.ClassFile.FieldType.boolean))) := rfl
theorem i_255_160 : iRow 255 160 = some (.invokestatic 317, 347, 256, 0, (some (Jvm.ClassFile.FieldType.boolean))) := rfl
theorem i_255_163 : iRow 255 163 = some (.iconst 1, 0, 0, 0, (some (Jvm.ClassFile.FieldType.boolean))) := rfl
theorem i_255_164 : iRow 255 164 = some (.if_icmp .ne 7, 0, 0, 0, (some (Jvm.ClassFile.FieldType.boolean))) := rfl
theorem i_255_167 : iRow 255 167 = some (.iconst 1, 0, 0, 0, (some (Jvm.ClassFile.FieldType.boolean))) := rfl
theorem i_255_168 : iRow 255 168 = some (.goto 4, 0, 0, 0, (some (Jvm.ClassFile.FieldType.boolean))) := rfl
theorem i_255_171 : iRow 255 171 = some (.iconst 0, 0, 0, 0, (some (Jvm.ClassFile.FieldType.boolean))) := rfl
theorem i_255_172 : iRow 255 172 = some (.ireturn, 0, 0, 0, (some (Jvm.ClassFile.FieldType.boolean))) := rfl
theorem i_255_173 : iRow 255 173 = some (.iload_n 1, 0, 0, 0, (some (Jvm.ClassFile.FieldType.boolean))) := rfl
theorem i_255_174 : iRow 255 174 = some (.ifCond .eq 30, 0, 0, 0, (some (Jvm.ClassFile.FieldType.boolean))) := rfl
theorem i_255_177 : iRow 255 177 = some (.iload_n 2, 0, 0, 0, (some (Jvm.ClassFile.FieldType.boolean))) := rfl
theorem i_255_178 : iRow 255 178 = some (.ifCond .eq 26, 0, 0, 0, (some (Jvm.ClassFile.FieldType.boolean))) := rfl
theorem i_255_181 : iRow 255 181 = some (.iload 7, 0, 0, 0, (some (Jvm.ClassFile.FieldType.boolean))) := rfl
theorem i_255_183 : iRow 255 183 = some (.ifCond .eq 21, 0, 0, 0, (some (Jvm.ClassFile.FieldType.boolean))) := rfl
theorem i_255_186 : iRow 255 186 = some (.iload 8, 0, 0, 0, (some (Jvm.ClassFile.FieldType.boolean))) := rfl
theorem i_255_188 : iRow 255 188 = some (.ifCond .ne 16, 0, 0, 0, (some (Jvm.ClassFile.FieldType.boolean))) := rfl
theorem i_255_191 : iRow 255 191 = some (.iconst 5, 0, 0, 0, (some (Jvm.ClassFile.FieldType.boolean))) := rfl
theorem i_255_192 : iRow 255 192 = some (.iload 4, 0, 0, 0, (some (Jvm.ClassFile.FieldType.boolean))) := rfl
theorem i_255_194 : iRow 255 194 = some (.isub, 0, 0, 0, (some (Jvm.ClassFile.FieldType.boolean))) := rfl
theorem i_255_195 : iRow 255 195 = some (.iload 6, 0, 0, 0, (some (Jvm.ClassFile.FieldType.boolean))) := rfl
theorem i_255_197 : iRow 255 197 = some (.if_icmp .ne 7, 0, 0, 0, (some (Jvm.ClassFile.FieldType.boolean))) := rfl
theorem i_255_200 : iRow 255 200 = some (.iconst 1, 0, 0, 0, (some (Jvm.ClassFile.FieldType.boolean))) := rfl
theorem i_255_201 : iRow 255 201 = some (.goto 4, 0, 0, 0, (some (Jvm.ClassFile.FieldType.boolean))) := rfl
theorem i_255_204 : iRow 255 204 = some (.iconst 0, 0, 0, 0, (some (Jvm.ClassFile.FieldType.boolean))) := rfl
theorem i_255_205 : iRow 255 205 = some (.ireturn, 0, 0, 0, (some (Jvm.ClassFile.FieldType.boolean))) := rfl
theorem i_255_206 : iRow 255 206 = some (.iload_n 1, 0, 0, 0, (some (Jvm.ClassFile.FieldType.boolean))) := rfl
theorem i_255_207 : iRow 255 207 = some (.ifCond .eq 21, 0, 0, 0, (some (Jvm.ClassFile.FieldType.boolean))) := rfl
theorem i_255_210 : iRow 255 210 = some (.iload_n 2, 0, 0, 0, (some (Jvm.ClassFile.FieldType.boolean))) := rfl
theorem i_255_211 : iRow 255 211 = some (.ifCond .ne 17, 0, 0, 0, (some (Jvm.ClassFile.FieldType.boolean))) := rfl
theorem i_255_214 : iRow 255 214 = some (.iload 7, 0, 0, 0, (some (Jvm.ClassFile.FieldType.boolean))) := rfl
theorem i_255_216 : iRow 255 216 = some (.ifCond .eq 12, 0, 0, 0, (some (Jvm.ClassFile.FieldType.boolean))) := rfl
theorem i_255_219 : iRow 255 219 = some (.iload 8, 0, 0, 0, (some (Jvm.ClassFile.FieldType.boolean))) := rfl
theorem i_255_221 : iRow 255 221 = some (.ifCond .eq 7, 0, 0, 0, (some (Jvm.ClassFile.FieldType.boolean))) := rfl
theorem i_255_224 : iRow 255 224 = some (.iconst 1, 0, 0, 0, (some (Jvm.ClassFile.FieldType.boolean))) := rfl
theorem i_255_225 : iRow 255 225 = some (.goto 4, 0, 0, 0, (some (Jvm.ClassFile.FieldType.boolean))) := rfl
theorem i_255_228 : iRow 255 228 = some (.iconst 0, 0, 0, 0, (some (Jvm.ClassFile.FieldType.boolean))) := rfl
theorem i_255_229 : iRow 255 229 = some (.ireturn, 0, 0, 0, (some (Jvm.ClassFile.FieldType.boolean))) := rfl
theorem s_fits0 {O : pOut} {d kc ks : Nat} {Q : pRes → Prop} {es : PH} {s kd fr fi ra f2 r2 : Int} (hs_es : sh es) (h1 : 0 ≤ s ∧ s ≤ 5) (h2 : 0 ≤ kd ∧ kd ≤ 1) (h3 : 0 ≤ fr ∧ fr ≤ 1) (h4 : -20 ≤ fi ∧ fi ≤ 20) (h5 : -20 ≤ ra ∧ ra ≤ 20) (h6 : -20 ≤ f2 ∧ f2 ≤ 20) (h7 : -20 ≤ r2 ∧ r2 ≤ 20)
    (K1 : fi ≠ f2 → ra ≠ r2 → aW O d 255 kc ks Q (27, [some (.int (zI s)), some (.int (zI kd)), some (.int (zI fr)), some (.int (zI fi)), some (.int (zI ra)), some (.int (zI f2)), some (.int (zI r2)), some (.int (zI 0)), some (.int (zI 0))], [], es))
    (K2 : fi ≠ f2 → ¬ (ra ≠ r2) → aW O d 255 kc ks Q (27, [some (.int (zI s)), some (.int (zI kd)), some (.int (zI fr)), some (.int (zI fi)), some (.int (zI ra)), some (.int (zI f2)), some (.int (zI r2)), some (.int (zI 0)), some (.int (zI 1))], [], es))
    (K3 : ¬ (fi ≠ f2) → ra ≠ r2 → aW O d 255 kc ks Q (27, [some (.int (zI s)), some (.int (zI kd)), some (.int (zI fr)), some (.int (zI fi)), some (.int (zI ra)), some (.int (zI f2)), some (.int (zI r2)), some (.int (zI 1)), some (.int (zI 0))], [], es))
    (K4 : ¬ (fi ≠ f2) → ¬ (ra ≠ r2) → aW O d 255 kc ks Q (27, [some (.int (zI s)), some (.int (zI kd)), some (.int (zI fr)), some (.int (zI fi)), some (.int (zI ra)), some (.int (zI f2)), some (.int (zI r2)), some (.int (zI 1)), some (.int (zI 1))], [], es)) :
    aW O d 255 kc ks Q (0, [some (.int (zI s)), some (.int (zI kd)), some (.int (zI fr)), some (.int (zI fi)), some (.int (zI ra)), some (.int (zI f2)), some (.int (zI r2)), none, none], [], es) := by
  refine x0 (r := (1, [some (.int (zI s)), some (.int (zI kd)), some (.int (zI fr)), some (.int (zI fi)), some (.int (zI ra)), some (.int (zI f2)), some (.int (zI r2)), none, none], [.int (zI fi)], es)) i_255_0 rfl ?_
  refine x0 (r := (3, [some (.int (zI s)), some (.int (zI kd)), some (.int (zI fr)), some (.int (zI fi)), some (.int (zI ra)), some (.int (zI f2)), some (.int (zI r2)), none, none], [.int (zI f2), .int (zI fi)], es)) i_255_1 rfl ?_
  by_cases c1 : fi ≠ f2
  · refine x_cmpT i_255_3 (by unfold i32 iLO iHI; omega) (by unfold i32 iLO iHI; omega) rfl (by simp only [zC, cR]; omega) ?_
    refine x0 (r := (11, [some (.int (zI s)), some (.int (zI kd)), some (.int (zI fr)), some (.int (zI fi)), some (.int (zI ra)), some (.int (zI f2)), some (.int (zI r2)), none, none], [.int (zI 0)], es)) i_255_10 (by rfl) ?_
    refine x0 (r := (13, [some (.int (zI s)), some (.int (zI kd)), some (.int (zI fr)), some (.int (zI fi)), some (.int (zI ra)), some (.int (zI f2)), some (.int (zI r2)), some (.int (zI 0)), none], [], es)) i_255_11 rfl ?_
    refine x0 (r := (15, [some (.int (zI s)), some (.int (zI kd)), some (.int (zI fr)), some (.int (zI fi)), some (.int (zI ra)), some (.int (zI f2)), some (.int (zI r2)), some (.int (zI 0)), none], [.int (zI ra)], es)) i_255_13 rfl ?_
    refine x0 (r := (17, [some (.int (zI s)), some (.int (zI kd)), some (.int (zI fr)), some (.int (zI fi)), some (.int (zI ra)), some (.int (zI f2)), some (.int (zI r2)), some (.int (zI 0)), none], [.int (zI r2), .int (zI ra)], es)) i_255_15 rfl ?_
    by_cases c2 : ra ≠ r2
    · refine x_cmpT i_255_17 (by unfold i32 iLO iHI; omega) (by unfold i32 iLO iHI; omega) rfl (by simp only [zC, cR]; omega) ?_
      refine x0 (r := (25, [some (.int (zI s)), some (.int (zI kd)), some (.int (zI fr)), some (.int (zI fi)), some (.int (zI ra)), some (.int (zI f2)), some (.int (zI r2)), some (.int (zI 0)), none], [.int (zI 0)], es)) i_255_24 (by rfl) ?_
      refine x0 (r := (27, [some (.int (zI s)), some (.int (zI kd)), some (.int (zI fr)), some (.int (zI fi)), some (.int (zI ra)), some (.int (zI f2)), some (.int (zI r2)), some (.int (zI 0)), some (.int (zI 0))], [], es)) i_255_25 rfl ?_
      exact K1 c1 c2
    · refine x_cmpF i_255_17 (by unfold i32 iLO iHI; omega) (by unfold i32 iLO iHI; omega) rfl (by simp only [zC, cR]; omega) ?_
      refine x0 (r := (21, [some (.int (zI s)), some (.int (zI kd)), some (.int (zI fr)), some (.int (zI fi)), some (.int (zI ra)), some (.int (zI f2)), some (.int (zI r2)), some (.int (zI 0)), none], [.int (zI 1)], es)) i_255_20 (by rfl) ?_
      refine x0 (r := (25, [some (.int (zI s)), some (.int (zI kd)), some (.int (zI fr)), some (.int (zI fi)), some (.int (zI ra)), some (.int (zI f2)), some (.int (zI r2)), some (.int (zI 0)), none], [.int (zI 1)], es)) i_255_21 rfl ?_
      refine x0 (r := (27, [some (.int (zI s)), some (.int (zI kd)), some (.int (zI fr)), some (.int (zI fi)), some (.int (zI ra)), some (.int (zI f2)), some (.int (zI r2)), some (.int (zI 0)), some (.int (zI 1))], [], es)) i_255_25 rfl ?_
      exact K2 c1 c2
  · refine x_cmpF i_255_3 (by unfold i32 iLO iHI; omega) (by unfold i32 iLO iHI; omega) rfl (by simp only [zC, cR]; omega) ?_
    refine x0 (r := (7, [some (.int (zI s)), some (.int (zI kd)), some (.int (zI fr)), some (.int (zI fi)), some (.int (zI ra)), some (.int (zI f2)), some (.int (zI r2)), none, none], [.int (zI 1)], es)) i_255_6 (by rfl) ?_
    refine x0 (r := (11, [some (.int (zI s)), some (.int (zI kd)), some (.int (zI fr)), some (.int (zI fi)), some (.int (zI ra)), some (.int (zI f2)), some (.int (zI r2)), none, none], [.int (zI 1)], es)) i_255_7 rfl ?_
    refine x0 (r := (13, [some (.int (zI s)), some (.int (zI kd)), some (.int (zI fr)), some (.int (zI fi)), some (.int (zI ra)), some (.int (zI f2)), some (.int (zI r2)), some (.int (zI 1)), none], [], es)) i_255_11 rfl ?_
    refine x0 (r := (15, [some (.int (zI s)), some (.int (zI kd)), some (.int (zI fr)), some (.int (zI fi)), some (.int (zI ra)), some (.int (zI f2)), some (.int (zI r2)), some (.int (zI 1)), none], [.int (zI ra)], es)) i_255_13 rfl ?_
    refine x0 (r := (17, [some (.int (zI s)), some (.int (zI kd)), some (.int (zI fr)), some (.int (zI fi)), some (.int (zI ra)), some (.int (zI f2)), some (.int (zI r2)), some (.int (zI 1)), none], [.int (zI r2), .int (zI ra)], es)) i_255_15 rfl ?_
    by_cases c3 : ra ≠ r2
    · refine x_cmpT i_255_17 (by unfold i32 iLO iHI; omega) (by unfold i32 iLO iHI; omega) rfl (by simp only [zC, cR]; omega) ?_
      refine x0 (r := (25, [some (.int (zI s)), some (.int (zI kd)), some (.int (zI fr)), some (.int (zI fi)), some (.int (zI ra)), some (.int (zI f2)), some (.int (zI r2)), some (.int (zI 1)), none], [.int (zI 0)], es)) i_255_24 (by rfl) ?_
      refine x0 (r := (27, [some (.int (zI s)), some (.int (zI kd)), some (.int (zI fr)), some (.int (zI fi)), some (.int (zI ra)), some (.int (zI f2)), some (.int (zI r2)), some (.int (zI 1)), some (.int (zI 0))], [], es)) i_255_25 rfl ?_
      exact K3 c1 c3
    · refine x_cmpF i_255_17 (by unfold i32 iLO iHI; omega) (by unfold i32 iLO iHI; omega) rfl (by simp only [zC, cR]; omega) ?_
      refine x0 (r := (21, [some (.int (zI s)), some (.int (zI kd)), some (.int (zI fr)), some (.int (zI fi)), some (.int (zI ra)), some (.int (zI f2)), some (.int (zI r2)), some (.int (zI 1)), none], [.int (zI 1)], es)) i_255_20 (by rfl) ?_
      refine x0 (r := (25, [some (.int (zI s)), some (.int (zI kd)), some (.int (zI fr)), some (.int (zI fi)), some (.int (zI ra)), some (.int (zI f2)), some (.int (zI r2)), some (.int (zI 1)), none], [.int (zI 1)], es)) i_255_21 rfl ?_
      refine x0 (r := (27, [some (.int (zI s)), some (.int (zI kd)), some (.int (zI fr)), some (.int (zI fi)), some (.int (zI ra)), some (.int (zI f2)), some (.int (zI r2)), some (.int (zI 1)), some (.int (zI 1))], [], es)) i_255_25 rfl ?_
      exact K4 c1 c3

theorem s_fits27 {O : pOut} {d kc ks : Nat} {Q : pRes → Prop} {es : PH} {s kd fr fi ra f2 r2 ef er : Int} (hs_es : sh es) (h1 : 0 ≤ s ∧ s ≤ 5) (h2 : 0 ≤ kd ∧ kd ≤ 1) (h3 : 0 ≤ fr ∧ fr ≤ 1) (h4 : -20 ≤ fi ∧ fi ≤ 20) (h5 : -20 ≤ ra ∧ ra ≤ 20) (h6 : -20 ≤ f2 ∧ f2 ≤ 20) (h7 : -20 ≤ r2 ∧ r2 ≤ 20) (h8 : 0 ≤ ef ∧ ef ≤ 1) (h9 : 0 ≤ er ∧ er ≤ 1)
    (K1 : s = 0 → kd = 0 → Q (.inl (some (.int (zI 0))), es, kc, ks))
    (K2 : s = 0 → ¬ (kd = 0) → fr = 0 → Q (.inl (some (.int (zI 0))), es, kc, ks))
    (K3 : s = 0 → ¬ (kd = 0) → ¬ (fr = 0) → ef = 0 → Q (.inl (some (.int (zI 0))), es, kc, ks))
    (K4 : s = 0 → ¬ (kd = 0) → ¬ (fr = 0) → ¬ (ef = 0) → er = 0 → Q (.inl (some (.int (zI 0))), es, kc, ks))
    (K5 : s = 0 → ¬ (kd = 0) → ¬ (fr = 0) → ¬ (ef = 0) → ¬ (er = 0) → Q (.inl (some (.int (zI 1))), es, kc, ks))
    (K6 : ¬ (s = 0) → s = 1 → kd ≠ 0 → Q (.inl (some (.int (zI 0))), es, kc, ks))
    (K7 : ¬ (s = 0) → s = 1 → ¬ (kd ≠ 0) → fr = 0 → Q (.inl (some (.int (zI 0))), es, kc, ks))
    (K8 : ¬ (s = 0) → s = 1 → ¬ (kd ≠ 0) → ¬ (fr = 0) → ef = 0 → Q (.inl (some (.int (zI 0))), es, kc, ks))
    (K9 : ¬ (s = 0) → s = 1 → ¬ (kd ≠ 0) → ¬ (fr = 0) → ¬ (ef = 0) → er = 0 → Q (.inl (some (.int (zI 0))), es, kc, ks))
    (K10 : ¬ (s = 0) → s = 1 → ¬ (kd ≠ 0) → ¬ (fr = 0) → ¬ (ef = 0) → ¬ (er = 0) → Q (.inl (some (.int (zI 1))), es, kc, ks))
    (K11 : ¬ (s = 0) → ¬ (s = 1) → s = 2 → kd = 0 → Q (.inl (some (.int (zI 0))), es, kc, ks))
    (K12 : ¬ (s = 0) → ¬ (s = 1) → s = 2 → ¬ (kd = 0) → fr = 0 → Q (.inl (some (.int (zI 0))), es, kc, ks))
    (K13 : ¬ (s = 0) → ¬ (s = 1) → s = 2 → ¬ (kd = 0) → ¬ (fr = 0) → ∀ v14 : Int, v14 = (if 0 ≤ (fi - f2) then (fi - f2) else -(fi - f2)) → v14 ≠ 1 → Q (.inl (some (.int (zI 0))), es, kc, ks))
    (K14 : ¬ (s = 0) → ¬ (s = 1) → s = 2 → ¬ (kd = 0) → ¬ (fr = 0) → ∀ v14 : Int, v14 = (if 0 ≤ (fi - f2) then (fi - f2) else -(fi - f2)) → ¬ (v14 ≠ 1) → er = 0 → Q (.inl (some (.int (zI 0))), es, kc, ks))
    (K15 : ¬ (s = 0) → ¬ (s = 1) → s = 2 → ¬ (kd = 0) → ¬ (fr = 0) → ∀ v14 : Int, v14 = (if 0 ≤ (fi - f2) then (fi - f2) else -(fi - f2)) → ¬ (v14 ≠ 1) → ¬ (er = 0) → Q (.inl (some (.int (zI 1))), es, kc, ks))
    (K16 : ¬ (s = 0) → ¬ (s = 1) → ¬ (s = 2) → s = 3 → kd = 0 → Q (.inl (some (.int (zI 0))), es, kc, ks))
    (K17 : ¬ (s = 0) → ¬ (s = 1) → ¬ (s = 2) → s = 3 → ¬ (kd = 0) → fr = 0 → Q (.inl (some (.int (zI 0))), es, kc, ks))
    (K18 : ¬ (s = 0) → ¬ (s = 1) → ¬ (s = 2) → s = 3 → ¬ (kd = 0) → ¬ (fr = 0) → ef = 0 → Q (.inl (some (.int (zI 0))), es, kc, ks))
    (K19 : ¬ (s = 0) → ¬ (s = 1) → ¬ (s = 2) → s = 3 → ¬ (kd = 0) → ¬ (fr = 0) → ¬ (ef = 0) → ∀ v21 : Int, v21 = (if 0 ≤ (ra - r2) then (ra - r2) else -(ra - r2)) → v21 ≠ 1 → Q (.inl (some (.int (zI 0))), es, kc, ks))
    (K20 : ¬ (s = 0) → ¬ (s = 1) → ¬ (s = 2) → s = 3 → ¬ (kd = 0) → ¬ (fr = 0) → ¬ (ef = 0) → ∀ v21 : Int, v21 = (if 0 ≤ (ra - r2) then (ra - r2) else -(ra - r2)) → ¬ (v21 ≠ 1) → Q (.inl (some (.int (zI 1))), es, kc, ks))
    (K21 : ¬ (s = 0) → ¬ (s = 1) → ¬ (s = 2) → ¬ (s = 3) → s = 4 → kd = 0 → Q (.inl (some (.int (zI 0))), es, kc, ks))
    (K22 : ¬ (s = 0) → ¬ (s = 1) → ¬ (s = 2) → ¬ (s = 3) → s = 4 → ¬ (kd = 0) → fr = 0 → Q (.inl (some (.int (zI 0))), es, kc, ks))
    (K23 : ¬ (s = 0) → ¬ (s = 1) → ¬ (s = 2) → ¬ (s = 3) → s = 4 → ¬ (kd = 0) → ¬ (fr = 0) → ef = 0 → Q (.inl (some (.int (zI 0))), es, kc, ks))
    (K24 : ¬ (s = 0) → ¬ (s = 1) → ¬ (s = 2) → ¬ (s = 3) → s = 4 → ¬ (kd = 0) → ¬ (fr = 0) → ¬ (ef = 0) → er ≠ 0 → Q (.inl (some (.int (zI 0))), es, kc, ks))
    (K25 : ¬ (s = 0) → ¬ (s = 1) → ¬ (s = 2) → ¬ (s = 3) → s = 4 → ¬ (kd = 0) → ¬ (fr = 0) → ¬ (ef = 0) → ¬ (er ≠ 0) → (5 - ra) ≠ r2 → Q (.inl (some (.int (zI 0))), es, kc, ks))
    (K26 : ¬ (s = 0) → ¬ (s = 1) → ¬ (s = 2) → ¬ (s = 3) → s = 4 → ¬ (kd = 0) → ¬ (fr = 0) → ¬ (ef = 0) → ¬ (er ≠ 0) → ¬ ((5 - ra) ≠ r2) → Q (.inl (some (.int (zI 1))), es, kc, ks))
    (K27 : ¬ (s = 0) → ¬ (s = 1) → ¬ (s = 2) → ¬ (s = 3) → ¬ (s = 4) → kd = 0 → Q (.inl (some (.int (zI 0))), es, kc, ks))
    (K28 : ¬ (s = 0) → ¬ (s = 1) → ¬ (s = 2) → ¬ (s = 3) → ¬ (s = 4) → ¬ (kd = 0) → fr ≠ 0 → Q (.inl (some (.int (zI 0))), es, kc, ks))
    (K29 : ¬ (s = 0) → ¬ (s = 1) → ¬ (s = 2) → ¬ (s = 3) → ¬ (s = 4) → ¬ (kd = 0) → ¬ (fr ≠ 0) → ef = 0 → Q (.inl (some (.int (zI 0))), es, kc, ks))
    (K30 : ¬ (s = 0) → ¬ (s = 1) → ¬ (s = 2) → ¬ (s = 3) → ¬ (s = 4) → ¬ (kd = 0) → ¬ (fr ≠ 0) → ¬ (ef = 0) → er = 0 → Q (.inl (some (.int (zI 0))), es, kc, ks))
    (K31 : ¬ (s = 0) → ¬ (s = 1) → ¬ (s = 2) → ¬ (s = 3) → ¬ (s = 4) → ¬ (kd = 0) → ¬ (fr ≠ 0) → ¬ (ef = 0) → ¬ (er = 0) → Q (.inl (some (.int (zI 1))), es, kc, ks)) :
    aW O (d + 1) 255 kc ks Q (27, [some (.int (zI s)), some (.int (zI kd)), some (.int (zI fr)), some (.int (zI fi)), some (.int (zI ra)), some (.int (zI f2)), some (.int (zI r2)), some (.int (zI ef)), some (.int (zI er))], [], es) := by
  refine x0 (r := (28, [some (.int (zI s)), some (.int (zI kd)), some (.int (zI fr)), some (.int (zI fi)), some (.int (zI ra)), some (.int (zI f2)), some (.int (zI r2)), some (.int (zI ef)), some (.int (zI er))], [.int (zI s)], es)) i_255_27 rfl ?_
  by_cases c1 : s = 0
  · refine x_tsw (t := 64) (off := 36) i_255_28 (by unfold i32 iLO iHI; omega) (by omega) (by rw [c1]; rfl) rfl ?_
    refine x0 (r := (65, [some (.int (zI s)), some (.int (zI kd)), some (.int (zI fr)), some (.int (zI fi)), some (.int (zI ra)), some (.int (zI f2)), some (.int (zI r2)), some (.int (zI ef)), some (.int (zI er))], [.int (zI kd)], es)) i_255_64 rfl ?_
    by_cases c2 : kd = 0
    · refine x_ifT i_255_65 (by unfold i32 iLO iHI; omega) rfl (by simp only [zC, cR]; omega) ?_
      refine x0 (r := (87, [some (.int (zI s)), some (.int (zI kd)), some (.int (zI fr)), some (.int (zI fi)), some (.int (zI ra)), some (.int (zI f2)), some (.int (zI r2)), some (.int (zI ef)), some (.int (zI er))], [.int (zI 0)], es)) i_255_86 (by rfl) ?_
      refine x_ret (v := some (.int (zI 0))) i_255_87 rfl (fun _ => rfl) rfl rfl (pFin_b (by omega)) ?_
      exact K1 c1 c2
    · refine x_ifF i_255_65 (by unfold i32 iLO iHI; omega) rfl (by simp only [zC, cR]; omega) ?_
      refine x0 (r := (69, [some (.int (zI s)), some (.int (zI kd)), some (.int (zI fr)), some (.int (zI fi)), some (.int (zI ra)), some (.int (zI f2)), some (.int (zI r2)), some (.int (zI ef)), some (.int (zI er))], [.int (zI fr)], es)) i_255_68 rfl ?_
      by_cases c3 : fr = 0
      · refine x_ifT i_255_69 (by unfold i32 iLO iHI; omega) rfl (by simp only [zC, cR]; omega) ?_
        refine x0 (r := (87, [some (.int (zI s)), some (.int (zI kd)), some (.int (zI fr)), some (.int (zI fi)), some (.int (zI ra)), some (.int (zI f2)), some (.int (zI r2)), some (.int (zI ef)), some (.int (zI er))], [.int (zI 0)], es)) i_255_86 (by rfl) ?_
        refine x_ret (v := some (.int (zI 0))) i_255_87 rfl (fun _ => rfl) rfl rfl (pFin_b (by omega)) ?_
        exact K2 c1 c2 c3
      · refine x_ifF i_255_69 (by unfold i32 iLO iHI; omega) rfl (by simp only [zC, cR]; omega) ?_
        refine x0 (r := (74, [some (.int (zI s)), some (.int (zI kd)), some (.int (zI fr)), some (.int (zI fi)), some (.int (zI ra)), some (.int (zI f2)), some (.int (zI r2)), some (.int (zI ef)), some (.int (zI er))], [.int (zI ef)], es)) i_255_72 rfl ?_
        by_cases c4 : ef = 0
        · refine x_ifT i_255_74 (by unfold i32 iLO iHI; omega) rfl (by simp only [zC, cR]; omega) ?_
          refine x0 (r := (87, [some (.int (zI s)), some (.int (zI kd)), some (.int (zI fr)), some (.int (zI fi)), some (.int (zI ra)), some (.int (zI f2)), some (.int (zI r2)), some (.int (zI ef)), some (.int (zI er))], [.int (zI 0)], es)) i_255_86 (by rfl) ?_
          refine x_ret (v := some (.int (zI 0))) i_255_87 rfl (fun _ => rfl) rfl rfl (pFin_b (by omega)) ?_
          exact K3 c1 c2 c3 c4
        · refine x_ifF i_255_74 (by unfold i32 iLO iHI; omega) rfl (by simp only [zC, cR]; omega) ?_
          refine x0 (r := (79, [some (.int (zI s)), some (.int (zI kd)), some (.int (zI fr)), some (.int (zI fi)), some (.int (zI ra)), some (.int (zI f2)), some (.int (zI r2)), some (.int (zI ef)), some (.int (zI er))], [.int (zI er)], es)) i_255_77 rfl ?_
          by_cases c5 : er = 0
          · refine x_ifT i_255_79 (by unfold i32 iLO iHI; omega) rfl (by simp only [zC, cR]; omega) ?_
            refine x0 (r := (87, [some (.int (zI s)), some (.int (zI kd)), some (.int (zI fr)), some (.int (zI fi)), some (.int (zI ra)), some (.int (zI f2)), some (.int (zI r2)), some (.int (zI ef)), some (.int (zI er))], [.int (zI 0)], es)) i_255_86 (by rfl) ?_
            refine x_ret (v := some (.int (zI 0))) i_255_87 rfl (fun _ => rfl) rfl rfl (pFin_b (by omega)) ?_
            exact K4 c1 c2 c3 c4 c5
          · refine x_ifF i_255_79 (by unfold i32 iLO iHI; omega) rfl (by simp only [zC, cR]; omega) ?_
            refine x0 (r := (83, [some (.int (zI s)), some (.int (zI kd)), some (.int (zI fr)), some (.int (zI fi)), some (.int (zI ra)), some (.int (zI f2)), some (.int (zI r2)), some (.int (zI ef)), some (.int (zI er))], [.int (zI 1)], es)) i_255_82 (by rfl) ?_
            refine x0 (r := (87, [some (.int (zI s)), some (.int (zI kd)), some (.int (zI fr)), some (.int (zI fi)), some (.int (zI ra)), some (.int (zI f2)), some (.int (zI r2)), some (.int (zI ef)), some (.int (zI er))], [.int (zI 1)], es)) i_255_83 rfl ?_
            refine x_ret (v := some (.int (zI 1))) i_255_87 rfl (fun _ => rfl) rfl rfl (pFin_b (by omega)) ?_
            exact K5 c1 c2 c3 c4 c5
  by_cases c6 : s = 1
  · refine x_tsw (t := 88) (off := 60) i_255_28 (by unfold i32 iLO iHI; omega) (by omega) (by rw [c6]; rfl) rfl ?_
    refine x0 (r := (89, [some (.int (zI s)), some (.int (zI kd)), some (.int (zI fr)), some (.int (zI fi)), some (.int (zI ra)), some (.int (zI f2)), some (.int (zI r2)), some (.int (zI ef)), some (.int (zI er))], [.int (zI kd)], es)) i_255_88 rfl ?_
    by_cases c7 : kd ≠ 0
    · refine x_ifT i_255_89 (by unfold i32 iLO iHI; omega) rfl (by simp only [zC, cR]; omega) ?_
      refine x0 (r := (111, [some (.int (zI s)), some (.int (zI kd)), some (.int (zI fr)), some (.int (zI fi)), some (.int (zI ra)), some (.int (zI f2)), some (.int (zI r2)), some (.int (zI ef)), some (.int (zI er))], [.int (zI 0)], es)) i_255_110 (by rfl) ?_
      refine x_ret (v := some (.int (zI 0))) i_255_111 rfl (fun _ => rfl) rfl rfl (pFin_b (by omega)) ?_
      exact K6 c1 c6 c7
    · refine x_ifF i_255_89 (by unfold i32 iLO iHI; omega) rfl (by simp only [zC, cR]; omega) ?_
      refine x0 (r := (93, [some (.int (zI s)), some (.int (zI kd)), some (.int (zI fr)), some (.int (zI fi)), some (.int (zI ra)), some (.int (zI f2)), some (.int (zI r2)), some (.int (zI ef)), some (.int (zI er))], [.int (zI fr)], es)) i_255_92 rfl ?_
      by_cases c8 : fr = 0
      · refine x_ifT i_255_93 (by unfold i32 iLO iHI; omega) rfl (by simp only [zC, cR]; omega) ?_
        refine x0 (r := (111, [some (.int (zI s)), some (.int (zI kd)), some (.int (zI fr)), some (.int (zI fi)), some (.int (zI ra)), some (.int (zI f2)), some (.int (zI r2)), some (.int (zI ef)), some (.int (zI er))], [.int (zI 0)], es)) i_255_110 (by rfl) ?_
        refine x_ret (v := some (.int (zI 0))) i_255_111 rfl (fun _ => rfl) rfl rfl (pFin_b (by omega)) ?_
        exact K7 c1 c6 c7 c8
      · refine x_ifF i_255_93 (by unfold i32 iLO iHI; omega) rfl (by simp only [zC, cR]; omega) ?_
        refine x0 (r := (98, [some (.int (zI s)), some (.int (zI kd)), some (.int (zI fr)), some (.int (zI fi)), some (.int (zI ra)), some (.int (zI f2)), some (.int (zI r2)), some (.int (zI ef)), some (.int (zI er))], [.int (zI ef)], es)) i_255_96 rfl ?_
        by_cases c9 : ef = 0
        · refine x_ifT i_255_98 (by unfold i32 iLO iHI; omega) rfl (by simp only [zC, cR]; omega) ?_
          refine x0 (r := (111, [some (.int (zI s)), some (.int (zI kd)), some (.int (zI fr)), some (.int (zI fi)), some (.int (zI ra)), some (.int (zI f2)), some (.int (zI r2)), some (.int (zI ef)), some (.int (zI er))], [.int (zI 0)], es)) i_255_110 (by rfl) ?_
          refine x_ret (v := some (.int (zI 0))) i_255_111 rfl (fun _ => rfl) rfl rfl (pFin_b (by omega)) ?_
          exact K8 c1 c6 c7 c8 c9
        · refine x_ifF i_255_98 (by unfold i32 iLO iHI; omega) rfl (by simp only [zC, cR]; omega) ?_
          refine x0 (r := (103, [some (.int (zI s)), some (.int (zI kd)), some (.int (zI fr)), some (.int (zI fi)), some (.int (zI ra)), some (.int (zI f2)), some (.int (zI r2)), some (.int (zI ef)), some (.int (zI er))], [.int (zI er)], es)) i_255_101 rfl ?_
          by_cases c10 : er = 0
          · refine x_ifT i_255_103 (by unfold i32 iLO iHI; omega) rfl (by simp only [zC, cR]; omega) ?_
            refine x0 (r := (111, [some (.int (zI s)), some (.int (zI kd)), some (.int (zI fr)), some (.int (zI fi)), some (.int (zI ra)), some (.int (zI f2)), some (.int (zI r2)), some (.int (zI ef)), some (.int (zI er))], [.int (zI 0)], es)) i_255_110 (by rfl) ?_
            refine x_ret (v := some (.int (zI 0))) i_255_111 rfl (fun _ => rfl) rfl rfl (pFin_b (by omega)) ?_
            exact K9 c1 c6 c7 c8 c9 c10
          · refine x_ifF i_255_103 (by unfold i32 iLO iHI; omega) rfl (by simp only [zC, cR]; omega) ?_
            refine x0 (r := (107, [some (.int (zI s)), some (.int (zI kd)), some (.int (zI fr)), some (.int (zI fi)), some (.int (zI ra)), some (.int (zI f2)), some (.int (zI r2)), some (.int (zI ef)), some (.int (zI er))], [.int (zI 1)], es)) i_255_106 (by rfl) ?_
            refine x0 (r := (111, [some (.int (zI s)), some (.int (zI kd)), some (.int (zI fr)), some (.int (zI fi)), some (.int (zI ra)), some (.int (zI f2)), some (.int (zI r2)), some (.int (zI ef)), some (.int (zI er))], [.int (zI 1)], es)) i_255_107 rfl ?_
            refine x_ret (v := some (.int (zI 1))) i_255_111 rfl (fun _ => rfl) rfl rfl (pFin_b (by omega)) ?_
            exact K10 c1 c6 c7 c8 c9 c10
  by_cases c11 : s = 2
  · refine x_tsw (t := 112) (off := 84) i_255_28 (by unfold i32 iLO iHI; omega) (by omega) (by rw [c11]; rfl) rfl ?_
    refine x0 (r := (113, [some (.int (zI s)), some (.int (zI kd)), some (.int (zI fr)), some (.int (zI fi)), some (.int (zI ra)), some (.int (zI f2)), some (.int (zI r2)), some (.int (zI ef)), some (.int (zI er))], [.int (zI kd)], es)) i_255_112 rfl ?_
    by_cases c12 : kd = 0
    · refine x_ifT i_255_113 (by unfold i32 iLO iHI; omega) rfl (by simp only [zC, cR]; omega) ?_
      refine x0 (r := (141, [some (.int (zI s)), some (.int (zI kd)), some (.int (zI fr)), some (.int (zI fi)), some (.int (zI ra)), some (.int (zI f2)), some (.int (zI r2)), some (.int (zI ef)), some (.int (zI er))], [.int (zI 0)], es)) i_255_140 (by rfl) ?_
      refine x_ret (v := some (.int (zI 0))) i_255_141 rfl (fun _ => rfl) rfl rfl (pFin_b (by omega)) ?_
      exact K11 c1 c6 c11 c12
    · refine x_ifF i_255_113 (by unfold i32 iLO iHI; omega) rfl (by simp only [zC, cR]; omega) ?_
      refine x0 (r := (117, [some (.int (zI s)), some (.int (zI kd)), some (.int (zI fr)), some (.int (zI fi)), some (.int (zI ra)), some (.int (zI f2)), some (.int (zI r2)), some (.int (zI ef)), some (.int (zI er))], [.int (zI fr)], es)) i_255_116 rfl ?_
      by_cases c13 : fr = 0
      · refine x_ifT i_255_117 (by unfold i32 iLO iHI; omega) rfl (by simp only [zC, cR]; omega) ?_
        refine x0 (r := (141, [some (.int (zI s)), some (.int (zI kd)), some (.int (zI fr)), some (.int (zI fi)), some (.int (zI ra)), some (.int (zI f2)), some (.int (zI r2)), some (.int (zI ef)), some (.int (zI er))], [.int (zI 0)], es)) i_255_140 (by rfl) ?_
        refine x_ret (v := some (.int (zI 0))) i_255_141 rfl (fun _ => rfl) rfl rfl (pFin_b (by omega)) ?_
        exact K12 c1 c6 c11 c12 c13
      · refine x_ifF i_255_117 (by unfold i32 iLO iHI; omega) rfl (by simp only [zC, cR]; omega) ?_
        refine x0 (r := (121, [some (.int (zI s)), some (.int (zI kd)), some (.int (zI fr)), some (.int (zI fi)), some (.int (zI ra)), some (.int (zI f2)), some (.int (zI r2)), some (.int (zI ef)), some (.int (zI er))], [.int (zI fi)], es)) i_255_120 rfl ?_
        refine x0 (r := (123, [some (.int (zI s)), some (.int (zI kd)), some (.int (zI fr)), some (.int (zI fi)), some (.int (zI ra)), some (.int (zI f2)), some (.int (zI r2)), some (.int (zI ef)), some (.int (zI er))], [.int (zI f2), .int (zI fi)], es)) i_255_121 rfl ?_
        refine x_isub i_255_123 ?_
        refine x_abs i_255_124 (by unfold i32 iLO iHI; omega) (Nat.le_of_ble_eq_true rfl) ?_
        obtain ⟨v14, e_v14⟩ : ∃ z : Int, z = (if 0 ≤ (fi - f2) then (fi - f2) else -(fi - f2)) := ⟨_, rfl⟩
        rw [← e_v14]
        refine x0 (r := (128, [some (.int (zI s)), some (.int (zI kd)), some (.int (zI fr)), some (.int (zI fi)), some (.int (zI ra)), some (.int (zI f2)), some (.int (zI r2)), some (.int (zI ef)), some (.int (zI er))], [.int (zI 1), .int (zI v14)], es)) i_255_127 (by rfl) ?_
        by_cases c15 : v14 ≠ 1
        · refine x_cmpT i_255_128 (by unfold i32 iLO iHI; omega) (by unfold i32 iLO iHI; omega) rfl (by simp only [zC, cR]; omega) ?_
          refine x0 (r := (141, [some (.int (zI s)), some (.int (zI kd)), some (.int (zI fr)), some (.int (zI fi)), some (.int (zI ra)), some (.int (zI f2)), some (.int (zI r2)), some (.int (zI ef)), some (.int (zI er))], [.int (zI 0)], es)) i_255_140 (by rfl) ?_
          refine x_ret (v := some (.int (zI 0))) i_255_141 rfl (fun _ => rfl) rfl rfl (pFin_b (by omega)) ?_
          exact K13 c1 c6 c11 c12 c13 v14 e_v14 c15
        · refine x_cmpF i_255_128 (by unfold i32 iLO iHI; omega) (by unfold i32 iLO iHI; omega) rfl (by simp only [zC, cR]; omega) ?_
          refine x0 (r := (133, [some (.int (zI s)), some (.int (zI kd)), some (.int (zI fr)), some (.int (zI fi)), some (.int (zI ra)), some (.int (zI f2)), some (.int (zI r2)), some (.int (zI ef)), some (.int (zI er))], [.int (zI er)], es)) i_255_131 rfl ?_
          by_cases c16 : er = 0
          · refine x_ifT i_255_133 (by unfold i32 iLO iHI; omega) rfl (by simp only [zC, cR]; omega) ?_
            refine x0 (r := (141, [some (.int (zI s)), some (.int (zI kd)), some (.int (zI fr)), some (.int (zI fi)), some (.int (zI ra)), some (.int (zI f2)), some (.int (zI r2)), some (.int (zI ef)), some (.int (zI er))], [.int (zI 0)], es)) i_255_140 (by rfl) ?_
            refine x_ret (v := some (.int (zI 0))) i_255_141 rfl (fun _ => rfl) rfl rfl (pFin_b (by omega)) ?_
            exact K14 c1 c6 c11 c12 c13 v14 e_v14 c15 c16
          · refine x_ifF i_255_133 (by unfold i32 iLO iHI; omega) rfl (by simp only [zC, cR]; omega) ?_
            refine x0 (r := (137, [some (.int (zI s)), some (.int (zI kd)), some (.int (zI fr)), some (.int (zI fi)), some (.int (zI ra)), some (.int (zI f2)), some (.int (zI r2)), some (.int (zI ef)), some (.int (zI er))], [.int (zI 1)], es)) i_255_136 (by rfl) ?_
            refine x0 (r := (141, [some (.int (zI s)), some (.int (zI kd)), some (.int (zI fr)), some (.int (zI fi)), some (.int (zI ra)), some (.int (zI f2)), some (.int (zI r2)), some (.int (zI ef)), some (.int (zI er))], [.int (zI 1)], es)) i_255_137 rfl ?_
            refine x_ret (v := some (.int (zI 1))) i_255_141 rfl (fun _ => rfl) rfl rfl (pFin_b (by omega)) ?_
            exact K15 c1 c6 c11 c12 c13 v14 e_v14 c15 c16
  by_cases c17 : s = 3
  · refine x_tsw (t := 142) (off := 114) i_255_28 (by unfold i32 iLO iHI; omega) (by omega) (by rw [c17]; rfl) rfl ?_
    refine x0 (r := (143, [some (.int (zI s)), some (.int (zI kd)), some (.int (zI fr)), some (.int (zI fi)), some (.int (zI ra)), some (.int (zI f2)), some (.int (zI r2)), some (.int (zI ef)), some (.int (zI er))], [.int (zI kd)], es)) i_255_142 rfl ?_
    by_cases c18 : kd = 0
    · refine x_ifT i_255_143 (by unfold i32 iLO iHI; omega) rfl (by simp only [zC, cR]; omega) ?_
      refine x0 (r := (172, [some (.int (zI s)), some (.int (zI kd)), some (.int (zI fr)), some (.int (zI fi)), some (.int (zI ra)), some (.int (zI f2)), some (.int (zI r2)), some (.int (zI ef)), some (.int (zI er))], [.int (zI 0)], es)) i_255_171 (by rfl) ?_
      refine x_ret (v := some (.int (zI 0))) i_255_172 rfl (fun _ => rfl) rfl rfl (pFin_b (by omega)) ?_
      exact K16 c1 c6 c11 c17 c18
    · refine x_ifF i_255_143 (by unfold i32 iLO iHI; omega) rfl (by simp only [zC, cR]; omega) ?_
      refine x0 (r := (147, [some (.int (zI s)), some (.int (zI kd)), some (.int (zI fr)), some (.int (zI fi)), some (.int (zI ra)), some (.int (zI f2)), some (.int (zI r2)), some (.int (zI ef)), some (.int (zI er))], [.int (zI fr)], es)) i_255_146 rfl ?_
      by_cases c19 : fr = 0
      · refine x_ifT i_255_147 (by unfold i32 iLO iHI; omega) rfl (by simp only [zC, cR]; omega) ?_
        refine x0 (r := (172, [some (.int (zI s)), some (.int (zI kd)), some (.int (zI fr)), some (.int (zI fi)), some (.int (zI ra)), some (.int (zI f2)), some (.int (zI r2)), some (.int (zI ef)), some (.int (zI er))], [.int (zI 0)], es)) i_255_171 (by rfl) ?_
        refine x_ret (v := some (.int (zI 0))) i_255_172 rfl (fun _ => rfl) rfl rfl (pFin_b (by omega)) ?_
        exact K17 c1 c6 c11 c17 c18 c19
      · refine x_ifF i_255_147 (by unfold i32 iLO iHI; omega) rfl (by simp only [zC, cR]; omega) ?_
        refine x0 (r := (152, [some (.int (zI s)), some (.int (zI kd)), some (.int (zI fr)), some (.int (zI fi)), some (.int (zI ra)), some (.int (zI f2)), some (.int (zI r2)), some (.int (zI ef)), some (.int (zI er))], [.int (zI ef)], es)) i_255_150 rfl ?_
        by_cases c20 : ef = 0
        · refine x_ifT i_255_152 (by unfold i32 iLO iHI; omega) rfl (by simp only [zC, cR]; omega) ?_
          refine x0 (r := (172, [some (.int (zI s)), some (.int (zI kd)), some (.int (zI fr)), some (.int (zI fi)), some (.int (zI ra)), some (.int (zI f2)), some (.int (zI r2)), some (.int (zI ef)), some (.int (zI er))], [.int (zI 0)], es)) i_255_171 (by rfl) ?_
          refine x_ret (v := some (.int (zI 0))) i_255_172 rfl (fun _ => rfl) rfl rfl (pFin_b (by omega)) ?_
          exact K18 c1 c6 c11 c17 c18 c19 c20
        · refine x_ifF i_255_152 (by unfold i32 iLO iHI; omega) rfl (by simp only [zC, cR]; omega) ?_
          refine x0 (r := (157, [some (.int (zI s)), some (.int (zI kd)), some (.int (zI fr)), some (.int (zI fi)), some (.int (zI ra)), some (.int (zI f2)), some (.int (zI r2)), some (.int (zI ef)), some (.int (zI er))], [.int (zI ra)], es)) i_255_155 rfl ?_
          refine x0 (r := (159, [some (.int (zI s)), some (.int (zI kd)), some (.int (zI fr)), some (.int (zI fi)), some (.int (zI ra)), some (.int (zI f2)), some (.int (zI r2)), some (.int (zI ef)), some (.int (zI er))], [.int (zI r2), .int (zI ra)], es)) i_255_157 rfl ?_
          refine x_isub i_255_159 ?_
          refine x_abs i_255_160 (by unfold i32 iLO iHI; omega) (Nat.le_of_ble_eq_true rfl) ?_
          obtain ⟨v21, e_v21⟩ : ∃ z : Int, z = (if 0 ≤ (ra - r2) then (ra - r2) else -(ra - r2)) := ⟨_, rfl⟩
          rw [← e_v21]
          refine x0 (r := (164, [some (.int (zI s)), some (.int (zI kd)), some (.int (zI fr)), some (.int (zI fi)), some (.int (zI ra)), some (.int (zI f2)), some (.int (zI r2)), some (.int (zI ef)), some (.int (zI er))], [.int (zI 1), .int (zI v21)], es)) i_255_163 (by rfl) ?_
          by_cases c22 : v21 ≠ 1
          · refine x_cmpT i_255_164 (by unfold i32 iLO iHI; omega) (by unfold i32 iLO iHI; omega) rfl (by simp only [zC, cR]; omega) ?_
            refine x0 (r := (172, [some (.int (zI s)), some (.int (zI kd)), some (.int (zI fr)), some (.int (zI fi)), some (.int (zI ra)), some (.int (zI f2)), some (.int (zI r2)), some (.int (zI ef)), some (.int (zI er))], [.int (zI 0)], es)) i_255_171 (by rfl) ?_
            refine x_ret (v := some (.int (zI 0))) i_255_172 rfl (fun _ => rfl) rfl rfl (pFin_b (by omega)) ?_
            exact K19 c1 c6 c11 c17 c18 c19 c20 v21 e_v21 c22
          · refine x_cmpF i_255_164 (by unfold i32 iLO iHI; omega) (by unfold i32 iLO iHI; omega) rfl (by simp only [zC, cR]; omega) ?_
            refine x0 (r := (168, [some (.int (zI s)), some (.int (zI kd)), some (.int (zI fr)), some (.int (zI fi)), some (.int (zI ra)), some (.int (zI f2)), some (.int (zI r2)), some (.int (zI ef)), some (.int (zI er))], [.int (zI 1)], es)) i_255_167 (by rfl) ?_
            refine x0 (r := (172, [some (.int (zI s)), some (.int (zI kd)), some (.int (zI fr)), some (.int (zI fi)), some (.int (zI ra)), some (.int (zI f2)), some (.int (zI r2)), some (.int (zI ef)), some (.int (zI er))], [.int (zI 1)], es)) i_255_168 rfl ?_
            refine x_ret (v := some (.int (zI 1))) i_255_172 rfl (fun _ => rfl) rfl rfl (pFin_b (by omega)) ?_
            exact K20 c1 c6 c11 c17 c18 c19 c20 v21 e_v21 c22
  by_cases c23 : s = 4
  · refine x_tsw (t := 173) (off := 145) i_255_28 (by unfold i32 iLO iHI; omega) (by omega) (by rw [c23]; rfl) rfl ?_
    refine x0 (r := (174, [some (.int (zI s)), some (.int (zI kd)), some (.int (zI fr)), some (.int (zI fi)), some (.int (zI ra)), some (.int (zI f2)), some (.int (zI r2)), some (.int (zI ef)), some (.int (zI er))], [.int (zI kd)], es)) i_255_173 rfl ?_
    by_cases c24 : kd = 0
    · refine x_ifT i_255_174 (by unfold i32 iLO iHI; omega) rfl (by simp only [zC, cR]; omega) ?_
      refine x0 (r := (205, [some (.int (zI s)), some (.int (zI kd)), some (.int (zI fr)), some (.int (zI fi)), some (.int (zI ra)), some (.int (zI f2)), some (.int (zI r2)), some (.int (zI ef)), some (.int (zI er))], [.int (zI 0)], es)) i_255_204 (by rfl) ?_
      refine x_ret (v := some (.int (zI 0))) i_255_205 rfl (fun _ => rfl) rfl rfl (pFin_b (by omega)) ?_
      exact K21 c1 c6 c11 c17 c23 c24
    · refine x_ifF i_255_174 (by unfold i32 iLO iHI; omega) rfl (by simp only [zC, cR]; omega) ?_
      refine x0 (r := (178, [some (.int (zI s)), some (.int (zI kd)), some (.int (zI fr)), some (.int (zI fi)), some (.int (zI ra)), some (.int (zI f2)), some (.int (zI r2)), some (.int (zI ef)), some (.int (zI er))], [.int (zI fr)], es)) i_255_177 rfl ?_
      by_cases c25 : fr = 0
      · refine x_ifT i_255_178 (by unfold i32 iLO iHI; omega) rfl (by simp only [zC, cR]; omega) ?_
        refine x0 (r := (205, [some (.int (zI s)), some (.int (zI kd)), some (.int (zI fr)), some (.int (zI fi)), some (.int (zI ra)), some (.int (zI f2)), some (.int (zI r2)), some (.int (zI ef)), some (.int (zI er))], [.int (zI 0)], es)) i_255_204 (by rfl) ?_
        refine x_ret (v := some (.int (zI 0))) i_255_205 rfl (fun _ => rfl) rfl rfl (pFin_b (by omega)) ?_
        exact K22 c1 c6 c11 c17 c23 c24 c25
      · refine x_ifF i_255_178 (by unfold i32 iLO iHI; omega) rfl (by simp only [zC, cR]; omega) ?_
        refine x0 (r := (183, [some (.int (zI s)), some (.int (zI kd)), some (.int (zI fr)), some (.int (zI fi)), some (.int (zI ra)), some (.int (zI f2)), some (.int (zI r2)), some (.int (zI ef)), some (.int (zI er))], [.int (zI ef)], es)) i_255_181 rfl ?_
        by_cases c26 : ef = 0
        · refine x_ifT i_255_183 (by unfold i32 iLO iHI; omega) rfl (by simp only [zC, cR]; omega) ?_
          refine x0 (r := (205, [some (.int (zI s)), some (.int (zI kd)), some (.int (zI fr)), some (.int (zI fi)), some (.int (zI ra)), some (.int (zI f2)), some (.int (zI r2)), some (.int (zI ef)), some (.int (zI er))], [.int (zI 0)], es)) i_255_204 (by rfl) ?_
          refine x_ret (v := some (.int (zI 0))) i_255_205 rfl (fun _ => rfl) rfl rfl (pFin_b (by omega)) ?_
          exact K23 c1 c6 c11 c17 c23 c24 c25 c26
        · refine x_ifF i_255_183 (by unfold i32 iLO iHI; omega) rfl (by simp only [zC, cR]; omega) ?_
          refine x0 (r := (188, [some (.int (zI s)), some (.int (zI kd)), some (.int (zI fr)), some (.int (zI fi)), some (.int (zI ra)), some (.int (zI f2)), some (.int (zI r2)), some (.int (zI ef)), some (.int (zI er))], [.int (zI er)], es)) i_255_186 rfl ?_
          by_cases c27 : er ≠ 0
          · refine x_ifT i_255_188 (by unfold i32 iLO iHI; omega) rfl (by simp only [zC, cR]; omega) ?_
            refine x0 (r := (205, [some (.int (zI s)), some (.int (zI kd)), some (.int (zI fr)), some (.int (zI fi)), some (.int (zI ra)), some (.int (zI f2)), some (.int (zI r2)), some (.int (zI ef)), some (.int (zI er))], [.int (zI 0)], es)) i_255_204 (by rfl) ?_
            refine x_ret (v := some (.int (zI 0))) i_255_205 rfl (fun _ => rfl) rfl rfl (pFin_b (by omega)) ?_
            exact K24 c1 c6 c11 c17 c23 c24 c25 c26 c27
          · refine x_ifF i_255_188 (by unfold i32 iLO iHI; omega) rfl (by simp only [zC, cR]; omega) ?_
            refine x0 (r := (192, [some (.int (zI s)), some (.int (zI kd)), some (.int (zI fr)), some (.int (zI fi)), some (.int (zI ra)), some (.int (zI f2)), some (.int (zI r2)), some (.int (zI ef)), some (.int (zI er))], [.int (zI 5)], es)) i_255_191 (by rfl) ?_
            refine x0 (r := (194, [some (.int (zI s)), some (.int (zI kd)), some (.int (zI fr)), some (.int (zI fi)), some (.int (zI ra)), some (.int (zI f2)), some (.int (zI r2)), some (.int (zI ef)), some (.int (zI er))], [.int (zI ra), .int (zI 5)], es)) i_255_192 rfl ?_
            refine x_isub i_255_194 ?_
            refine x0 (r := (197, [some (.int (zI s)), some (.int (zI kd)), some (.int (zI fr)), some (.int (zI fi)), some (.int (zI ra)), some (.int (zI f2)), some (.int (zI r2)), some (.int (zI ef)), some (.int (zI er))], [.int (zI r2), .int (zI (5 - ra))], es)) i_255_195 rfl ?_
            by_cases c28 : (5 - ra) ≠ r2
            · refine x_cmpT i_255_197 (by unfold i32 iLO iHI; omega) (by unfold i32 iLO iHI; omega) rfl (by simp only [zC, cR]; omega) ?_
              refine x0 (r := (205, [some (.int (zI s)), some (.int (zI kd)), some (.int (zI fr)), some (.int (zI fi)), some (.int (zI ra)), some (.int (zI f2)), some (.int (zI r2)), some (.int (zI ef)), some (.int (zI er))], [.int (zI 0)], es)) i_255_204 (by rfl) ?_
              refine x_ret (v := some (.int (zI 0))) i_255_205 rfl (fun _ => rfl) rfl rfl (pFin_b (by omega)) ?_
              exact K25 c1 c6 c11 c17 c23 c24 c25 c26 c27 c28
            · refine x_cmpF i_255_197 (by unfold i32 iLO iHI; omega) (by unfold i32 iLO iHI; omega) rfl (by simp only [zC, cR]; omega) ?_
              refine x0 (r := (201, [some (.int (zI s)), some (.int (zI kd)), some (.int (zI fr)), some (.int (zI fi)), some (.int (zI ra)), some (.int (zI f2)), some (.int (zI r2)), some (.int (zI ef)), some (.int (zI er))], [.int (zI 1)], es)) i_255_200 (by rfl) ?_
              refine x0 (r := (205, [some (.int (zI s)), some (.int (zI kd)), some (.int (zI fr)), some (.int (zI fi)), some (.int (zI ra)), some (.int (zI f2)), some (.int (zI r2)), some (.int (zI ef)), some (.int (zI er))], [.int (zI 1)], es)) i_255_201 rfl ?_
              refine x_ret (v := some (.int (zI 1))) i_255_205 rfl (fun _ => rfl) rfl rfl (pFin_b (by omega)) ?_
              exact K26 c1 c6 c11 c17 c23 c24 c25 c26 c27 c28
  refine x_tswd (t := 206) i_255_28 (by unfold i32 iLO iHI; omega) (by omega) rfl ?_
  refine x0 (r := (207, [some (.int (zI s)), some (.int (zI kd)), some (.int (zI fr)), some (.int (zI fi)), some (.int (zI ra)), some (.int (zI f2)), some (.int (zI r2)), some (.int (zI ef)), some (.int (zI er))], [.int (zI kd)], es)) i_255_206 rfl ?_
  by_cases c29 : kd = 0
  · refine x_ifT i_255_207 (by unfold i32 iLO iHI; omega) rfl (by simp only [zC, cR]; omega) ?_
    refine x0 (r := (229, [some (.int (zI s)), some (.int (zI kd)), some (.int (zI fr)), some (.int (zI fi)), some (.int (zI ra)), some (.int (zI f2)), some (.int (zI r2)), some (.int (zI ef)), some (.int (zI er))], [.int (zI 0)], es)) i_255_228 (by rfl) ?_
    refine x_ret (v := some (.int (zI 0))) i_255_229 rfl (fun _ => rfl) rfl rfl (pFin_b (by omega)) ?_
    exact K27 c1 c6 c11 c17 c23 c29
  · refine x_ifF i_255_207 (by unfold i32 iLO iHI; omega) rfl (by simp only [zC, cR]; omega) ?_
    refine x0 (r := (211, [some (.int (zI s)), some (.int (zI kd)), some (.int (zI fr)), some (.int (zI fi)), some (.int (zI ra)), some (.int (zI f2)), some (.int (zI r2)), some (.int (zI ef)), some (.int (zI er))], [.int (zI fr)], es)) i_255_210 rfl ?_
    by_cases c30 : fr ≠ 0
    · refine x_ifT i_255_211 (by unfold i32 iLO iHI; omega) rfl (by simp only [zC, cR]; omega) ?_
      refine x0 (r := (229, [some (.int (zI s)), some (.int (zI kd)), some (.int (zI fr)), some (.int (zI fi)), some (.int (zI ra)), some (.int (zI f2)), some (.int (zI r2)), some (.int (zI ef)), some (.int (zI er))], [.int (zI 0)], es)) i_255_228 (by rfl) ?_
      refine x_ret (v := some (.int (zI 0))) i_255_229 rfl (fun _ => rfl) rfl rfl (pFin_b (by omega)) ?_
      exact K28 c1 c6 c11 c17 c23 c29 c30
    · refine x_ifF i_255_211 (by unfold i32 iLO iHI; omega) rfl (by simp only [zC, cR]; omega) ?_
      refine x0 (r := (216, [some (.int (zI s)), some (.int (zI kd)), some (.int (zI fr)), some (.int (zI fi)), some (.int (zI ra)), some (.int (zI f2)), some (.int (zI r2)), some (.int (zI ef)), some (.int (zI er))], [.int (zI ef)], es)) i_255_214 rfl ?_
      by_cases c31 : ef = 0
      · refine x_ifT i_255_216 (by unfold i32 iLO iHI; omega) rfl (by simp only [zC, cR]; omega) ?_
        refine x0 (r := (229, [some (.int (zI s)), some (.int (zI kd)), some (.int (zI fr)), some (.int (zI fi)), some (.int (zI ra)), some (.int (zI f2)), some (.int (zI r2)), some (.int (zI ef)), some (.int (zI er))], [.int (zI 0)], es)) i_255_228 (by rfl) ?_
        refine x_ret (v := some (.int (zI 0))) i_255_229 rfl (fun _ => rfl) rfl rfl (pFin_b (by omega)) ?_
        exact K29 c1 c6 c11 c17 c23 c29 c30 c31
      · refine x_ifF i_255_216 (by unfold i32 iLO iHI; omega) rfl (by simp only [zC, cR]; omega) ?_
        refine x0 (r := (221, [some (.int (zI s)), some (.int (zI kd)), some (.int (zI fr)), some (.int (zI fi)), some (.int (zI ra)), some (.int (zI f2)), some (.int (zI r2)), some (.int (zI ef)), some (.int (zI er))], [.int (zI er)], es)) i_255_219 rfl ?_
        by_cases c32 : er = 0
        · refine x_ifT i_255_221 (by unfold i32 iLO iHI; omega) rfl (by simp only [zC, cR]; omega) ?_
          refine x0 (r := (229, [some (.int (zI s)), some (.int (zI kd)), some (.int (zI fr)), some (.int (zI fi)), some (.int (zI ra)), some (.int (zI f2)), some (.int (zI r2)), some (.int (zI ef)), some (.int (zI er))], [.int (zI 0)], es)) i_255_228 (by rfl) ?_
          refine x_ret (v := some (.int (zI 0))) i_255_229 rfl (fun _ => rfl) rfl rfl (pFin_b (by omega)) ?_
          exact K30 c1 c6 c11 c17 c23 c29 c30 c31 c32
        · refine x_ifF i_255_221 (by unfold i32 iLO iHI; omega) rfl (by simp only [zC, cR]; omega) ?_
          refine x0 (r := (225, [some (.int (zI s)), some (.int (zI kd)), some (.int (zI fr)), some (.int (zI fi)), some (.int (zI ra)), some (.int (zI f2)), some (.int (zI r2)), some (.int (zI ef)), some (.int (zI er))], [.int (zI 1)], es)) i_255_224 (by rfl) ?_
          refine x0 (r := (229, [some (.int (zI s)), some (.int (zI kd)), some (.int (zI fr)), some (.int (zI fi)), some (.int (zI ra)), some (.int (zI f2)), some (.int (zI r2)), some (.int (zI ef)), some (.int (zI er))], [.int (zI 1)], es)) i_255_225 rfl ?_
          refine x_ret (v := some (.int (zI 1))) i_255_229 rfl (fun _ => rfl) rfl rfl (pFin_b (by omega)) ?_
          exact K31 c1 c6 c11 c17 c23 c29 c30 c31 c32

theorem s_try0 {O : pOut} {d kc ks : Nat} {Q : pRes → Prop} {es : PH} {dp b n : Int} (hs_es : sh es) (hd : 0 ≤ dp ∧ dp ≤ 30) (hb : 0 ≤ b ∧ b ≤ 2) (hn : 0 ≤ n ∧ n ≤ 23) (hT_es : hOK tT es)
    (K1 : ∀ v1 : Int, v1 = (gA es 91 dp.toNat).toInt → ∀ v2 : Int, v2 = (gA es 87 ((36 * dp) + (v1 / 36)).toNat).toInt → ∀ v3 : Int, v3 = (gA es 89 b.toNat).toInt → v3 ≠ 1 → aW O (d + 1) 254 kc ks Q (61, [some (.ref 143), some (.int (zI dp)), some (.int (zI b)), some (.int (zI n)), some (.int (zI v1)), some (.int (zI v2)), some (.int (zI (v1 % 36))), none, none, none, none, none, none, none], [.int (zI ((v1 % 36) / 6))], es))
    (K2 : ∀ v1 : Int, v1 = (gA es 91 dp.toNat).toInt → ∀ v2 : Int, v2 = (gA es 87 ((36 * dp) + (v1 / 36)).toNat).toInt → ∀ v3 : Int, v3 = (gA es 89 b.toNat).toInt → ¬ (v3 ≠ 1) → ∀ v5 : Int, v5 = (zI v2 &&& zI 1).toInt → v5 ≠ 1 → aW O (d + 1) 254 kc ks Q (61, [some (.ref 143), some (.int (zI dp)), some (.int (zI b)), some (.int (zI n)), some (.int (zI v1)), some (.int (zI v2)), some (.int (zI (v1 % 36))), none, none, none, none, none, none, none], [.int (zI ((v1 % 36) / 6))], es))
    (K3 : ∀ v1 : Int, v1 = (gA es 91 dp.toNat).toInt → ∀ v2 : Int, v2 = (gA es 87 ((36 * dp) + (v1 / 36)).toNat).toInt → ∀ v3 : Int, v3 = (gA es 89 b.toNat).toInt → ¬ (v3 ≠ 1) → ∀ v5 : Int, v5 = (zI v2 &&& zI 1).toInt → ¬ (v5 ≠ 1) → aW O (d + 1) 254 kc ks Q (61, [some (.ref 143), some (.int (zI dp)), some (.int (zI b)), some (.int (zI n)), some (.int (zI v1)), some (.int (zI v2)), some (.int (zI (v1 % 36))), none, none, none, none, none, none, none], [.int (zI (5 - ((v1 % 36) / 6)))], es)) :
    aW O (d + 1) 254 kc ks Q (0, [some (.ref 143), some (.int (zI dp)), some (.int (zI b)), some (.int (zI n)), none, none, none, none, none, none, none, none, none, none], [], es) := by
  refine x0 (r := (1, [some (.ref 143), some (.int (zI dp)), some (.int (zI b)), some (.int (zI n)), none, none, none, none, none, none, none, none, none, none], [.ref 143], es)) i_254_0 rfl ?_
  refine x_getr (p := 79) (k := 155) i_254_1 hs_es rfl rfl ?_
  show aW _ _ _ _ _ _ (4, [some (.ref 143), some (.int (zI dp)), some (.int (zI b)), some (.int (zI n)), none, none, none, none, none, none, none, none, none, none], [.ref 155], es)
  refine x0 (r := (5, [some (.ref 143), some (.int (zI dp)), some (.int (zI b)), some (.int (zI n)), none, none, none, none, none, none, none, none, none, none], [.int (zI dp), .ref 155], es)) i_254_4 rfl ?_
  refine x_iald (p := 91) i_254_5 hs_es rfl (by unfold i32 iLO iHI; omega) (by omega) (by omega) ?_
  obtain ⟨v1, e_v1⟩ : ∃ z : Int, z = (gA es 91 dp.toNat).toInt := ⟨_, rfl⟩
  rw [← e_v1]
  have r_v1 : iLO ≤ v1 ∧ v1 ≤ iHI := by rw [e_v1]; exact i32_rng _
  unfold iLO iHI at r_v1
  have b_v1 : (0 : Int) ≤ v1 ∧ v1 ≤ (1295 : Int) := by rw [e_v1]; exact gA_bd hT_es (p := 91) (k := dp.toNat) rfl (by omega) (by decide)
  refine x0 (r := (8, [some (.ref 143), some (.int (zI dp)), some (.int (zI b)), some (.int (zI n)), some (.int (zI v1)), none, none, none, none, none, none, none, none, none], [], es)) i_254_6 rfl ?_
  refine x0 (r := (9, [some (.ref 143), some (.int (zI dp)), some (.int (zI b)), some (.int (zI n)), some (.int (zI v1)), none, none, none, none, none, none, none, none, none], [.ref 143], es)) i_254_8 rfl ?_
  refine x0 (r := (10, [some (.ref 143), some (.int (zI dp)), some (.int (zI b)), some (.int (zI n)), some (.int (zI v1)), none, none, none, none, none, none, none, none, none], [.int (zI dp), .ref 143], es)) i_254_9 rfl ?_
  refine x0 (r := (12, [some (.ref 143), some (.int (zI dp)), some (.int (zI b)), some (.int (zI n)), some (.int (zI v1)), none, none, none, none, none, none, none, none, none], [.int (zI v1), .int (zI dp), .ref 143], es)) i_254_10 rfl ?_
  refine x0 (r := (14, [some (.ref 143), some (.int (zI dp)), some (.int (zI b)), some (.int (zI n)), some (.int (zI v1)), none, none, none, none, none, none, none, none, none], [.int (zI 36), .int (zI v1), .int (zI dp), .ref 143], es)) i_254_12 (by rfl) ?_
  refine x_idivn i_254_14 (by omega) (by unfold i32 iLO iHI; omega) (by unfold i32 iLO iHI; omega) (by omega) ?_
  refine x_call (vs := [.ref 143, .int (zI dp), .int (zI (v1 / 36))]) (rs := []) i_254_15 rfl (fun _ => rfl) rfl rfl rfl rfl rfl (pCall_v (p := 79) hs_es rfl rfl rfl rfl rfl (by decide) rfl rfl rfl rfl rfl) ?_
  show aW _ _ _ _ _ _ (0, [some (.ref 143), some (.int (zI dp)), some (.int (zI (v1 / 36)))], [], es)
  refine x0 (r := (1, [some (.ref 143), some (.int (zI dp)), some (.int (zI (v1 / 36)))], [.ref 143], es)) i_219_0 rfl ?_
  refine x_getr (p := 79) (k := 151) i_219_1 hs_es rfl rfl ?_
  show aW _ _ _ _ _ _ (4, [some (.ref 143), some (.int (zI dp)), some (.int (zI (v1 / 36)))], [.ref 151], es)
  refine x0 (r := (6, [some (.ref 143), some (.int (zI dp)), some (.int (zI (v1 / 36)))], [.int (zI 36), .ref 151], es)) i_219_4 (by rfl) ?_
  refine x0 (r := (7, [some (.ref 143), some (.int (zI dp)), some (.int (zI (v1 / 36)))], [.int (zI dp), .int (zI 36), .ref 151], es)) i_219_6 rfl ?_
  refine x_imul i_219_7 ?_
  refine x0 (r := (9, [some (.ref 143), some (.int (zI dp)), some (.int (zI (v1 / 36)))], [.int (zI (v1 / 36)), .int (zI (36 * dp)), .ref 151], es)) i_219_8 rfl ?_
  refine x_iadd i_219_9 ?_
  refine x_iald (p := 87) i_219_10 hs_es rfl (by unfold i32 iLO iHI; omega) (by omega) (by omega) ?_
  obtain ⟨v2, e_v2⟩ : ∃ z : Int, z = (gA es 87 ((36 * dp) + (v1 / 36)).toNat).toInt := ⟨_, rfl⟩
  rw [← e_v2]
  have r_v2 : iLO ≤ v2 ∧ v2 ≤ iHI := by rw [e_v2]; exact i32_rng _
  unfold iLO iHI at r_v2
  have b_v2 : (-1 : Int) ≤ v2 ∧ v2 ≤ (9 : Int) := by rw [e_v2]; exact gA_bd hT_es (p := 87) (k := ((36 * dp) + (v1 / 36)).toNat) rfl (by omega) (by decide)
  refine x_ret (v := some (.int (zI v2))) i_219_11 rfl (fun _ => rfl) rfl rfl rfl ?_
  show aW _ _ _ _ _ _ (18, [some (.ref 143), some (.int (zI dp)), some (.int (zI b)), some (.int (zI n)), some (.int (zI v1)), none, none, none, none, none, none, none, none, none], [.int (zI v2)], es)
  refine x0 (r := (20, [some (.ref 143), some (.int (zI dp)), some (.int (zI b)), some (.int (zI n)), some (.int (zI v1)), some (.int (zI v2)), none, none, none, none, none, none, none, none], [], es)) i_254_18 rfl ?_
  refine x0 (r := (22, [some (.ref 143), some (.int (zI dp)), some (.int (zI b)), some (.int (zI n)), some (.int (zI v1)), some (.int (zI v2)), none, none, none, none, none, none, none, none], [.int (zI v1)], es)) i_254_20 rfl ?_
  refine x0 (r := (24, [some (.ref 143), some (.int (zI dp)), some (.int (zI b)), some (.int (zI n)), some (.int (zI v1)), some (.int (zI v2)), none, none, none, none, none, none, none, none], [.int (zI 36), .int (zI v1)], es)) i_254_22 (by rfl) ?_
  refine x_iremn i_254_24 (by omega) (by unfold i32 iLO iHI; omega) (by unfold i32 iLO iHI; omega) (by omega) ?_
  refine x0 (r := (27, [some (.ref 143), some (.int (zI dp)), some (.int (zI b)), some (.int (zI n)), some (.int (zI v1)), some (.int (zI v2)), some (.int (zI (v1 % 36))), none, none, none, none, none, none, none], [], es)) i_254_25 rfl ?_
  refine x0 (r := (28, [some (.ref 143), some (.int (zI dp)), some (.int (zI b)), some (.int (zI n)), some (.int (zI v1)), some (.int (zI v2)), some (.int (zI (v1 % 36))), none, none, none, none, none, none, none], [.ref 143], es)) i_254_27 rfl ?_
  refine x_getr (p := 79) (k := 153) i_254_28 hs_es rfl rfl ?_
  show aW _ _ _ _ _ _ (31, [some (.ref 143), some (.int (zI dp)), some (.int (zI b)), some (.int (zI n)), some (.int (zI v1)), some (.int (zI v2)), some (.int (zI (v1 % 36))), none, none, none, none, none, none, none], [.ref 153], es)
  refine x0 (r := (32, [some (.ref 143), some (.int (zI dp)), some (.int (zI b)), some (.int (zI n)), some (.int (zI v1)), some (.int (zI v2)), some (.int (zI (v1 % 36))), none, none, none, none, none, none, none], [.int (zI b), .ref 153], es)) i_254_31 rfl ?_
  refine x_iald (p := 89) i_254_32 hs_es rfl (by unfold i32 iLO iHI; omega) (by omega) (by omega) ?_
  obtain ⟨v3, e_v3⟩ : ∃ z : Int, z = (gA es 89 b.toNat).toInt := ⟨_, rfl⟩
  rw [← e_v3]
  have r_v3 : iLO ≤ v3 ∧ v3 ≤ iHI := by rw [e_v3]; exact i32_rng _
  unfold iLO iHI at r_v3
  have b_v3 : (0 : Int) ≤ v3 ∧ v3 ≤ (1 : Int) := by rw [e_v3]; exact gA_bd hT_es (p := 89) (k := b.toNat) rfl (by omega) (by decide)
  refine x0 (r := (34, [some (.ref 143), some (.int (zI dp)), some (.int (zI b)), some (.int (zI n)), some (.int (zI v1)), some (.int (zI v2)), some (.int (zI (v1 % 36))), none, none, none, none, none, none, none], [.int (zI 1), .int (zI v3)], es)) i_254_33 (by rfl) ?_
  by_cases c4 : v3 ≠ 1
  · refine x_cmpT i_254_34 (by unfold i32 iLO iHI; omega) (by unfold i32 iLO iHI; omega) rfl (by simp only [zC, cR]; omega) ?_
    refine x0 (r := (58, [some (.ref 143), some (.int (zI dp)), some (.int (zI b)), some (.int (zI n)), some (.int (zI v1)), some (.int (zI v2)), some (.int (zI (v1 % 36))), none, none, none, none, none, none, none], [.int (zI (v1 % 36))], es)) i_254_56 rfl ?_
    refine x0 (r := (60, [some (.ref 143), some (.int (zI dp)), some (.int (zI b)), some (.int (zI n)), some (.int (zI v1)), some (.int (zI v2)), some (.int (zI (v1 % 36))), none, none, none, none, none, none, none], [.int (zI 6), .int (zI (v1 % 36))], es)) i_254_58 (by rfl) ?_
    refine x_idivn i_254_60 (by omega) (by unfold i32 iLO iHI; omega) (by unfold i32 iLO iHI; omega) (by omega) ?_
    exact K1 v1 e_v1 v2 e_v2 v3 e_v3 c4
  · refine x_cmpF i_254_34 (by unfold i32 iLO iHI; omega) (by unfold i32 iLO iHI; omega) rfl (by simp only [zC, cR]; omega) ?_
    refine x0 (r := (39, [some (.ref 143), some (.int (zI dp)), some (.int (zI b)), some (.int (zI n)), some (.int (zI v1)), some (.int (zI v2)), some (.int (zI (v1 % 36))), none, none, none, none, none, none, none], [.int (zI v2)], es)) i_254_37 rfl ?_
    refine x_call (vs := [.int (zI v2)]) (rs := []) i_254_39 rfl (fun _ => rfl) rfl rfl rfl rfl rfl rfl ?_
    show aW _ _ _ _ _ _ (0, [some (.int (zI v2))], [], es)
    refine x0 (r := (1, [some (.int (zI v2))], [.int (zI v2)], es)) i_220_0 rfl ?_
    refine x0 (r := (2, [some (.int (zI v2))], [.int (zI 1), .int (zI v2)], es)) i_220_1 (by rfl) ?_
    refine x_op i_220_2 (w := (zI v2 &&& zI 1)) rfl rfl ?_
    obtain ⟨v5, e_v5⟩ : ∃ z : Int, z = (zI v2 &&& zI 1).toInt := ⟨_, rfl⟩
    rw [← e_v5]
    have r_v5 : iLO ≤ v5 ∧ v5 ≤ iHI := by rw [e_v5]; exact i32_rng _
    unfold iLO iHI at r_v5
    refine x_ret (v := some (.int (zI v5))) i_220_3 rfl (fun _ => rfl) rfl rfl rfl ?_
    show aW _ _ _ _ _ _ (42, [some (.ref 143), some (.int (zI dp)), some (.int (zI b)), some (.int (zI n)), some (.int (zI v1)), some (.int (zI v2)), some (.int (zI (v1 % 36))), none, none, none, none, none, none, none], [.int (zI v5)], es)
    refine x0 (r := (43, [some (.ref 143), some (.int (zI dp)), some (.int (zI b)), some (.int (zI n)), some (.int (zI v1)), some (.int (zI v2)), some (.int (zI (v1 % 36))), none, none, none, none, none, none, none], [.int (zI 1), .int (zI v5)], es)) i_254_42 (by rfl) ?_
    by_cases c6 : v5 ≠ 1
    · refine x_cmpT i_254_43 (by unfold i32 iLO iHI; omega) (by unfold i32 iLO iHI; omega) rfl (by simp only [zC, cR]; omega) ?_
      refine x0 (r := (58, [some (.ref 143), some (.int (zI dp)), some (.int (zI b)), some (.int (zI n)), some (.int (zI v1)), some (.int (zI v2)), some (.int (zI (v1 % 36))), none, none, none, none, none, none, none], [.int (zI (v1 % 36))], es)) i_254_56 rfl ?_
      refine x0 (r := (60, [some (.ref 143), some (.int (zI dp)), some (.int (zI b)), some (.int (zI n)), some (.int (zI v1)), some (.int (zI v2)), some (.int (zI (v1 % 36))), none, none, none, none, none, none, none], [.int (zI 6), .int (zI (v1 % 36))], es)) i_254_58 (by rfl) ?_
      refine x_idivn i_254_60 (by omega) (by unfold i32 iLO iHI; omega) (by unfold i32 iLO iHI; omega) (by omega) ?_
      exact K2 v1 e_v1 v2 e_v2 v3 e_v3 c4 v5 e_v5 c6
    · refine x_cmpF i_254_43 (by unfold i32 iLO iHI; omega) (by unfold i32 iLO iHI; omega) rfl (by simp only [zC, cR]; omega) ?_
      refine x0 (r := (47, [some (.ref 143), some (.int (zI dp)), some (.int (zI b)), some (.int (zI n)), some (.int (zI v1)), some (.int (zI v2)), some (.int (zI (v1 % 36))), none, none, none, none, none, none, none], [.int (zI 5)], es)) i_254_46 (by rfl) ?_
      refine x0 (r := (49, [some (.ref 143), some (.int (zI dp)), some (.int (zI b)), some (.int (zI n)), some (.int (zI v1)), some (.int (zI v2)), some (.int (zI (v1 % 36))), none, none, none, none, none, none, none], [.int (zI (v1 % 36)), .int (zI 5)], es)) i_254_47 rfl ?_
      refine x0 (r := (51, [some (.ref 143), some (.int (zI dp)), some (.int (zI b)), some (.int (zI n)), some (.int (zI v1)), some (.int (zI v2)), some (.int (zI (v1 % 36))), none, none, none, none, none, none, none], [.int (zI 6), .int (zI (v1 % 36)), .int (zI 5)], es)) i_254_49 (by rfl) ?_
      refine x_idivn i_254_51 (by omega) (by unfold i32 iLO iHI; omega) (by unfold i32 iLO iHI; omega) (by omega) ?_
      refine x_isub i_254_52 ?_
      refine x0 (r := (61, [some (.ref 143), some (.int (zI dp)), some (.int (zI b)), some (.int (zI n)), some (.int (zI v1)), some (.int (zI v2)), some (.int (zI (v1 % 36))), none, none, none, none, none, none, none], [.int (zI (5 - ((v1 % 36) / 6)))], es)) i_254_53 rfl ?_
      exact K3 v1 e_v1 v2 e_v2 v3 e_v3 c4 v5 e_v5 c6

theorem s_try61 {O : pOut} {d kc ks : Nat} {Q : pRes → Prop} {es : PH} {dp b n cd mn to rk : Int} (hs_es : sh es) (hd : 0 ≤ dp ∧ dp ≤ 30) (hb : 0 ≤ b ∧ b ≤ 2) (hn : 0 ≤ n ∧ n ≤ 23) (h1 : 0 ≤ cd ∧ cd ≤ 1295) (h2 : -1 ≤ mn ∧ mn ≤ 9) (h3 : 0 ≤ to ∧ to ≤ 35) (h4 : 0 ≤ rk ∧ rk ≤ 5) (ht : -1 ≤ mn.tdiv 2 ∧ mn.tdiv 2 ≤ 4) (hT_es : hOK tT es)
    (K1 : ∀ v1 : Int, v1 = (gA es 80 ((119 + (98 * b)) + ((2 + (4 * n)) + 0)).toNat).toInt → v1 ≠ (mn.tdiv 2) → ∀ v3 : Int, v3 = (gA es 80 ((119 + (98 * b)) + ((2 + (4 * n)) + 1)).toNat).toInt → v3 < 0 → aW O (d + 2) 254 kc ks Q (130, [some (.ref 143), some (.int (zI dp)), some (.int (zI b)), some (.int (zI n)), some (.int (zI cd)), some (.int (zI mn)), some (.int (zI to)), some (.int (zI rk)), some (.int (zI 0)), some (.int (zI 1)), some (.int (zI 1000)), some (.int (zI 0)), some (.int (zI 0)), none], [], es))
    (K2 : ∀ v1 : Int, v1 = (gA es 80 ((119 + (98 * b)) + ((2 + (4 * n)) + 0)).toNat).toInt → v1 ≠ (mn.tdiv 2) → ∀ v3 : Int, v3 = (gA es 80 ((119 + (98 * b)) + ((2 + (4 * n)) + 1)).toNat).toInt → ¬ (v3 < 0) → ∀ v5 : Int, v5 = (gA es 80 ((119 + (98 * b)) + ((2 + (4 * n)) + 1)).toNat).toInt → v5 ≠ ((cd / 36) % 6) → aW O (d + 2) 254 kc ks Q (130, [some (.ref 143), some (.int (zI dp)), some (.int (zI b)), some (.int (zI n)), some (.int (zI cd)), some (.int (zI mn)), some (.int (zI to)), some (.int (zI rk)), some (.int (zI 0)), some (.int (zI 0)), some (.int (zI 1000)), some (.int (zI 0)), some (.int (zI 0)), none], [], es))
    (K3 : ∀ v1 : Int, v1 = (gA es 80 ((119 + (98 * b)) + ((2 + (4 * n)) + 0)).toNat).toInt → v1 ≠ (mn.tdiv 2) → ∀ v3 : Int, v3 = (gA es 80 ((119 + (98 * b)) + ((2 + (4 * n)) + 1)).toNat).toInt → ¬ (v3 < 0) → ∀ v5 : Int, v5 = (gA es 80 ((119 + (98 * b)) + ((2 + (4 * n)) + 1)).toNat).toInt → ¬ (v5 ≠ ((cd / 36) % 6)) → aW O (d + 2) 254 kc ks Q (130, [some (.ref 143), some (.int (zI dp)), some (.int (zI b)), some (.int (zI n)), some (.int (zI cd)), some (.int (zI mn)), some (.int (zI to)), some (.int (zI rk)), some (.int (zI 0)), some (.int (zI 1)), some (.int (zI 1000)), some (.int (zI 0)), some (.int (zI 0)), none], [], es))
    (K4 : ∀ v1 : Int, v1 = (gA es 80 ((119 + (98 * b)) + ((2 + (4 * n)) + 0)).toNat).toInt → ¬ (v1 ≠ (mn.tdiv 2)) → ∀ v7 : Int, v7 = (gA es 80 ((119 + (98 * b)) + ((2 + (4 * n)) + 1)).toNat).toInt → v7 < 0 → aW O (d + 2) 254 kc ks Q (130, [some (.ref 143), some (.int (zI dp)), some (.int (zI b)), some (.int (zI n)), some (.int (zI cd)), some (.int (zI mn)), some (.int (zI to)), some (.int (zI rk)), some (.int (zI 1)), some (.int (zI 1)), some (.int (zI 1000)), some (.int (zI 0)), some (.int (zI 0)), none], [], es))
    (K5 : ∀ v1 : Int, v1 = (gA es 80 ((119 + (98 * b)) + ((2 + (4 * n)) + 0)).toNat).toInt → ¬ (v1 ≠ (mn.tdiv 2)) → ∀ v7 : Int, v7 = (gA es 80 ((119 + (98 * b)) + ((2 + (4 * n)) + 1)).toNat).toInt → ¬ (v7 < 0) → ∀ v9 : Int, v9 = (gA es 80 ((119 + (98 * b)) + ((2 + (4 * n)) + 1)).toNat).toInt → v9 ≠ ((cd / 36) % 6) → aW O (d + 2) 254 kc ks Q (130, [some (.ref 143), some (.int (zI dp)), some (.int (zI b)), some (.int (zI n)), some (.int (zI cd)), some (.int (zI mn)), some (.int (zI to)), some (.int (zI rk)), some (.int (zI 1)), some (.int (zI 0)), some (.int (zI 1000)), some (.int (zI 0)), some (.int (zI 0)), none], [], es))
    (K6 : ∀ v1 : Int, v1 = (gA es 80 ((119 + (98 * b)) + ((2 + (4 * n)) + 0)).toNat).toInt → ¬ (v1 ≠ (mn.tdiv 2)) → ∀ v7 : Int, v7 = (gA es 80 ((119 + (98 * b)) + ((2 + (4 * n)) + 1)).toNat).toInt → ¬ (v7 < 0) → ∀ v9 : Int, v9 = (gA es 80 ((119 + (98 * b)) + ((2 + (4 * n)) + 1)).toNat).toInt → ¬ (v9 ≠ ((cd / 36) % 6)) → aW O (d + 2) 254 kc ks Q (130, [some (.ref 143), some (.int (zI dp)), some (.int (zI b)), some (.int (zI n)), some (.int (zI cd)), some (.int (zI mn)), some (.int (zI to)), some (.int (zI rk)), some (.int (zI 1)), some (.int (zI 1)), some (.int (zI 1000)), some (.int (zI 0)), some (.int (zI 0)), none], [], es)) :
    aW O (d + 2) 254 kc ks Q (61, [some (.ref 143), some (.int (zI dp)), some (.int (zI b)), some (.int (zI n)), some (.int (zI cd)), some (.int (zI mn)), some (.int (zI to)), none, none, none, none, none, none, none], [.int (zI rk)], es) := by
  refine x0 (r := (63, [some (.ref 143), some (.int (zI dp)), some (.int (zI b)), some (.int (zI n)), some (.int (zI cd)), some (.int (zI mn)), some (.int (zI to)), some (.int (zI rk)), none, none, none, none, none, none], [], es)) i_254_61 rfl ?_
  refine x0 (r := (64, [some (.ref 143), some (.int (zI dp)), some (.int (zI b)), some (.int (zI n)), some (.int (zI cd)), some (.int (zI mn)), some (.int (zI to)), some (.int (zI rk)), none, none, none, none, none, none], [.ref 143], es)) i_254_63 rfl ?_
  refine x0 (r := (65, [some (.ref 143), some (.int (zI dp)), some (.int (zI b)), some (.int (zI n)), some (.int (zI cd)), some (.int (zI mn)), some (.int (zI to)), some (.int (zI rk)), none, none, none, none, none, none], [.int (zI b), .ref 143], es)) i_254_64 rfl ?_
  refine x0 (r := (66, [some (.ref 143), some (.int (zI dp)), some (.int (zI b)), some (.int (zI n)), some (.int (zI cd)), some (.int (zI mn)), some (.int (zI to)), some (.int (zI rk)), none, none, none, none, none, none], [.int (zI n), .int (zI b), .ref 143], es)) i_254_65 rfl ?_
  refine x0 (r := (67, [some (.ref 143), some (.int (zI dp)), some (.int (zI b)), some (.int (zI n)), some (.int (zI cd)), some (.int (zI mn)), some (.int (zI to)), some (.int (zI rk)), none, none, none, none, none, none], [.int (zI 0), .int (zI n), .int (zI b), .ref 143], es)) i_254_66 (by rfl) ?_
  refine x_call (vs := [.ref 143, .int (zI b), .int (zI n), .int (zI 0)]) (rs := []) i_254_67 rfl (fun _ => rfl) rfl rfl rfl rfl rfl (pCall_v (p := 79) hs_es rfl rfl rfl rfl rfl (by decide) rfl rfl rfl rfl rfl) ?_
  show aW _ _ _ _ _ _ (0, [some (.ref 143), some (.int (zI b)), some (.int (zI n)), some (.int (zI 0))], [], es)
  refine x0 (r := (1, [some (.ref 143), some (.int (zI b)), some (.int (zI n)), some (.int (zI 0))], [.ref 143], es)) i_211_0 rfl ?_
  refine x0 (r := (2, [some (.ref 143), some (.int (zI b)), some (.int (zI n)), some (.int (zI 0))], [.int (zI b), .ref 143], es)) i_211_1 rfl ?_
  refine x0 (r := (3, [some (.ref 143), some (.int (zI b)), some (.int (zI n)), some (.int (zI 0))], [.int (zI 2), .int (zI b), .ref 143], es)) i_211_2 (by rfl) ?_
  refine x0 (r := (4, [some (.ref 143), some (.int (zI b)), some (.int (zI n)), some (.int (zI 0))], [.int (zI 4), .int (zI 2), .int (zI b), .ref 143], es)) i_211_3 (by rfl) ?_
  refine x0 (r := (5, [some (.ref 143), some (.int (zI b)), some (.int (zI n)), some (.int (zI 0))], [.int (zI n), .int (zI 4), .int (zI 2), .int (zI b), .ref 143], es)) i_211_4 rfl ?_
  refine x_imul i_211_5 ?_
  refine x_iadd i_211_6 ?_
  refine x0 (r := (8, [some (.ref 143), some (.int (zI b)), some (.int (zI n)), some (.int (zI 0))], [.int (zI 0), .int (zI (2 + (4 * n))), .int (zI b), .ref 143], es)) i_211_7 rfl ?_
  refine x_iadd i_211_8 ?_
  refine x_call (vs := [.ref 143, .int (zI b), .int (zI ((2 + (4 * n)) + 0))]) (rs := []) i_211_9 rfl (fun _ => rfl) rfl rfl rfl rfl rfl (pCall_v (p := 79) hs_es rfl rfl rfl rfl rfl (by decide) rfl rfl rfl rfl rfl) ?_
  show aW _ _ _ _ _ _ (0, [some (.ref 143), some (.int (zI b)), some (.int (zI ((2 + (4 * n)) + 0)))], [], es)
  refine x0 (r := (1, [some (.ref 143), some (.int (zI b)), some (.int (zI ((2 + (4 * n)) + 0)))], [.ref 143], es)) i_206_0 rfl ?_
  refine x_getr (p := 79) (k := 144) i_206_1 hs_es rfl rfl ?_
  show aW _ _ _ _ _ _ (4, [some (.ref 143), some (.int (zI b)), some (.int (zI ((2 + (4 * n)) + 0)))], [.ref 144], es)
  refine x0 (r := (6, [some (.ref 143), some (.int (zI b)), some (.int (zI ((2 + (4 * n)) + 0)))], [.int (zI 119), .ref 144], es)) i_206_4 (by rfl) ?_
  refine x0 (r := (8, [some (.ref 143), some (.int (zI b)), some (.int (zI ((2 + (4 * n)) + 0)))], [.int (zI 98), .int (zI 119), .ref 144], es)) i_206_6 (by rfl) ?_
  refine x0 (r := (9, [some (.ref 143), some (.int (zI b)), some (.int (zI ((2 + (4 * n)) + 0)))], [.int (zI b), .int (zI 98), .int (zI 119), .ref 144], es)) i_206_8 rfl ?_
  refine x_imul i_206_9 ?_
  refine x_iadd i_206_10 ?_
  refine x0 (r := (12, [some (.ref 143), some (.int (zI b)), some (.int (zI ((2 + (4 * n)) + 0)))], [.int (zI ((2 + (4 * n)) + 0)), .int (zI (119 + (98 * b))), .ref 144], es)) i_206_11 rfl ?_
  refine x_iadd i_206_12 ?_
  refine x_iald (p := 80) i_206_13 hs_es rfl (by unfold i32 iLO iHI; omega) (by omega) (by omega) ?_
  obtain ⟨v1, e_v1⟩ : ∃ z : Int, z = (gA es 80 ((119 + (98 * b)) + ((2 + (4 * n)) + 0)).toNat).toInt := ⟨_, rfl⟩
  rw [← e_v1]
  have r_v1 : iLO ≤ v1 ∧ v1 ≤ iHI := by rw [e_v1]; exact i32_rng _
  unfold iLO iHI at r_v1
  refine x_ret (v := some (.int (zI v1))) i_206_14 rfl (fun _ => rfl) rfl rfl rfl ?_
  show aW _ _ _ _ _ _ (12, [some (.ref 143), some (.int (zI b)), some (.int (zI n)), some (.int (zI 0))], [.int (zI v1)], es)
  refine x_ret (v := some (.int (zI v1))) i_211_12 rfl (fun _ => rfl) rfl rfl rfl ?_
  show aW _ _ _ _ _ _ (70, [some (.ref 143), some (.int (zI dp)), some (.int (zI b)), some (.int (zI n)), some (.int (zI cd)), some (.int (zI mn)), some (.int (zI to)), some (.int (zI rk)), none, none, none, none, none, none], [.int (zI v1)], es)
  refine x0 (r := (72, [some (.ref 143), some (.int (zI dp)), some (.int (zI b)), some (.int (zI n)), some (.int (zI cd)), some (.int (zI mn)), some (.int (zI to)), some (.int (zI rk)), none, none, none, none, none, none], [.int (zI mn), .int (zI v1)], es)) i_254_70 rfl ?_
  refine x0 (r := (73, [some (.ref 143), some (.int (zI dp)), some (.int (zI b)), some (.int (zI n)), some (.int (zI cd)), some (.int (zI mn)), some (.int (zI to)), some (.int (zI rk)), none, none, none, none, none, none], [.int (zI 2), .int (zI mn), .int (zI v1)], es)) i_254_72 (by rfl) ?_
  refine x_idiv i_254_73 (by unfold i32 iLO iHI; omega) (by unfold i32 iLO iHI; omega) (by omega) ?_
  by_cases c2 : v1 ≠ (mn.tdiv 2)
  · refine x_cmpT i_254_74 (by unfold i32 iLO iHI; omega) (by unfold i32 iLO iHI; omega) rfl (by simp only [zC, cR]; omega) ?_
    refine x0 (r := (82, [some (.ref 143), some (.int (zI dp)), some (.int (zI b)), some (.int (zI n)), some (.int (zI cd)), some (.int (zI mn)), some (.int (zI to)), some (.int (zI rk)), none, none, none, none, none, none], [.int (zI 0)], es)) i_254_81 (by rfl) ?_
    refine x0 (r := (84, [some (.ref 143), some (.int (zI dp)), some (.int (zI b)), some (.int (zI n)), some (.int (zI cd)), some (.int (zI mn)), some (.int (zI to)), some (.int (zI rk)), some (.int (zI 0)), none, none, none, none, none], [], es)) i_254_82 rfl ?_
    refine x0 (r := (85, [some (.ref 143), some (.int (zI dp)), some (.int (zI b)), some (.int (zI n)), some (.int (zI cd)), some (.int (zI mn)), some (.int (zI to)), some (.int (zI rk)), some (.int (zI 0)), none, none, none, none, none], [.ref 143], es)) i_254_84 rfl ?_
    refine x0 (r := (86, [some (.ref 143), some (.int (zI dp)), some (.int (zI b)), some (.int (zI n)), some (.int (zI cd)), some (.int (zI mn)), some (.int (zI to)), some (.int (zI rk)), some (.int (zI 0)), none, none, none, none, none], [.int (zI b), .ref 143], es)) i_254_85 rfl ?_
    refine x0 (r := (87, [some (.ref 143), some (.int (zI dp)), some (.int (zI b)), some (.int (zI n)), some (.int (zI cd)), some (.int (zI mn)), some (.int (zI to)), some (.int (zI rk)), some (.int (zI 0)), none, none, none, none, none], [.int (zI n), .int (zI b), .ref 143], es)) i_254_86 rfl ?_
    refine x0 (r := (88, [some (.ref 143), some (.int (zI dp)), some (.int (zI b)), some (.int (zI n)), some (.int (zI cd)), some (.int (zI mn)), some (.int (zI to)), some (.int (zI rk)), some (.int (zI 0)), none, none, none, none, none], [.int (zI 1), .int (zI n), .int (zI b), .ref 143], es)) i_254_87 (by rfl) ?_
    refine x_call (vs := [.ref 143, .int (zI b), .int (zI n), .int (zI 1)]) (rs := []) i_254_88 rfl (fun _ => rfl) rfl rfl rfl rfl rfl (pCall_v (p := 79) hs_es rfl rfl rfl rfl rfl (by decide) rfl rfl rfl rfl rfl) ?_
    show aW _ _ _ _ _ _ (0, [some (.ref 143), some (.int (zI b)), some (.int (zI n)), some (.int (zI 1))], [], es)
    refine x0 (r := (1, [some (.ref 143), some (.int (zI b)), some (.int (zI n)), some (.int (zI 1))], [.ref 143], es)) i_211_0 rfl ?_
    refine x0 (r := (2, [some (.ref 143), some (.int (zI b)), some (.int (zI n)), some (.int (zI 1))], [.int (zI b), .ref 143], es)) i_211_1 rfl ?_
    refine x0 (r := (3, [some (.ref 143), some (.int (zI b)), some (.int (zI n)), some (.int (zI 1))], [.int (zI 2), .int (zI b), .ref 143], es)) i_211_2 (by rfl) ?_
    refine x0 (r := (4, [some (.ref 143), some (.int (zI b)), some (.int (zI n)), some (.int (zI 1))], [.int (zI 4), .int (zI 2), .int (zI b), .ref 143], es)) i_211_3 (by rfl) ?_
    refine x0 (r := (5, [some (.ref 143), some (.int (zI b)), some (.int (zI n)), some (.int (zI 1))], [.int (zI n), .int (zI 4), .int (zI 2), .int (zI b), .ref 143], es)) i_211_4 rfl ?_
    refine x_imul i_211_5 ?_
    refine x_iadd i_211_6 ?_
    refine x0 (r := (8, [some (.ref 143), some (.int (zI b)), some (.int (zI n)), some (.int (zI 1))], [.int (zI 1), .int (zI (2 + (4 * n))), .int (zI b), .ref 143], es)) i_211_7 rfl ?_
    refine x_iadd i_211_8 ?_
    refine x_call (vs := [.ref 143, .int (zI b), .int (zI ((2 + (4 * n)) + 1))]) (rs := []) i_211_9 rfl (fun _ => rfl) rfl rfl rfl rfl rfl (pCall_v (p := 79) hs_es rfl rfl rfl rfl rfl (by decide) rfl rfl rfl rfl rfl) ?_
    show aW _ _ _ _ _ _ (0, [some (.ref 143), some (.int (zI b)), some (.int (zI ((2 + (4 * n)) + 1)))], [], es)
    refine x0 (r := (1, [some (.ref 143), some (.int (zI b)), some (.int (zI ((2 + (4 * n)) + 1)))], [.ref 143], es)) i_206_0 rfl ?_
    refine x_getr (p := 79) (k := 144) i_206_1 hs_es rfl rfl ?_
    show aW _ _ _ _ _ _ (4, [some (.ref 143), some (.int (zI b)), some (.int (zI ((2 + (4 * n)) + 1)))], [.ref 144], es)
    refine x0 (r := (6, [some (.ref 143), some (.int (zI b)), some (.int (zI ((2 + (4 * n)) + 1)))], [.int (zI 119), .ref 144], es)) i_206_4 (by rfl) ?_
    refine x0 (r := (8, [some (.ref 143), some (.int (zI b)), some (.int (zI ((2 + (4 * n)) + 1)))], [.int (zI 98), .int (zI 119), .ref 144], es)) i_206_6 (by rfl) ?_
    refine x0 (r := (9, [some (.ref 143), some (.int (zI b)), some (.int (zI ((2 + (4 * n)) + 1)))], [.int (zI b), .int (zI 98), .int (zI 119), .ref 144], es)) i_206_8 rfl ?_
    refine x_imul i_206_9 ?_
    refine x_iadd i_206_10 ?_
    refine x0 (r := (12, [some (.ref 143), some (.int (zI b)), some (.int (zI ((2 + (4 * n)) + 1)))], [.int (zI ((2 + (4 * n)) + 1)), .int (zI (119 + (98 * b))), .ref 144], es)) i_206_11 rfl ?_
    refine x_iadd i_206_12 ?_
    refine x_iald (p := 80) i_206_13 hs_es rfl (by unfold i32 iLO iHI; omega) (by omega) (by omega) ?_
    obtain ⟨v3, e_v3⟩ : ∃ z : Int, z = (gA es 80 ((119 + (98 * b)) + ((2 + (4 * n)) + 1)).toNat).toInt := ⟨_, rfl⟩
    rw [← e_v3]
    have r_v3 : iLO ≤ v3 ∧ v3 ≤ iHI := by rw [e_v3]; exact i32_rng _
    unfold iLO iHI at r_v3
    refine x_ret (v := some (.int (zI v3))) i_206_14 rfl (fun _ => rfl) rfl rfl rfl ?_
    show aW _ _ _ _ _ _ (12, [some (.ref 143), some (.int (zI b)), some (.int (zI n)), some (.int (zI 1))], [.int (zI v3)], es)
    refine x_ret (v := some (.int (zI v3))) i_211_12 rfl (fun _ => rfl) rfl rfl rfl ?_
    show aW _ _ _ _ _ _ (91, [some (.ref 143), some (.int (zI dp)), some (.int (zI b)), some (.int (zI n)), some (.int (zI cd)), some (.int (zI mn)), some (.int (zI to)), some (.int (zI rk)), some (.int (zI 0)), none, none, none, none, none], [.int (zI v3)], es)
    by_cases c4 : v3 < 0
    · refine x_ifT i_254_91 (by unfold i32 iLO iHI; omega) rfl (by simp only [zC, cR]; omega) ?_
      refine x0 (r := (113, [some (.ref 143), some (.int (zI dp)), some (.int (zI b)), some (.int (zI n)), some (.int (zI cd)), some (.int (zI mn)), some (.int (zI to)), some (.int (zI rk)), some (.int (zI 0)), none, none, none, none, none], [.int (zI 1)], es)) i_254_112 (by rfl) ?_
      refine x0 (r := (117, [some (.ref 143), some (.int (zI dp)), some (.int (zI b)), some (.int (zI n)), some (.int (zI cd)), some (.int (zI mn)), some (.int (zI to)), some (.int (zI rk)), some (.int (zI 0)), none, none, none, none, none], [.int (zI 1)], es)) i_254_113 rfl ?_
      refine x0 (r := (119, [some (.ref 143), some (.int (zI dp)), some (.int (zI b)), some (.int (zI n)), some (.int (zI cd)), some (.int (zI mn)), some (.int (zI to)), some (.int (zI rk)), some (.int (zI 0)), some (.int (zI 1)), none, none, none, none], [], es)) i_254_117 rfl ?_
      refine x0 (r := (122, [some (.ref 143), some (.int (zI dp)), some (.int (zI b)), some (.int (zI n)), some (.int (zI cd)), some (.int (zI mn)), some (.int (zI to)), some (.int (zI rk)), some (.int (zI 0)), some (.int (zI 1)), none, none, none, none], [.int (zI 1000)], es)) i_254_119 (by rfl) ?_
      refine x0 (r := (124, [some (.ref 143), some (.int (zI dp)), some (.int (zI b)), some (.int (zI n)), some (.int (zI cd)), some (.int (zI mn)), some (.int (zI to)), some (.int (zI rk)), some (.int (zI 0)), some (.int (zI 1)), some (.int (zI 1000)), none, none, none], [], es)) i_254_122 rfl ?_
      refine x0 (r := (125, [some (.ref 143), some (.int (zI dp)), some (.int (zI b)), some (.int (zI n)), some (.int (zI cd)), some (.int (zI mn)), some (.int (zI to)), some (.int (zI rk)), some (.int (zI 0)), some (.int (zI 1)), some (.int (zI 1000)), none, none, none], [.int (zI 0)], es)) i_254_124 (by rfl) ?_
      refine x0 (r := (127, [some (.ref 143), some (.int (zI dp)), some (.int (zI b)), some (.int (zI n)), some (.int (zI cd)), some (.int (zI mn)), some (.int (zI to)), some (.int (zI rk)), some (.int (zI 0)), some (.int (zI 1)), some (.int (zI 1000)), some (.int (zI 0)), none, none], [], es)) i_254_125 rfl ?_
      refine x0 (r := (128, [some (.ref 143), some (.int (zI dp)), some (.int (zI b)), some (.int (zI n)), some (.int (zI cd)), some (.int (zI mn)), some (.int (zI to)), some (.int (zI rk)), some (.int (zI 0)), some (.int (zI 1)), some (.int (zI 1000)), some (.int (zI 0)), none, none], [.int (zI 0)], es)) i_254_127 (by rfl) ?_
      refine x0 (r := (130, [some (.ref 143), some (.int (zI dp)), some (.int (zI b)), some (.int (zI n)), some (.int (zI cd)), some (.int (zI mn)), some (.int (zI to)), some (.int (zI rk)), some (.int (zI 0)), some (.int (zI 1)), some (.int (zI 1000)), some (.int (zI 0)), some (.int (zI 0)), none], [], es)) i_254_128 rfl ?_
      exact K1 v1 e_v1 c2 v3 e_v3 c4
    · refine x_ifF i_254_91 (by unfold i32 iLO iHI; omega) rfl (by simp only [zC, cR]; omega) ?_
      refine x0 (r := (95, [some (.ref 143), some (.int (zI dp)), some (.int (zI b)), some (.int (zI n)), some (.int (zI cd)), some (.int (zI mn)), some (.int (zI to)), some (.int (zI rk)), some (.int (zI 0)), none, none, none, none, none], [.ref 143], es)) i_254_94 rfl ?_
      refine x0 (r := (96, [some (.ref 143), some (.int (zI dp)), some (.int (zI b)), some (.int (zI n)), some (.int (zI cd)), some (.int (zI mn)), some (.int (zI to)), some (.int (zI rk)), some (.int (zI 0)), none, none, none, none, none], [.int (zI b), .ref 143], es)) i_254_95 rfl ?_
      refine x0 (r := (97, [some (.ref 143), some (.int (zI dp)), some (.int (zI b)), some (.int (zI n)), some (.int (zI cd)), some (.int (zI mn)), some (.int (zI to)), some (.int (zI rk)), some (.int (zI 0)), none, none, none, none, none], [.int (zI n), .int (zI b), .ref 143], es)) i_254_96 rfl ?_
      refine x0 (r := (98, [some (.ref 143), some (.int (zI dp)), some (.int (zI b)), some (.int (zI n)), some (.int (zI cd)), some (.int (zI mn)), some (.int (zI to)), some (.int (zI rk)), some (.int (zI 0)), none, none, none, none, none], [.int (zI 1), .int (zI n), .int (zI b), .ref 143], es)) i_254_97 (by rfl) ?_
      refine x_call (vs := [.ref 143, .int (zI b), .int (zI n), .int (zI 1)]) (rs := []) i_254_98 rfl (fun _ => rfl) rfl rfl rfl rfl rfl (pCall_v (p := 79) hs_es rfl rfl rfl rfl rfl (by decide) rfl rfl rfl rfl rfl) ?_
      show aW _ _ _ _ _ _ (0, [some (.ref 143), some (.int (zI b)), some (.int (zI n)), some (.int (zI 1))], [], es)
      refine x0 (r := (1, [some (.ref 143), some (.int (zI b)), some (.int (zI n)), some (.int (zI 1))], [.ref 143], es)) i_211_0 rfl ?_
      refine x0 (r := (2, [some (.ref 143), some (.int (zI b)), some (.int (zI n)), some (.int (zI 1))], [.int (zI b), .ref 143], es)) i_211_1 rfl ?_
      refine x0 (r := (3, [some (.ref 143), some (.int (zI b)), some (.int (zI n)), some (.int (zI 1))], [.int (zI 2), .int (zI b), .ref 143], es)) i_211_2 (by rfl) ?_
      refine x0 (r := (4, [some (.ref 143), some (.int (zI b)), some (.int (zI n)), some (.int (zI 1))], [.int (zI 4), .int (zI 2), .int (zI b), .ref 143], es)) i_211_3 (by rfl) ?_
      refine x0 (r := (5, [some (.ref 143), some (.int (zI b)), some (.int (zI n)), some (.int (zI 1))], [.int (zI n), .int (zI 4), .int (zI 2), .int (zI b), .ref 143], es)) i_211_4 rfl ?_
      refine x_imul i_211_5 ?_
      refine x_iadd i_211_6 ?_
      refine x0 (r := (8, [some (.ref 143), some (.int (zI b)), some (.int (zI n)), some (.int (zI 1))], [.int (zI 1), .int (zI (2 + (4 * n))), .int (zI b), .ref 143], es)) i_211_7 rfl ?_
      refine x_iadd i_211_8 ?_
      refine x_call (vs := [.ref 143, .int (zI b), .int (zI ((2 + (4 * n)) + 1))]) (rs := []) i_211_9 rfl (fun _ => rfl) rfl rfl rfl rfl rfl (pCall_v (p := 79) hs_es rfl rfl rfl rfl rfl (by decide) rfl rfl rfl rfl rfl) ?_
      show aW _ _ _ _ _ _ (0, [some (.ref 143), some (.int (zI b)), some (.int (zI ((2 + (4 * n)) + 1)))], [], es)
      refine x0 (r := (1, [some (.ref 143), some (.int (zI b)), some (.int (zI ((2 + (4 * n)) + 1)))], [.ref 143], es)) i_206_0 rfl ?_
      refine x_getr (p := 79) (k := 144) i_206_1 hs_es rfl rfl ?_
      show aW _ _ _ _ _ _ (4, [some (.ref 143), some (.int (zI b)), some (.int (zI ((2 + (4 * n)) + 1)))], [.ref 144], es)
      refine x0 (r := (6, [some (.ref 143), some (.int (zI b)), some (.int (zI ((2 + (4 * n)) + 1)))], [.int (zI 119), .ref 144], es)) i_206_4 (by rfl) ?_
      refine x0 (r := (8, [some (.ref 143), some (.int (zI b)), some (.int (zI ((2 + (4 * n)) + 1)))], [.int (zI 98), .int (zI 119), .ref 144], es)) i_206_6 (by rfl) ?_
      refine x0 (r := (9, [some (.ref 143), some (.int (zI b)), some (.int (zI ((2 + (4 * n)) + 1)))], [.int (zI b), .int (zI 98), .int (zI 119), .ref 144], es)) i_206_8 rfl ?_
      refine x_imul i_206_9 ?_
      refine x_iadd i_206_10 ?_
      refine x0 (r := (12, [some (.ref 143), some (.int (zI b)), some (.int (zI ((2 + (4 * n)) + 1)))], [.int (zI ((2 + (4 * n)) + 1)), .int (zI (119 + (98 * b))), .ref 144], es)) i_206_11 rfl ?_
      refine x_iadd i_206_12 ?_
      refine x_iald (p := 80) i_206_13 hs_es rfl (by unfold i32 iLO iHI; omega) (by omega) (by omega) ?_
      obtain ⟨v5, e_v5⟩ : ∃ z : Int, z = (gA es 80 ((119 + (98 * b)) + ((2 + (4 * n)) + 1)).toNat).toInt := ⟨_, rfl⟩
      rw [← e_v5]
      have r_v5 : iLO ≤ v5 ∧ v5 ≤ iHI := by rw [e_v5]; exact i32_rng _
      unfold iLO iHI at r_v5
      refine x_ret (v := some (.int (zI v5))) i_206_14 rfl (fun _ => rfl) rfl rfl rfl ?_
      show aW _ _ _ _ _ _ (12, [some (.ref 143), some (.int (zI b)), some (.int (zI n)), some (.int (zI 1))], [.int (zI v5)], es)
      refine x_ret (v := some (.int (zI v5))) i_211_12 rfl (fun _ => rfl) rfl rfl rfl ?_
      show aW _ _ _ _ _ _ (101, [some (.ref 143), some (.int (zI dp)), some (.int (zI b)), some (.int (zI n)), some (.int (zI cd)), some (.int (zI mn)), some (.int (zI to)), some (.int (zI rk)), some (.int (zI 0)), none, none, none, none, none], [.int (zI v5)], es)
      refine x0 (r := (103, [some (.ref 143), some (.int (zI dp)), some (.int (zI b)), some (.int (zI n)), some (.int (zI cd)), some (.int (zI mn)), some (.int (zI to)), some (.int (zI rk)), some (.int (zI 0)), none, none, none, none, none], [.int (zI cd), .int (zI v5)], es)) i_254_101 rfl ?_
      refine x0 (r := (105, [some (.ref 143), some (.int (zI dp)), some (.int (zI b)), some (.int (zI n)), some (.int (zI cd)), some (.int (zI mn)), some (.int (zI to)), some (.int (zI rk)), some (.int (zI 0)), none, none, none, none, none], [.int (zI 36), .int (zI cd), .int (zI v5)], es)) i_254_103 (by rfl) ?_
      refine x_idivn i_254_105 (by omega) (by unfold i32 iLO iHI; omega) (by unfold i32 iLO iHI; omega) (by omega) ?_
      refine x0 (r := (108, [some (.ref 143), some (.int (zI dp)), some (.int (zI b)), some (.int (zI n)), some (.int (zI cd)), some (.int (zI mn)), some (.int (zI to)), some (.int (zI rk)), some (.int (zI 0)), none, none, none, none, none], [.int (zI 6), .int (zI (cd / 36)), .int (zI v5)], es)) i_254_106 (by rfl) ?_
      refine x_iremn i_254_108 (by omega) (by unfold i32 iLO iHI; omega) (by unfold i32 iLO iHI; omega) (by omega) ?_
      by_cases c6 : v5 ≠ ((cd / 36) % 6)
      · refine x_cmpT i_254_109 (by unfold i32 iLO iHI; omega) (by unfold i32 iLO iHI; omega) rfl (by simp only [zC, cR]; omega) ?_
        refine x0 (r := (117, [some (.ref 143), some (.int (zI dp)), some (.int (zI b)), some (.int (zI n)), some (.int (zI cd)), some (.int (zI mn)), some (.int (zI to)), some (.int (zI rk)), some (.int (zI 0)), none, none, none, none, none], [.int (zI 0)], es)) i_254_116 (by rfl) ?_
        refine x0 (r := (119, [some (.ref 143), some (.int (zI dp)), some (.int (zI b)), some (.int (zI n)), some (.int (zI cd)), some (.int (zI mn)), some (.int (zI to)), some (.int (zI rk)), some (.int (zI 0)), some (.int (zI 0)), none, none, none, none], [], es)) i_254_117 rfl ?_
        refine x0 (r := (122, [some (.ref 143), some (.int (zI dp)), some (.int (zI b)), some (.int (zI n)), some (.int (zI cd)), some (.int (zI mn)), some (.int (zI to)), some (.int (zI rk)), some (.int (zI 0)), some (.int (zI 0)), none, none, none, none], [.int (zI 1000)], es)) i_254_119 (by rfl) ?_
        refine x0 (r := (124, [some (.ref 143), some (.int (zI dp)), some (.int (zI b)), some (.int (zI n)), some (.int (zI cd)), some (.int (zI mn)), some (.int (zI to)), some (.int (zI rk)), some (.int (zI 0)), some (.int (zI 0)), some (.int (zI 1000)), none, none, none], [], es)) i_254_122 rfl ?_
        refine x0 (r := (125, [some (.ref 143), some (.int (zI dp)), some (.int (zI b)), some (.int (zI n)), some (.int (zI cd)), some (.int (zI mn)), some (.int (zI to)), some (.int (zI rk)), some (.int (zI 0)), some (.int (zI 0)), some (.int (zI 1000)), none, none, none], [.int (zI 0)], es)) i_254_124 (by rfl) ?_
        refine x0 (r := (127, [some (.ref 143), some (.int (zI dp)), some (.int (zI b)), some (.int (zI n)), some (.int (zI cd)), some (.int (zI mn)), some (.int (zI to)), some (.int (zI rk)), some (.int (zI 0)), some (.int (zI 0)), some (.int (zI 1000)), some (.int (zI 0)), none, none], [], es)) i_254_125 rfl ?_
        refine x0 (r := (128, [some (.ref 143), some (.int (zI dp)), some (.int (zI b)), some (.int (zI n)), some (.int (zI cd)), some (.int (zI mn)), some (.int (zI to)), some (.int (zI rk)), some (.int (zI 0)), some (.int (zI 0)), some (.int (zI 1000)), some (.int (zI 0)), none, none], [.int (zI 0)], es)) i_254_127 (by rfl) ?_
        refine x0 (r := (130, [some (.ref 143), some (.int (zI dp)), some (.int (zI b)), some (.int (zI n)), some (.int (zI cd)), some (.int (zI mn)), some (.int (zI to)), some (.int (zI rk)), some (.int (zI 0)), some (.int (zI 0)), some (.int (zI 1000)), some (.int (zI 0)), some (.int (zI 0)), none], [], es)) i_254_128 rfl ?_
        exact K2 v1 e_v1 c2 v3 e_v3 c4 v5 e_v5 c6
      · refine x_cmpF i_254_109 (by unfold i32 iLO iHI; omega) (by unfold i32 iLO iHI; omega) rfl (by simp only [zC, cR]; omega) ?_
        refine x0 (r := (113, [some (.ref 143), some (.int (zI dp)), some (.int (zI b)), some (.int (zI n)), some (.int (zI cd)), some (.int (zI mn)), some (.int (zI to)), some (.int (zI rk)), some (.int (zI 0)), none, none, none, none, none], [.int (zI 1)], es)) i_254_112 (by rfl) ?_
        refine x0 (r := (117, [some (.ref 143), some (.int (zI dp)), some (.int (zI b)), some (.int (zI n)), some (.int (zI cd)), some (.int (zI mn)), some (.int (zI to)), some (.int (zI rk)), some (.int (zI 0)), none, none, none, none, none], [.int (zI 1)], es)) i_254_113 rfl ?_
        refine x0 (r := (119, [some (.ref 143), some (.int (zI dp)), some (.int (zI b)), some (.int (zI n)), some (.int (zI cd)), some (.int (zI mn)), some (.int (zI to)), some (.int (zI rk)), some (.int (zI 0)), some (.int (zI 1)), none, none, none, none], [], es)) i_254_117 rfl ?_
        refine x0 (r := (122, [some (.ref 143), some (.int (zI dp)), some (.int (zI b)), some (.int (zI n)), some (.int (zI cd)), some (.int (zI mn)), some (.int (zI to)), some (.int (zI rk)), some (.int (zI 0)), some (.int (zI 1)), none, none, none, none], [.int (zI 1000)], es)) i_254_119 (by rfl) ?_
        refine x0 (r := (124, [some (.ref 143), some (.int (zI dp)), some (.int (zI b)), some (.int (zI n)), some (.int (zI cd)), some (.int (zI mn)), some (.int (zI to)), some (.int (zI rk)), some (.int (zI 0)), some (.int (zI 1)), some (.int (zI 1000)), none, none, none], [], es)) i_254_122 rfl ?_
        refine x0 (r := (125, [some (.ref 143), some (.int (zI dp)), some (.int (zI b)), some (.int (zI n)), some (.int (zI cd)), some (.int (zI mn)), some (.int (zI to)), some (.int (zI rk)), some (.int (zI 0)), some (.int (zI 1)), some (.int (zI 1000)), none, none, none], [.int (zI 0)], es)) i_254_124 (by rfl) ?_
        refine x0 (r := (127, [some (.ref 143), some (.int (zI dp)), some (.int (zI b)), some (.int (zI n)), some (.int (zI cd)), some (.int (zI mn)), some (.int (zI to)), some (.int (zI rk)), some (.int (zI 0)), some (.int (zI 1)), some (.int (zI 1000)), some (.int (zI 0)), none, none], [], es)) i_254_125 rfl ?_
        refine x0 (r := (128, [some (.ref 143), some (.int (zI dp)), some (.int (zI b)), some (.int (zI n)), some (.int (zI cd)), some (.int (zI mn)), some (.int (zI to)), some (.int (zI rk)), some (.int (zI 0)), some (.int (zI 1)), some (.int (zI 1000)), some (.int (zI 0)), none, none], [.int (zI 0)], es)) i_254_127 (by rfl) ?_
        refine x0 (r := (130, [some (.ref 143), some (.int (zI dp)), some (.int (zI b)), some (.int (zI n)), some (.int (zI cd)), some (.int (zI mn)), some (.int (zI to)), some (.int (zI rk)), some (.int (zI 0)), some (.int (zI 1)), some (.int (zI 1000)), some (.int (zI 0)), some (.int (zI 0)), none], [], es)) i_254_128 rfl ?_
        exact K3 v1 e_v1 c2 v3 e_v3 c4 v5 e_v5 c6
  · refine x_cmpF i_254_74 (by unfold i32 iLO iHI; omega) (by unfold i32 iLO iHI; omega) rfl (by simp only [zC, cR]; omega) ?_
    refine x0 (r := (78, [some (.ref 143), some (.int (zI dp)), some (.int (zI b)), some (.int (zI n)), some (.int (zI cd)), some (.int (zI mn)), some (.int (zI to)), some (.int (zI rk)), none, none, none, none, none, none], [.int (zI 1)], es)) i_254_77 (by rfl) ?_
    refine x0 (r := (82, [some (.ref 143), some (.int (zI dp)), some (.int (zI b)), some (.int (zI n)), some (.int (zI cd)), some (.int (zI mn)), some (.int (zI to)), some (.int (zI rk)), none, none, none, none, none, none], [.int (zI 1)], es)) i_254_78 rfl ?_
    refine x0 (r := (84, [some (.ref 143), some (.int (zI dp)), some (.int (zI b)), some (.int (zI n)), some (.int (zI cd)), some (.int (zI mn)), some (.int (zI to)), some (.int (zI rk)), some (.int (zI 1)), none, none, none, none, none], [], es)) i_254_82 rfl ?_
    refine x0 (r := (85, [some (.ref 143), some (.int (zI dp)), some (.int (zI b)), some (.int (zI n)), some (.int (zI cd)), some (.int (zI mn)), some (.int (zI to)), some (.int (zI rk)), some (.int (zI 1)), none, none, none, none, none], [.ref 143], es)) i_254_84 rfl ?_
    refine x0 (r := (86, [some (.ref 143), some (.int (zI dp)), some (.int (zI b)), some (.int (zI n)), some (.int (zI cd)), some (.int (zI mn)), some (.int (zI to)), some (.int (zI rk)), some (.int (zI 1)), none, none, none, none, none], [.int (zI b), .ref 143], es)) i_254_85 rfl ?_
    refine x0 (r := (87, [some (.ref 143), some (.int (zI dp)), some (.int (zI b)), some (.int (zI n)), some (.int (zI cd)), some (.int (zI mn)), some (.int (zI to)), some (.int (zI rk)), some (.int (zI 1)), none, none, none, none, none], [.int (zI n), .int (zI b), .ref 143], es)) i_254_86 rfl ?_
    refine x0 (r := (88, [some (.ref 143), some (.int (zI dp)), some (.int (zI b)), some (.int (zI n)), some (.int (zI cd)), some (.int (zI mn)), some (.int (zI to)), some (.int (zI rk)), some (.int (zI 1)), none, none, none, none, none], [.int (zI 1), .int (zI n), .int (zI b), .ref 143], es)) i_254_87 (by rfl) ?_
    refine x_call (vs := [.ref 143, .int (zI b), .int (zI n), .int (zI 1)]) (rs := []) i_254_88 rfl (fun _ => rfl) rfl rfl rfl rfl rfl (pCall_v (p := 79) hs_es rfl rfl rfl rfl rfl (by decide) rfl rfl rfl rfl rfl) ?_
    show aW _ _ _ _ _ _ (0, [some (.ref 143), some (.int (zI b)), some (.int (zI n)), some (.int (zI 1))], [], es)
    refine x0 (r := (1, [some (.ref 143), some (.int (zI b)), some (.int (zI n)), some (.int (zI 1))], [.ref 143], es)) i_211_0 rfl ?_
    refine x0 (r := (2, [some (.ref 143), some (.int (zI b)), some (.int (zI n)), some (.int (zI 1))], [.int (zI b), .ref 143], es)) i_211_1 rfl ?_
    refine x0 (r := (3, [some (.ref 143), some (.int (zI b)), some (.int (zI n)), some (.int (zI 1))], [.int (zI 2), .int (zI b), .ref 143], es)) i_211_2 (by rfl) ?_
    refine x0 (r := (4, [some (.ref 143), some (.int (zI b)), some (.int (zI n)), some (.int (zI 1))], [.int (zI 4), .int (zI 2), .int (zI b), .ref 143], es)) i_211_3 (by rfl) ?_
    refine x0 (r := (5, [some (.ref 143), some (.int (zI b)), some (.int (zI n)), some (.int (zI 1))], [.int (zI n), .int (zI 4), .int (zI 2), .int (zI b), .ref 143], es)) i_211_4 rfl ?_
    refine x_imul i_211_5 ?_
    refine x_iadd i_211_6 ?_
    refine x0 (r := (8, [some (.ref 143), some (.int (zI b)), some (.int (zI n)), some (.int (zI 1))], [.int (zI 1), .int (zI (2 + (4 * n))), .int (zI b), .ref 143], es)) i_211_7 rfl ?_
    refine x_iadd i_211_8 ?_
    refine x_call (vs := [.ref 143, .int (zI b), .int (zI ((2 + (4 * n)) + 1))]) (rs := []) i_211_9 rfl (fun _ => rfl) rfl rfl rfl rfl rfl (pCall_v (p := 79) hs_es rfl rfl rfl rfl rfl (by decide) rfl rfl rfl rfl rfl) ?_
    show aW _ _ _ _ _ _ (0, [some (.ref 143), some (.int (zI b)), some (.int (zI ((2 + (4 * n)) + 1)))], [], es)
    refine x0 (r := (1, [some (.ref 143), some (.int (zI b)), some (.int (zI ((2 + (4 * n)) + 1)))], [.ref 143], es)) i_206_0 rfl ?_
    refine x_getr (p := 79) (k := 144) i_206_1 hs_es rfl rfl ?_
    show aW _ _ _ _ _ _ (4, [some (.ref 143), some (.int (zI b)), some (.int (zI ((2 + (4 * n)) + 1)))], [.ref 144], es)
    refine x0 (r := (6, [some (.ref 143), some (.int (zI b)), some (.int (zI ((2 + (4 * n)) + 1)))], [.int (zI 119), .ref 144], es)) i_206_4 (by rfl) ?_
    refine x0 (r := (8, [some (.ref 143), some (.int (zI b)), some (.int (zI ((2 + (4 * n)) + 1)))], [.int (zI 98), .int (zI 119), .ref 144], es)) i_206_6 (by rfl) ?_
    refine x0 (r := (9, [some (.ref 143), some (.int (zI b)), some (.int (zI ((2 + (4 * n)) + 1)))], [.int (zI b), .int (zI 98), .int (zI 119), .ref 144], es)) i_206_8 rfl ?_
    refine x_imul i_206_9 ?_
    refine x_iadd i_206_10 ?_
    refine x0 (r := (12, [some (.ref 143), some (.int (zI b)), some (.int (zI ((2 + (4 * n)) + 1)))], [.int (zI ((2 + (4 * n)) + 1)), .int (zI (119 + (98 * b))), .ref 144], es)) i_206_11 rfl ?_
    refine x_iadd i_206_12 ?_
    refine x_iald (p := 80) i_206_13 hs_es rfl (by unfold i32 iLO iHI; omega) (by omega) (by omega) ?_
    obtain ⟨v7, e_v7⟩ : ∃ z : Int, z = (gA es 80 ((119 + (98 * b)) + ((2 + (4 * n)) + 1)).toNat).toInt := ⟨_, rfl⟩
    rw [← e_v7]
    have r_v7 : iLO ≤ v7 ∧ v7 ≤ iHI := by rw [e_v7]; exact i32_rng _
    unfold iLO iHI at r_v7
    refine x_ret (v := some (.int (zI v7))) i_206_14 rfl (fun _ => rfl) rfl rfl rfl ?_
    show aW _ _ _ _ _ _ (12, [some (.ref 143), some (.int (zI b)), some (.int (zI n)), some (.int (zI 1))], [.int (zI v7)], es)
    refine x_ret (v := some (.int (zI v7))) i_211_12 rfl (fun _ => rfl) rfl rfl rfl ?_
    show aW _ _ _ _ _ _ (91, [some (.ref 143), some (.int (zI dp)), some (.int (zI b)), some (.int (zI n)), some (.int (zI cd)), some (.int (zI mn)), some (.int (zI to)), some (.int (zI rk)), some (.int (zI 1)), none, none, none, none, none], [.int (zI v7)], es)
    by_cases c8 : v7 < 0
    · refine x_ifT i_254_91 (by unfold i32 iLO iHI; omega) rfl (by simp only [zC, cR]; omega) ?_
      refine x0 (r := (113, [some (.ref 143), some (.int (zI dp)), some (.int (zI b)), some (.int (zI n)), some (.int (zI cd)), some (.int (zI mn)), some (.int (zI to)), some (.int (zI rk)), some (.int (zI 1)), none, none, none, none, none], [.int (zI 1)], es)) i_254_112 (by rfl) ?_
      refine x0 (r := (117, [some (.ref 143), some (.int (zI dp)), some (.int (zI b)), some (.int (zI n)), some (.int (zI cd)), some (.int (zI mn)), some (.int (zI to)), some (.int (zI rk)), some (.int (zI 1)), none, none, none, none, none], [.int (zI 1)], es)) i_254_113 rfl ?_
      refine x0 (r := (119, [some (.ref 143), some (.int (zI dp)), some (.int (zI b)), some (.int (zI n)), some (.int (zI cd)), some (.int (zI mn)), some (.int (zI to)), some (.int (zI rk)), some (.int (zI 1)), some (.int (zI 1)), none, none, none, none], [], es)) i_254_117 rfl ?_
      refine x0 (r := (122, [some (.ref 143), some (.int (zI dp)), some (.int (zI b)), some (.int (zI n)), some (.int (zI cd)), some (.int (zI mn)), some (.int (zI to)), some (.int (zI rk)), some (.int (zI 1)), some (.int (zI 1)), none, none, none, none], [.int (zI 1000)], es)) i_254_119 (by rfl) ?_
      refine x0 (r := (124, [some (.ref 143), some (.int (zI dp)), some (.int (zI b)), some (.int (zI n)), some (.int (zI cd)), some (.int (zI mn)), some (.int (zI to)), some (.int (zI rk)), some (.int (zI 1)), some (.int (zI 1)), some (.int (zI 1000)), none, none, none], [], es)) i_254_122 rfl ?_
      refine x0 (r := (125, [some (.ref 143), some (.int (zI dp)), some (.int (zI b)), some (.int (zI n)), some (.int (zI cd)), some (.int (zI mn)), some (.int (zI to)), some (.int (zI rk)), some (.int (zI 1)), some (.int (zI 1)), some (.int (zI 1000)), none, none, none], [.int (zI 0)], es)) i_254_124 (by rfl) ?_
      refine x0 (r := (127, [some (.ref 143), some (.int (zI dp)), some (.int (zI b)), some (.int (zI n)), some (.int (zI cd)), some (.int (zI mn)), some (.int (zI to)), some (.int (zI rk)), some (.int (zI 1)), some (.int (zI 1)), some (.int (zI 1000)), some (.int (zI 0)), none, none], [], es)) i_254_125 rfl ?_
      refine x0 (r := (128, [some (.ref 143), some (.int (zI dp)), some (.int (zI b)), some (.int (zI n)), some (.int (zI cd)), some (.int (zI mn)), some (.int (zI to)), some (.int (zI rk)), some (.int (zI 1)), some (.int (zI 1)), some (.int (zI 1000)), some (.int (zI 0)), none, none], [.int (zI 0)], es)) i_254_127 (by rfl) ?_
      refine x0 (r := (130, [some (.ref 143), some (.int (zI dp)), some (.int (zI b)), some (.int (zI n)), some (.int (zI cd)), some (.int (zI mn)), some (.int (zI to)), some (.int (zI rk)), some (.int (zI 1)), some (.int (zI 1)), some (.int (zI 1000)), some (.int (zI 0)), some (.int (zI 0)), none], [], es)) i_254_128 rfl ?_
      exact K4 v1 e_v1 c2 v7 e_v7 c8
    · refine x_ifF i_254_91 (by unfold i32 iLO iHI; omega) rfl (by simp only [zC, cR]; omega) ?_
      refine x0 (r := (95, [some (.ref 143), some (.int (zI dp)), some (.int (zI b)), some (.int (zI n)), some (.int (zI cd)), some (.int (zI mn)), some (.int (zI to)), some (.int (zI rk)), some (.int (zI 1)), none, none, none, none, none], [.ref 143], es)) i_254_94 rfl ?_
      refine x0 (r := (96, [some (.ref 143), some (.int (zI dp)), some (.int (zI b)), some (.int (zI n)), some (.int (zI cd)), some (.int (zI mn)), some (.int (zI to)), some (.int (zI rk)), some (.int (zI 1)), none, none, none, none, none], [.int (zI b), .ref 143], es)) i_254_95 rfl ?_
      refine x0 (r := (97, [some (.ref 143), some (.int (zI dp)), some (.int (zI b)), some (.int (zI n)), some (.int (zI cd)), some (.int (zI mn)), some (.int (zI to)), some (.int (zI rk)), some (.int (zI 1)), none, none, none, none, none], [.int (zI n), .int (zI b), .ref 143], es)) i_254_96 rfl ?_
      refine x0 (r := (98, [some (.ref 143), some (.int (zI dp)), some (.int (zI b)), some (.int (zI n)), some (.int (zI cd)), some (.int (zI mn)), some (.int (zI to)), some (.int (zI rk)), some (.int (zI 1)), none, none, none, none, none], [.int (zI 1), .int (zI n), .int (zI b), .ref 143], es)) i_254_97 (by rfl) ?_
      refine x_call (vs := [.ref 143, .int (zI b), .int (zI n), .int (zI 1)]) (rs := []) i_254_98 rfl (fun _ => rfl) rfl rfl rfl rfl rfl (pCall_v (p := 79) hs_es rfl rfl rfl rfl rfl (by decide) rfl rfl rfl rfl rfl) ?_
      show aW _ _ _ _ _ _ (0, [some (.ref 143), some (.int (zI b)), some (.int (zI n)), some (.int (zI 1))], [], es)
      refine x0 (r := (1, [some (.ref 143), some (.int (zI b)), some (.int (zI n)), some (.int (zI 1))], [.ref 143], es)) i_211_0 rfl ?_
      refine x0 (r := (2, [some (.ref 143), some (.int (zI b)), some (.int (zI n)), some (.int (zI 1))], [.int (zI b), .ref 143], es)) i_211_1 rfl ?_
      refine x0 (r := (3, [some (.ref 143), some (.int (zI b)), some (.int (zI n)), some (.int (zI 1))], [.int (zI 2), .int (zI b), .ref 143], es)) i_211_2 (by rfl) ?_
      refine x0 (r := (4, [some (.ref 143), some (.int (zI b)), some (.int (zI n)), some (.int (zI 1))], [.int (zI 4), .int (zI 2), .int (zI b), .ref 143], es)) i_211_3 (by rfl) ?_
      refine x0 (r := (5, [some (.ref 143), some (.int (zI b)), some (.int (zI n)), some (.int (zI 1))], [.int (zI n), .int (zI 4), .int (zI 2), .int (zI b), .ref 143], es)) i_211_4 rfl ?_
      refine x_imul i_211_5 ?_
      refine x_iadd i_211_6 ?_
      refine x0 (r := (8, [some (.ref 143), some (.int (zI b)), some (.int (zI n)), some (.int (zI 1))], [.int (zI 1), .int (zI (2 + (4 * n))), .int (zI b), .ref 143], es)) i_211_7 rfl ?_
      refine x_iadd i_211_8 ?_
      refine x_call (vs := [.ref 143, .int (zI b), .int (zI ((2 + (4 * n)) + 1))]) (rs := []) i_211_9 rfl (fun _ => rfl) rfl rfl rfl rfl rfl (pCall_v (p := 79) hs_es rfl rfl rfl rfl rfl (by decide) rfl rfl rfl rfl rfl) ?_
      show aW _ _ _ _ _ _ (0, [some (.ref 143), some (.int (zI b)), some (.int (zI ((2 + (4 * n)) + 1)))], [], es)
      refine x0 (r := (1, [some (.ref 143), some (.int (zI b)), some (.int (zI ((2 + (4 * n)) + 1)))], [.ref 143], es)) i_206_0 rfl ?_
      refine x_getr (p := 79) (k := 144) i_206_1 hs_es rfl rfl ?_
      show aW _ _ _ _ _ _ (4, [some (.ref 143), some (.int (zI b)), some (.int (zI ((2 + (4 * n)) + 1)))], [.ref 144], es)
      refine x0 (r := (6, [some (.ref 143), some (.int (zI b)), some (.int (zI ((2 + (4 * n)) + 1)))], [.int (zI 119), .ref 144], es)) i_206_4 (by rfl) ?_
      refine x0 (r := (8, [some (.ref 143), some (.int (zI b)), some (.int (zI ((2 + (4 * n)) + 1)))], [.int (zI 98), .int (zI 119), .ref 144], es)) i_206_6 (by rfl) ?_
      refine x0 (r := (9, [some (.ref 143), some (.int (zI b)), some (.int (zI ((2 + (4 * n)) + 1)))], [.int (zI b), .int (zI 98), .int (zI 119), .ref 144], es)) i_206_8 rfl ?_
      refine x_imul i_206_9 ?_
      refine x_iadd i_206_10 ?_
      refine x0 (r := (12, [some (.ref 143), some (.int (zI b)), some (.int (zI ((2 + (4 * n)) + 1)))], [.int (zI ((2 + (4 * n)) + 1)), .int (zI (119 + (98 * b))), .ref 144], es)) i_206_11 rfl ?_
      refine x_iadd i_206_12 ?_
      refine x_iald (p := 80) i_206_13 hs_es rfl (by unfold i32 iLO iHI; omega) (by omega) (by omega) ?_
      obtain ⟨v9, e_v9⟩ : ∃ z : Int, z = (gA es 80 ((119 + (98 * b)) + ((2 + (4 * n)) + 1)).toNat).toInt := ⟨_, rfl⟩
      rw [← e_v9]
      have r_v9 : iLO ≤ v9 ∧ v9 ≤ iHI := by rw [e_v9]; exact i32_rng _
      unfold iLO iHI at r_v9
      refine x_ret (v := some (.int (zI v9))) i_206_14 rfl (fun _ => rfl) rfl rfl rfl ?_
      show aW _ _ _ _ _ _ (12, [some (.ref 143), some (.int (zI b)), some (.int (zI n)), some (.int (zI 1))], [.int (zI v9)], es)
      refine x_ret (v := some (.int (zI v9))) i_211_12 rfl (fun _ => rfl) rfl rfl rfl ?_
      show aW _ _ _ _ _ _ (101, [some (.ref 143), some (.int (zI dp)), some (.int (zI b)), some (.int (zI n)), some (.int (zI cd)), some (.int (zI mn)), some (.int (zI to)), some (.int (zI rk)), some (.int (zI 1)), none, none, none, none, none], [.int (zI v9)], es)
      refine x0 (r := (103, [some (.ref 143), some (.int (zI dp)), some (.int (zI b)), some (.int (zI n)), some (.int (zI cd)), some (.int (zI mn)), some (.int (zI to)), some (.int (zI rk)), some (.int (zI 1)), none, none, none, none, none], [.int (zI cd), .int (zI v9)], es)) i_254_101 rfl ?_
      refine x0 (r := (105, [some (.ref 143), some (.int (zI dp)), some (.int (zI b)), some (.int (zI n)), some (.int (zI cd)), some (.int (zI mn)), some (.int (zI to)), some (.int (zI rk)), some (.int (zI 1)), none, none, none, none, none], [.int (zI 36), .int (zI cd), .int (zI v9)], es)) i_254_103 (by rfl) ?_
      refine x_idivn i_254_105 (by omega) (by unfold i32 iLO iHI; omega) (by unfold i32 iLO iHI; omega) (by omega) ?_
      refine x0 (r := (108, [some (.ref 143), some (.int (zI dp)), some (.int (zI b)), some (.int (zI n)), some (.int (zI cd)), some (.int (zI mn)), some (.int (zI to)), some (.int (zI rk)), some (.int (zI 1)), none, none, none, none, none], [.int (zI 6), .int (zI (cd / 36)), .int (zI v9)], es)) i_254_106 (by rfl) ?_
      refine x_iremn i_254_108 (by omega) (by unfold i32 iLO iHI; omega) (by unfold i32 iLO iHI; omega) (by omega) ?_
      by_cases c10 : v9 ≠ ((cd / 36) % 6)
      · refine x_cmpT i_254_109 (by unfold i32 iLO iHI; omega) (by unfold i32 iLO iHI; omega) rfl (by simp only [zC, cR]; omega) ?_
        refine x0 (r := (117, [some (.ref 143), some (.int (zI dp)), some (.int (zI b)), some (.int (zI n)), some (.int (zI cd)), some (.int (zI mn)), some (.int (zI to)), some (.int (zI rk)), some (.int (zI 1)), none, none, none, none, none], [.int (zI 0)], es)) i_254_116 (by rfl) ?_
        refine x0 (r := (119, [some (.ref 143), some (.int (zI dp)), some (.int (zI b)), some (.int (zI n)), some (.int (zI cd)), some (.int (zI mn)), some (.int (zI to)), some (.int (zI rk)), some (.int (zI 1)), some (.int (zI 0)), none, none, none, none], [], es)) i_254_117 rfl ?_
        refine x0 (r := (122, [some (.ref 143), some (.int (zI dp)), some (.int (zI b)), some (.int (zI n)), some (.int (zI cd)), some (.int (zI mn)), some (.int (zI to)), some (.int (zI rk)), some (.int (zI 1)), some (.int (zI 0)), none, none, none, none], [.int (zI 1000)], es)) i_254_119 (by rfl) ?_
        refine x0 (r := (124, [some (.ref 143), some (.int (zI dp)), some (.int (zI b)), some (.int (zI n)), some (.int (zI cd)), some (.int (zI mn)), some (.int (zI to)), some (.int (zI rk)), some (.int (zI 1)), some (.int (zI 0)), some (.int (zI 1000)), none, none, none], [], es)) i_254_122 rfl ?_
        refine x0 (r := (125, [some (.ref 143), some (.int (zI dp)), some (.int (zI b)), some (.int (zI n)), some (.int (zI cd)), some (.int (zI mn)), some (.int (zI to)), some (.int (zI rk)), some (.int (zI 1)), some (.int (zI 0)), some (.int (zI 1000)), none, none, none], [.int (zI 0)], es)) i_254_124 (by rfl) ?_
        refine x0 (r := (127, [some (.ref 143), some (.int (zI dp)), some (.int (zI b)), some (.int (zI n)), some (.int (zI cd)), some (.int (zI mn)), some (.int (zI to)), some (.int (zI rk)), some (.int (zI 1)), some (.int (zI 0)), some (.int (zI 1000)), some (.int (zI 0)), none, none], [], es)) i_254_125 rfl ?_
        refine x0 (r := (128, [some (.ref 143), some (.int (zI dp)), some (.int (zI b)), some (.int (zI n)), some (.int (zI cd)), some (.int (zI mn)), some (.int (zI to)), some (.int (zI rk)), some (.int (zI 1)), some (.int (zI 0)), some (.int (zI 1000)), some (.int (zI 0)), none, none], [.int (zI 0)], es)) i_254_127 (by rfl) ?_
        refine x0 (r := (130, [some (.ref 143), some (.int (zI dp)), some (.int (zI b)), some (.int (zI n)), some (.int (zI cd)), some (.int (zI mn)), some (.int (zI to)), some (.int (zI rk)), some (.int (zI 1)), some (.int (zI 0)), some (.int (zI 1000)), some (.int (zI 0)), some (.int (zI 0)), none], [], es)) i_254_128 rfl ?_
        exact K5 v1 e_v1 c2 v7 e_v7 c8 v9 e_v9 c10
      · refine x_cmpF i_254_109 (by unfold i32 iLO iHI; omega) (by unfold i32 iLO iHI; omega) rfl (by simp only [zC, cR]; omega) ?_
        refine x0 (r := (113, [some (.ref 143), some (.int (zI dp)), some (.int (zI b)), some (.int (zI n)), some (.int (zI cd)), some (.int (zI mn)), some (.int (zI to)), some (.int (zI rk)), some (.int (zI 1)), none, none, none, none, none], [.int (zI 1)], es)) i_254_112 (by rfl) ?_
        refine x0 (r := (117, [some (.ref 143), some (.int (zI dp)), some (.int (zI b)), some (.int (zI n)), some (.int (zI cd)), some (.int (zI mn)), some (.int (zI to)), some (.int (zI rk)), some (.int (zI 1)), none, none, none, none, none], [.int (zI 1)], es)) i_254_113 rfl ?_
        refine x0 (r := (119, [some (.ref 143), some (.int (zI dp)), some (.int (zI b)), some (.int (zI n)), some (.int (zI cd)), some (.int (zI mn)), some (.int (zI to)), some (.int (zI rk)), some (.int (zI 1)), some (.int (zI 1)), none, none, none, none], [], es)) i_254_117 rfl ?_
        refine x0 (r := (122, [some (.ref 143), some (.int (zI dp)), some (.int (zI b)), some (.int (zI n)), some (.int (zI cd)), some (.int (zI mn)), some (.int (zI to)), some (.int (zI rk)), some (.int (zI 1)), some (.int (zI 1)), none, none, none, none], [.int (zI 1000)], es)) i_254_119 (by rfl) ?_
        refine x0 (r := (124, [some (.ref 143), some (.int (zI dp)), some (.int (zI b)), some (.int (zI n)), some (.int (zI cd)), some (.int (zI mn)), some (.int (zI to)), some (.int (zI rk)), some (.int (zI 1)), some (.int (zI 1)), some (.int (zI 1000)), none, none, none], [], es)) i_254_122 rfl ?_
        refine x0 (r := (125, [some (.ref 143), some (.int (zI dp)), some (.int (zI b)), some (.int (zI n)), some (.int (zI cd)), some (.int (zI mn)), some (.int (zI to)), some (.int (zI rk)), some (.int (zI 1)), some (.int (zI 1)), some (.int (zI 1000)), none, none, none], [.int (zI 0)], es)) i_254_124 (by rfl) ?_
        refine x0 (r := (127, [some (.ref 143), some (.int (zI dp)), some (.int (zI b)), some (.int (zI n)), some (.int (zI cd)), some (.int (zI mn)), some (.int (zI to)), some (.int (zI rk)), some (.int (zI 1)), some (.int (zI 1)), some (.int (zI 1000)), some (.int (zI 0)), none, none], [], es)) i_254_125 rfl ?_
        refine x0 (r := (128, [some (.ref 143), some (.int (zI dp)), some (.int (zI b)), some (.int (zI n)), some (.int (zI cd)), some (.int (zI mn)), some (.int (zI to)), some (.int (zI rk)), some (.int (zI 1)), some (.int (zI 1)), some (.int (zI 1000)), some (.int (zI 0)), none, none], [.int (zI 0)], es)) i_254_127 (by rfl) ?_
        refine x0 (r := (130, [some (.ref 143), some (.int (zI dp)), some (.int (zI b)), some (.int (zI n)), some (.int (zI cd)), some (.int (zI mn)), some (.int (zI to)), some (.int (zI rk)), some (.int (zI 1)), some (.int (zI 1)), some (.int (zI 1000)), some (.int (zI 0)), some (.int (zI 0)), none], [], es)) i_254_128 rfl ?_
        exact K6 v1 e_v1 c2 v7 e_v7 c8 v9 e_v9 c10

theorem s_tw0 {O : pOut} {d kc ks : Nat} {Q : pRes → Prop} {es : PH} {b n : Int} (hs_es : sh es) (hb : 0 ≤ b ∧ b ≤ 2) (hn : 0 ≤ n ∧ n ≤ 23) (hT_es : hOK tT es)
    (K1 : n ≤ 0 → aW O d 242 kc ks Q (23, [some (.ref 143), some (.int (zI b)), some (.int (zI n)), some (.int (zI 0)), some (.int (zI 0))], [], es))
    (K2 : ¬ (n ≤ 0) → ∀ v2 : Int, v2 = (gA es 90 (Int.toNat 7)).toInt → v2 ≤ 0 → aW O d 242 kc ks Q (23, [some (.ref 143), some (.int (zI b)), some (.int (zI n)), some (.int (zI 0)), some (.int (zI 0))], [], es))
    (K3 : ¬ (n ≤ 0) → ∀ v2 : Int, v2 = (gA es 90 (Int.toNat 7)).toInt → ¬ (v2 ≤ 0) → aW O d 242 kc ks Q (23, [some (.ref 143), some (.int (zI b)), some (.int (zI n)), some (.int (zI 1)), some (.int (zI 0))], [], es)) :
    aW O d 242 kc ks Q (0, [some (.ref 143), some (.int (zI b)), some (.int (zI n)), none, none], [], es) := by
  refine x0 (r := (1, [some (.ref 143), some (.int (zI b)), some (.int (zI n)), none, none], [.int (zI n)], es)) i_242_0 rfl ?_
  by_cases c1 : n ≤ 0
  · refine x_ifT i_242_1 (by unfold i32 iLO iHI; omega) rfl (by simp only [zC, cR]; omega) ?_
    refine x0 (r := (19, [some (.ref 143), some (.int (zI b)), some (.int (zI n)), none, none], [.int (zI 0)], es)) i_242_18 (by rfl) ?_
    refine x0 (r := (20, [some (.ref 143), some (.int (zI b)), some (.int (zI n)), some (.int (zI 0)), none], [], es)) i_242_19 rfl ?_
    refine x0 (r := (21, [some (.ref 143), some (.int (zI b)), some (.int (zI n)), some (.int (zI 0)), none], [.int (zI 0)], es)) i_242_20 (by rfl) ?_
    refine x0 (r := (23, [some (.ref 143), some (.int (zI b)), some (.int (zI n)), some (.int (zI 0)), some (.int (zI 0))], [], es)) i_242_21 rfl ?_
    exact K1 c1
  · refine x_ifF i_242_1 (by unfold i32 iLO iHI; omega) rfl (by simp only [zC, cR]; omega) ?_
    refine x0 (r := (5, [some (.ref 143), some (.int (zI b)), some (.int (zI n)), none, none], [.ref 143], es)) i_242_4 rfl ?_
    refine x_getr (p := 79) (k := 154) i_242_5 hs_es rfl rfl ?_
    show aW _ _ _ _ _ _ (8, [some (.ref 143), some (.int (zI b)), some (.int (zI n)), none, none], [.ref 154], es)
    refine x0 (r := (10, [some (.ref 143), some (.int (zI b)), some (.int (zI n)), none, none], [.int (zI 7), .ref 154], es)) i_242_8 (by rfl) ?_
    refine x_iald (p := 90) i_242_10 hs_es rfl (by unfold i32 iLO iHI; omega) (by omega) (by omega) ?_
    obtain ⟨v2, e_v2⟩ : ∃ z : Int, z = (gA es 90 (Int.toNat 7)).toInt := ⟨_, rfl⟩
    rw [← e_v2]
    have r_v2 : iLO ≤ v2 ∧ v2 ≤ iHI := by rw [e_v2]; exact i32_rng _
    unfold iLO iHI at r_v2
    have b_v2 : (0 : Int) ≤ v2 ∧ v2 ≤ (9 : Int) := by rw [e_v2]; exact gA_bd hT_es (p := 90) (k := (Int.toNat 7)) rfl (by omega) (by decide)
    by_cases c3 : v2 ≤ 0
    · refine x_ifT i_242_11 (by unfold i32 iLO iHI; omega) rfl (by simp only [zC, cR]; omega) ?_
      refine x0 (r := (19, [some (.ref 143), some (.int (zI b)), some (.int (zI n)), none, none], [.int (zI 0)], es)) i_242_18 (by rfl) ?_
      refine x0 (r := (20, [some (.ref 143), some (.int (zI b)), some (.int (zI n)), some (.int (zI 0)), none], [], es)) i_242_19 rfl ?_
      refine x0 (r := (21, [some (.ref 143), some (.int (zI b)), some (.int (zI n)), some (.int (zI 0)), none], [.int (zI 0)], es)) i_242_20 (by rfl) ?_
      refine x0 (r := (23, [some (.ref 143), some (.int (zI b)), some (.int (zI n)), some (.int (zI 0)), some (.int (zI 0))], [], es)) i_242_21 rfl ?_
      exact K2 c1 v2 e_v2 c3
    · refine x_ifF i_242_11 (by unfold i32 iLO iHI; omega) rfl (by simp only [zC, cR]; omega) ?_
      refine x0 (r := (15, [some (.ref 143), some (.int (zI b)), some (.int (zI n)), none, none], [.int (zI 1)], es)) i_242_14 (by rfl) ?_
      refine x0 (r := (19, [some (.ref 143), some (.int (zI b)), some (.int (zI n)), none, none], [.int (zI 1)], es)) i_242_15 rfl ?_
      refine x0 (r := (20, [some (.ref 143), some (.int (zI b)), some (.int (zI n)), some (.int (zI 1)), none], [], es)) i_242_19 rfl ?_
      refine x0 (r := (21, [some (.ref 143), some (.int (zI b)), some (.int (zI n)), some (.int (zI 1)), none], [.int (zI 0)], es)) i_242_20 (by rfl) ?_
      refine x0 (r := (23, [some (.ref 143), some (.int (zI b)), some (.int (zI n)), some (.int (zI 1)), some (.int (zI 0))], [], es)) i_242_21 rfl ?_
      exact K3 c1 v2 e_v2 c3

theorem s_tw23 {O : pOut} {d kc ks : Nat} {Q : pRes → Prop} {es : PH} {b n f k : Int} (hs_es : sh es) (hb : 0 ≤ b ∧ b ≤ 2) (hn : 0 ≤ n ∧ n ≤ 23) (hf : 0 ≤ f ∧ f ≤ 1) (hk : 0 ≤ k ∧ k ≤ 4) (hp : f = 0 ∨ 1 ≤ n) (hT_es : hOK tT es)
    (K1 : 4 ≤ k → Q (.inl (some (.int (zI f))), es, kc, ks))
    (K2 : ¬ (4 ≤ k) → f = 0 → Q (.inl (some (.int (zI f))), es, kc, ks))
    (K3 : ¬ (4 ≤ k) → ¬ (f = 0) → ∀ v3 : Int, v3 = (gA es 80 ((119 + (98 * b)) + ((2 + (4 * n)) + k)).toNat).toInt → ∀ v4 : Int, v4 = (gA es 80 ((119 + (98 * b)) + ((2 + (4 * (n - 1))) + k)).toNat).toInt → v3 ≠ v4 → aW O (d + 2) 242 kc ks Q (23, [some (.ref 143), some (.int (zI b)), some (.int (zI n)), some (.int (zI 0)), some (.int (zI (k + 1)))], [], es))
    (K4 : ¬ (4 ≤ k) → ¬ (f = 0) → ∀ v3 : Int, v3 = (gA es 80 ((119 + (98 * b)) + ((2 + (4 * n)) + k)).toNat).toInt → ∀ v4 : Int, v4 = (gA es 80 ((119 + (98 * b)) + ((2 + (4 * (n - 1))) + k)).toNat).toInt → ¬ (v3 ≠ v4) → aW O (d + 2) 242 kc ks Q (23, [some (.ref 143), some (.int (zI b)), some (.int (zI n)), some (.int (zI 1)), some (.int (zI (k + 1)))], [], es)) :
    aW O (d + 2) 242 kc ks Q (23, [some (.ref 143), some (.int (zI b)), some (.int (zI n)), some (.int (zI f)), some (.int (zI k))], [], es) := by
  refine x0 (r := (25, [some (.ref 143), some (.int (zI b)), some (.int (zI n)), some (.int (zI f)), some (.int (zI k))], [.int (zI k)], es)) i_242_23 rfl ?_
  refine x0 (r := (26, [some (.ref 143), some (.int (zI b)), some (.int (zI n)), some (.int (zI f)), some (.int (zI k))], [.int (zI 4), .int (zI k)], es)) i_242_25 (by rfl) ?_
  by_cases c1 : 4 ≤ k
  · refine x_cmpT i_242_26 (by unfold i32 iLO iHI; omega) (by unfold i32 iLO iHI; omega) rfl (by simp only [zC, cR]; omega) ?_
    refine x0 (r := (67, [some (.ref 143), some (.int (zI b)), some (.int (zI n)), some (.int (zI f)), some (.int (zI k))], [.int (zI f)], es)) i_242_66 rfl ?_
    refine x_ret (v := some (.int (zI f))) i_242_67 rfl (fun _ => rfl) rfl rfl (pFin_b (by omega)) ?_
    exact K1 c1
  · refine x_cmpF i_242_26 (by unfold i32 iLO iHI; omega) (by unfold i32 iLO iHI; omega) rfl (by simp only [zC, cR]; omega) ?_
    refine x0 (r := (30, [some (.ref 143), some (.int (zI b)), some (.int (zI n)), some (.int (zI f)), some (.int (zI k))], [.int (zI f)], es)) i_242_29 rfl ?_
    by_cases c2 : f = 0
    · refine x_ifT i_242_30 (by unfold i32 iLO iHI; omega) rfl (by simp only [zC, cR]; omega) ?_
      refine x0 (r := (67, [some (.ref 143), some (.int (zI b)), some (.int (zI n)), some (.int (zI f)), some (.int (zI k))], [.int (zI f)], es)) i_242_66 rfl ?_
      refine x_ret (v := some (.int (zI f))) i_242_67 rfl (fun _ => rfl) rfl rfl (pFin_b (by omega)) ?_
      exact K2 c1 c2
    · refine x_ifF i_242_30 (by unfold i32 iLO iHI; omega) rfl (by simp only [zC, cR]; omega) ?_
      refine x0 (r := (34, [some (.ref 143), some (.int (zI b)), some (.int (zI n)), some (.int (zI f)), some (.int (zI k))], [.ref 143], es)) i_242_33 rfl ?_
      refine x0 (r := (35, [some (.ref 143), some (.int (zI b)), some (.int (zI n)), some (.int (zI f)), some (.int (zI k))], [.int (zI b), .ref 143], es)) i_242_34 rfl ?_
      refine x0 (r := (36, [some (.ref 143), some (.int (zI b)), some (.int (zI n)), some (.int (zI f)), some (.int (zI k))], [.int (zI n), .int (zI b), .ref 143], es)) i_242_35 rfl ?_
      refine x0 (r := (38, [some (.ref 143), some (.int (zI b)), some (.int (zI n)), some (.int (zI f)), some (.int (zI k))], [.int (zI k), .int (zI n), .int (zI b), .ref 143], es)) i_242_36 rfl ?_
      refine x_call (vs := [.ref 143, .int (zI b), .int (zI n), .int (zI k)]) (rs := []) i_242_38 rfl (fun _ => rfl) rfl rfl rfl rfl rfl (pCall_v (p := 79) hs_es rfl rfl rfl rfl rfl (by decide) rfl rfl rfl rfl rfl) ?_
      show aW _ _ _ _ _ _ (0, [some (.ref 143), some (.int (zI b)), some (.int (zI n)), some (.int (zI k))], [], es)
      refine x0 (r := (1, [some (.ref 143), some (.int (zI b)), some (.int (zI n)), some (.int (zI k))], [.ref 143], es)) i_211_0 rfl ?_
      refine x0 (r := (2, [some (.ref 143), some (.int (zI b)), some (.int (zI n)), some (.int (zI k))], [.int (zI b), .ref 143], es)) i_211_1 rfl ?_
      refine x0 (r := (3, [some (.ref 143), some (.int (zI b)), some (.int (zI n)), some (.int (zI k))], [.int (zI 2), .int (zI b), .ref 143], es)) i_211_2 (by rfl) ?_
      refine x0 (r := (4, [some (.ref 143), some (.int (zI b)), some (.int (zI n)), some (.int (zI k))], [.int (zI 4), .int (zI 2), .int (zI b), .ref 143], es)) i_211_3 (by rfl) ?_
      refine x0 (r := (5, [some (.ref 143), some (.int (zI b)), some (.int (zI n)), some (.int (zI k))], [.int (zI n), .int (zI 4), .int (zI 2), .int (zI b), .ref 143], es)) i_211_4 rfl ?_
      refine x_imul i_211_5 ?_
      refine x_iadd i_211_6 ?_
      refine x0 (r := (8, [some (.ref 143), some (.int (zI b)), some (.int (zI n)), some (.int (zI k))], [.int (zI k), .int (zI (2 + (4 * n))), .int (zI b), .ref 143], es)) i_211_7 rfl ?_
      refine x_iadd i_211_8 ?_
      refine x_call (vs := [.ref 143, .int (zI b), .int (zI ((2 + (4 * n)) + k))]) (rs := []) i_211_9 rfl (fun _ => rfl) rfl rfl rfl rfl rfl (pCall_v (p := 79) hs_es rfl rfl rfl rfl rfl (by decide) rfl rfl rfl rfl rfl) ?_
      show aW _ _ _ _ _ _ (0, [some (.ref 143), some (.int (zI b)), some (.int (zI ((2 + (4 * n)) + k)))], [], es)
      refine x0 (r := (1, [some (.ref 143), some (.int (zI b)), some (.int (zI ((2 + (4 * n)) + k)))], [.ref 143], es)) i_206_0 rfl ?_
      refine x_getr (p := 79) (k := 144) i_206_1 hs_es rfl rfl ?_
      show aW _ _ _ _ _ _ (4, [some (.ref 143), some (.int (zI b)), some (.int (zI ((2 + (4 * n)) + k)))], [.ref 144], es)
      refine x0 (r := (6, [some (.ref 143), some (.int (zI b)), some (.int (zI ((2 + (4 * n)) + k)))], [.int (zI 119), .ref 144], es)) i_206_4 (by rfl) ?_
      refine x0 (r := (8, [some (.ref 143), some (.int (zI b)), some (.int (zI ((2 + (4 * n)) + k)))], [.int (zI 98), .int (zI 119), .ref 144], es)) i_206_6 (by rfl) ?_
      refine x0 (r := (9, [some (.ref 143), some (.int (zI b)), some (.int (zI ((2 + (4 * n)) + k)))], [.int (zI b), .int (zI 98), .int (zI 119), .ref 144], es)) i_206_8 rfl ?_
      refine x_imul i_206_9 ?_
      refine x_iadd i_206_10 ?_
      refine x0 (r := (12, [some (.ref 143), some (.int (zI b)), some (.int (zI ((2 + (4 * n)) + k)))], [.int (zI ((2 + (4 * n)) + k)), .int (zI (119 + (98 * b))), .ref 144], es)) i_206_11 rfl ?_
      refine x_iadd i_206_12 ?_
      refine x_iald (p := 80) i_206_13 hs_es rfl (by unfold i32 iLO iHI; omega) (by omega) (by omega) ?_
      obtain ⟨v3, e_v3⟩ : ∃ z : Int, z = (gA es 80 ((119 + (98 * b)) + ((2 + (4 * n)) + k)).toNat).toInt := ⟨_, rfl⟩
      rw [← e_v3]
      have r_v3 : iLO ≤ v3 ∧ v3 ≤ iHI := by rw [e_v3]; exact i32_rng _
      unfold iLO iHI at r_v3
      refine x_ret (v := some (.int (zI v3))) i_206_14 rfl (fun _ => rfl) rfl rfl rfl ?_
      show aW _ _ _ _ _ _ (12, [some (.ref 143), some (.int (zI b)), some (.int (zI n)), some (.int (zI k))], [.int (zI v3)], es)
      refine x_ret (v := some (.int (zI v3))) i_211_12 rfl (fun _ => rfl) rfl rfl rfl ?_
      show aW _ _ _ _ _ _ (41, [some (.ref 143), some (.int (zI b)), some (.int (zI n)), some (.int (zI f)), some (.int (zI k))], [.int (zI v3)], es)
      refine x0 (r := (42, [some (.ref 143), some (.int (zI b)), some (.int (zI n)), some (.int (zI f)), some (.int (zI k))], [.ref 143, .int (zI v3)], es)) i_242_41 rfl ?_
      refine x0 (r := (43, [some (.ref 143), some (.int (zI b)), some (.int (zI n)), some (.int (zI f)), some (.int (zI k))], [.int (zI b), .ref 143, .int (zI v3)], es)) i_242_42 rfl ?_
      refine x0 (r := (44, [some (.ref 143), some (.int (zI b)), some (.int (zI n)), some (.int (zI f)), some (.int (zI k))], [.int (zI n), .int (zI b), .ref 143, .int (zI v3)], es)) i_242_43 rfl ?_
      refine x0 (r := (45, [some (.ref 143), some (.int (zI b)), some (.int (zI n)), some (.int (zI f)), some (.int (zI k))], [.int (zI 1), .int (zI n), .int (zI b), .ref 143, .int (zI v3)], es)) i_242_44 (by rfl) ?_
      refine x_isub i_242_45 ?_
      refine x0 (r := (48, [some (.ref 143), some (.int (zI b)), some (.int (zI n)), some (.int (zI f)), some (.int (zI k))], [.int (zI k), .int (zI (n - 1)), .int (zI b), .ref 143, .int (zI v3)], es)) i_242_46 rfl ?_
      refine x_call (vs := [.ref 143, .int (zI b), .int (zI (n - 1)), .int (zI k)]) (rs := [.int (zI v3)]) i_242_48 rfl (fun _ => rfl) rfl rfl rfl rfl rfl (pCall_v (p := 79) hs_es rfl rfl rfl rfl rfl (by decide) rfl rfl rfl rfl rfl) ?_
      show aW _ _ _ _ _ _ (0, [some (.ref 143), some (.int (zI b)), some (.int (zI (n - 1))), some (.int (zI k))], [], es)
      refine x0 (r := (1, [some (.ref 143), some (.int (zI b)), some (.int (zI (n - 1))), some (.int (zI k))], [.ref 143], es)) i_211_0 rfl ?_
      refine x0 (r := (2, [some (.ref 143), some (.int (zI b)), some (.int (zI (n - 1))), some (.int (zI k))], [.int (zI b), .ref 143], es)) i_211_1 rfl ?_
      refine x0 (r := (3, [some (.ref 143), some (.int (zI b)), some (.int (zI (n - 1))), some (.int (zI k))], [.int (zI 2), .int (zI b), .ref 143], es)) i_211_2 (by rfl) ?_
      refine x0 (r := (4, [some (.ref 143), some (.int (zI b)), some (.int (zI (n - 1))), some (.int (zI k))], [.int (zI 4), .int (zI 2), .int (zI b), .ref 143], es)) i_211_3 (by rfl) ?_
      refine x0 (r := (5, [some (.ref 143), some (.int (zI b)), some (.int (zI (n - 1))), some (.int (zI k))], [.int (zI (n - 1)), .int (zI 4), .int (zI 2), .int (zI b), .ref 143], es)) i_211_4 rfl ?_
      refine x_imul i_211_5 ?_
      refine x_iadd i_211_6 ?_
      refine x0 (r := (8, [some (.ref 143), some (.int (zI b)), some (.int (zI (n - 1))), some (.int (zI k))], [.int (zI k), .int (zI (2 + (4 * (n - 1)))), .int (zI b), .ref 143], es)) i_211_7 rfl ?_
      refine x_iadd i_211_8 ?_
      refine x_call (vs := [.ref 143, .int (zI b), .int (zI ((2 + (4 * (n - 1))) + k))]) (rs := []) i_211_9 rfl (fun _ => rfl) rfl rfl rfl rfl rfl (pCall_v (p := 79) hs_es rfl rfl rfl rfl rfl (by decide) rfl rfl rfl rfl rfl) ?_
      show aW _ _ _ _ _ _ (0, [some (.ref 143), some (.int (zI b)), some (.int (zI ((2 + (4 * (n - 1))) + k)))], [], es)
      refine x0 (r := (1, [some (.ref 143), some (.int (zI b)), some (.int (zI ((2 + (4 * (n - 1))) + k)))], [.ref 143], es)) i_206_0 rfl ?_
      refine x_getr (p := 79) (k := 144) i_206_1 hs_es rfl rfl ?_
      show aW _ _ _ _ _ _ (4, [some (.ref 143), some (.int (zI b)), some (.int (zI ((2 + (4 * (n - 1))) + k)))], [.ref 144], es)
      refine x0 (r := (6, [some (.ref 143), some (.int (zI b)), some (.int (zI ((2 + (4 * (n - 1))) + k)))], [.int (zI 119), .ref 144], es)) i_206_4 (by rfl) ?_
      refine x0 (r := (8, [some (.ref 143), some (.int (zI b)), some (.int (zI ((2 + (4 * (n - 1))) + k)))], [.int (zI 98), .int (zI 119), .ref 144], es)) i_206_6 (by rfl) ?_
      refine x0 (r := (9, [some (.ref 143), some (.int (zI b)), some (.int (zI ((2 + (4 * (n - 1))) + k)))], [.int (zI b), .int (zI 98), .int (zI 119), .ref 144], es)) i_206_8 rfl ?_
      refine x_imul i_206_9 ?_
      refine x_iadd i_206_10 ?_
      refine x0 (r := (12, [some (.ref 143), some (.int (zI b)), some (.int (zI ((2 + (4 * (n - 1))) + k)))], [.int (zI ((2 + (4 * (n - 1))) + k)), .int (zI (119 + (98 * b))), .ref 144], es)) i_206_11 rfl ?_
      refine x_iadd i_206_12 ?_
      refine x_iald (p := 80) i_206_13 hs_es rfl (by unfold i32 iLO iHI; omega) (by omega) (by omega) ?_
      obtain ⟨v4, e_v4⟩ : ∃ z : Int, z = (gA es 80 ((119 + (98 * b)) + ((2 + (4 * (n - 1))) + k)).toNat).toInt := ⟨_, rfl⟩
      rw [← e_v4]
      have r_v4 : iLO ≤ v4 ∧ v4 ≤ iHI := by rw [e_v4]; exact i32_rng _
      unfold iLO iHI at r_v4
      refine x_ret (v := some (.int (zI v4))) i_206_14 rfl (fun _ => rfl) rfl rfl rfl ?_
      show aW _ _ _ _ _ _ (12, [some (.ref 143), some (.int (zI b)), some (.int (zI (n - 1))), some (.int (zI k))], [.int (zI v4)], es)
      refine x_ret (v := some (.int (zI v4))) i_211_12 rfl (fun _ => rfl) rfl rfl rfl ?_
      show aW _ _ _ _ _ _ (51, [some (.ref 143), some (.int (zI b)), some (.int (zI n)), some (.int (zI f)), some (.int (zI k))], [.int (zI v4), .int (zI v3)], es)
      by_cases c5 : v3 ≠ v4
      · refine x_cmpT i_242_51 (by unfold i32 iLO iHI; omega) (by unfold i32 iLO iHI; omega) rfl (by simp only [zC, cR]; omega) ?_
        refine x0 (r := (59, [some (.ref 143), some (.int (zI b)), some (.int (zI n)), some (.int (zI f)), some (.int (zI k))], [.int (zI 0)], es)) i_242_58 (by rfl) ?_
        refine x0 (r := (60, [some (.ref 143), some (.int (zI b)), some (.int (zI n)), some (.int (zI 0)), some (.int (zI k))], [], es)) i_242_59 rfl ?_
        refine x_iinc (x := k) i_242_60 rfl (by show 4 < 5; decide) ?_
        show aW _ _ _ _ _ _ (63, [some (.ref 143), some (.int (zI b)), some (.int (zI n)), some (.int (zI 0)), some (.int (zI (k + 1)))], [], es)
        refine x0 (r := (23, [some (.ref 143), some (.int (zI b)), some (.int (zI n)), some (.int (zI 0)), some (.int (zI (k + 1)))], [], es)) i_242_63 rfl ?_
        exact K3 c1 c2 v3 e_v3 v4 e_v4 c5
      · refine x_cmpF i_242_51 (by unfold i32 iLO iHI; omega) (by unfold i32 iLO iHI; omega) rfl (by simp only [zC, cR]; omega) ?_
        refine x0 (r := (55, [some (.ref 143), some (.int (zI b)), some (.int (zI n)), some (.int (zI f)), some (.int (zI k))], [.int (zI 1)], es)) i_242_54 (by rfl) ?_
        refine x0 (r := (59, [some (.ref 143), some (.int (zI b)), some (.int (zI n)), some (.int (zI f)), some (.int (zI k))], [.int (zI 1)], es)) i_242_55 rfl ?_
        refine x0 (r := (60, [some (.ref 143), some (.int (zI b)), some (.int (zI n)), some (.int (zI 1)), some (.int (zI k))], [], es)) i_242_59 rfl ?_
        refine x_iinc (x := k) i_242_60 rfl (by show 4 < 5; decide) ?_
        show aW _ _ _ _ _ _ (63, [some (.ref 143), some (.int (zI b)), some (.int (zI n)), some (.int (zI 1)), some (.int (zI (k + 1)))], [], es)
        refine x0 (r := (23, [some (.ref 143), some (.int (zI b)), some (.int (zI n)), some (.int (zI 1)), some (.int (zI (k + 1)))], [], es)) i_242_63 rfl ?_
        exact K4 c1 c2 v3 e_v3 v4 e_v4 c5

theorem s_ofMove {O : pOut} {d kc ks : Nat} {Q : pRes → Prop} {es : PH} {m n b : Int} (hs_es : sh es) (hb : 0 ≤ b ∧ b ≤ 2) (hm : 0 ≤ m ∧ m ≤ 30) (hn : 0 ≤ n ∧ n ≤ 24) (hT_es : hOK tT es)
    (K1 : m = 0 → Q (.inl (some (.int (zI 1000))), es, kc, ks))
    (K2 : ¬ (m = 0) → n ≠ 0 → ∀ v3 : Int, v3 = (gA es 94 ((25 * ((31 * b) + (m - 1))) + (n - 1)).toNat).toInt → ∀ v4 : Int, v4 = (gA es 92 ((((3 * (m - 1)) + b) * 24) + (n - 1)).toNat).toInt → Q (.inl (some (.int (zI (v3 + v4)))), es, kc, ks))
    (K3 : ¬ (m = 0) → ¬ (n ≠ 0) → Q (.inl (some (.int (zI 1000))), es, kc, ks)) :
    aW O (d + 1) 237 kc ks Q (0, [some (.ref 143), some (.int (zI m)), some (.int (zI n)), some (.int (zI b))], [], es) := by
  refine x0 (r := (1, [some (.ref 143), some (.int (zI m)), some (.int (zI n)), some (.int (zI b))], [.int (zI m)], es)) i_237_0 rfl ?_
  by_cases c1 : m = 0
  · refine x_ifT i_237_1 (by unfold i32 iLO iHI; omega) rfl (by simp only [zC, cR]; omega) ?_
    refine x0 (r := (11, [some (.ref 143), some (.int (zI m)), some (.int (zI n)), some (.int (zI b))], [.int (zI 1000)], es)) i_237_8 (by rfl) ?_
    refine x0 (r := (45, [some (.ref 143), some (.int (zI m)), some (.int (zI n)), some (.int (zI b))], [.int (zI 1000)], es)) i_237_11 rfl ?_
    refine x_ret (v := some (.int (zI 1000))) i_237_45 rfl (fun _ => rfl) rfl rfl rfl ?_
    exact K1 c1
  · refine x_ifF i_237_1 (by unfold i32 iLO iHI; omega) rfl (by simp only [zC, cR]; omega) ?_
    refine x0 (r := (5, [some (.ref 143), some (.int (zI m)), some (.int (zI n)), some (.int (zI b))], [.int (zI n)], es)) i_237_4 rfl ?_
    by_cases c2 : n ≠ 0
    · refine x_ifT i_237_5 (by unfold i32 iLO iHI; omega) rfl (by simp only [zC, cR]; omega) ?_
      refine x0 (r := (15, [some (.ref 143), some (.int (zI m)), some (.int (zI n)), some (.int (zI b))], [.ref 143], es)) i_237_14 rfl ?_
      refine x_getr (p := 79) (k := 158) i_237_15 hs_es rfl rfl ?_
      show aW _ _ _ _ _ _ (18, [some (.ref 143), some (.int (zI m)), some (.int (zI n)), some (.int (zI b))], [.ref 158], es)
      refine x0 (r := (19, [some (.ref 143), some (.int (zI m)), some (.int (zI n)), some (.int (zI b))], [.int (zI b), .ref 158], es)) i_237_18 rfl ?_
      refine x0 (r := (20, [some (.ref 143), some (.int (zI m)), some (.int (zI n)), some (.int (zI b))], [.int (zI m), .int (zI b), .ref 158], es)) i_237_19 rfl ?_
      refine x0 (r := (21, [some (.ref 143), some (.int (zI m)), some (.int (zI n)), some (.int (zI b))], [.int (zI 1), .int (zI m), .int (zI b), .ref 158], es)) i_237_20 (by rfl) ?_
      refine x_isub i_237_21 ?_
      refine x0 (r := (23, [some (.ref 143), some (.int (zI m)), some (.int (zI n)), some (.int (zI b))], [.int (zI n), .int (zI (m - 1)), .int (zI b), .ref 158], es)) i_237_22 rfl ?_
      refine x0 (r := (24, [some (.ref 143), some (.int (zI m)), some (.int (zI n)), some (.int (zI b))], [.int (zI 1), .int (zI n), .int (zI (m - 1)), .int (zI b), .ref 158], es)) i_237_23 (by rfl) ?_
      refine x_isub i_237_24 ?_
      refine x_call (vs := [.int (zI b), .int (zI (m - 1)), .int (zI (n - 1))]) (rs := [.ref 158]) i_237_25 rfl (fun _ => rfl) rfl rfl rfl rfl rfl rfl ?_
      show aW _ _ _ _ _ _ (0, [some (.int (zI b)), some (.int (zI (m - 1))), some (.int (zI (n - 1)))], [], es)
      refine x0 (r := (2, [some (.int (zI b)), some (.int (zI (m - 1))), some (.int (zI (n - 1)))], [.int (zI 25)], es)) i_238_0 (by rfl) ?_
      refine x0 (r := (4, [some (.int (zI b)), some (.int (zI (m - 1))), some (.int (zI (n - 1)))], [.int (zI 31), .int (zI 25)], es)) i_238_2 (by rfl) ?_
      refine x0 (r := (5, [some (.int (zI b)), some (.int (zI (m - 1))), some (.int (zI (n - 1)))], [.int (zI b), .int (zI 31), .int (zI 25)], es)) i_238_4 rfl ?_
      refine x_imul i_238_5 ?_
      refine x0 (r := (7, [some (.int (zI b)), some (.int (zI (m - 1))), some (.int (zI (n - 1)))], [.int (zI (m - 1)), .int (zI (31 * b)), .int (zI 25)], es)) i_238_6 rfl ?_
      refine x_iadd i_238_7 ?_
      refine x_imul i_238_8 ?_
      refine x0 (r := (10, [some (.int (zI b)), some (.int (zI (m - 1))), some (.int (zI (n - 1)))], [.int (zI (n - 1)), .int (zI (25 * ((31 * b) + (m - 1))))], es)) i_238_9 rfl ?_
      refine x_iadd i_238_10 ?_
      refine x_ret (v := some (.int (zI ((25 * ((31 * b) + (m - 1))) + (n - 1))))) i_238_11 rfl (fun _ => rfl) rfl rfl rfl ?_
      show aW _ _ _ _ _ _ (28, [some (.ref 143), some (.int (zI m)), some (.int (zI n)), some (.int (zI b))], [.int (zI ((25 * ((31 * b) + (m - 1))) + (n - 1))), .ref 158], es)
      refine x_iald (p := 94) i_237_28 hs_es rfl (by unfold i32 iLO iHI; omega) (by omega) (by omega) ?_
      obtain ⟨v3, e_v3⟩ : ∃ z : Int, z = (gA es 94 ((25 * ((31 * b) + (m - 1))) + (n - 1)).toNat).toInt := ⟨_, rfl⟩
      rw [← e_v3]
      have r_v3 : iLO ≤ v3 ∧ v3 ≤ iHI := by rw [e_v3]; exact i32_rng _
      unfold iLO iHI at r_v3
      have b_v3 : (0 : Int) ≤ v3 ∧ v3 ≤ (1000 : Int) := by rw [e_v3]; exact gA_bd hT_es (p := 94) (k := ((25 * ((31 * b) + (m - 1))) + (n - 1)).toNat) rfl (by omega) (by decide)
      refine x0 (r := (30, [some (.ref 143), some (.int (zI m)), some (.int (zI n)), some (.int (zI b))], [.ref 143, .int (zI v3)], es)) i_237_29 rfl ?_
      refine x_getr (p := 79) (k := 156) i_237_30 hs_es rfl rfl ?_
      show aW _ _ _ _ _ _ (33, [some (.ref 143), some (.int (zI m)), some (.int (zI n)), some (.int (zI b))], [.ref 156, .int (zI v3)], es)
      refine x0 (r := (34, [some (.ref 143), some (.int (zI m)), some (.int (zI n)), some (.int (zI b))], [.int (zI m), .ref 156, .int (zI v3)], es)) i_237_33 rfl ?_
      refine x0 (r := (35, [some (.ref 143), some (.int (zI m)), some (.int (zI n)), some (.int (zI b))], [.int (zI 1), .int (zI m), .ref 156, .int (zI v3)], es)) i_237_34 (by rfl) ?_
      refine x_isub i_237_35 ?_
      refine x0 (r := (37, [some (.ref 143), some (.int (zI m)), some (.int (zI n)), some (.int (zI b))], [.int (zI b), .int (zI (m - 1)), .ref 156, .int (zI v3)], es)) i_237_36 rfl ?_
      refine x0 (r := (38, [some (.ref 143), some (.int (zI m)), some (.int (zI n)), some (.int (zI b))], [.int (zI n), .int (zI b), .int (zI (m - 1)), .ref 156, .int (zI v3)], es)) i_237_37 rfl ?_
      refine x0 (r := (39, [some (.ref 143), some (.int (zI m)), some (.int (zI n)), some (.int (zI b))], [.int (zI 1), .int (zI n), .int (zI b), .int (zI (m - 1)), .ref 156, .int (zI v3)], es)) i_237_38 (by rfl) ?_
      refine x_isub i_237_39 ?_
      refine x_call (vs := [.int (zI (m - 1)), .int (zI b), .int (zI (n - 1))]) (rs := [.ref 156, .int (zI v3)]) i_237_40 rfl (fun _ => rfl) rfl rfl rfl rfl rfl rfl ?_
      show aW _ _ _ _ _ _ (0, [some (.int (zI (m - 1))), some (.int (zI b)), some (.int (zI (n - 1)))], [], es)
      refine x0 (r := (1, [some (.int (zI (m - 1))), some (.int (zI b)), some (.int (zI (n - 1)))], [.int (zI 3)], es)) i_239_0 (by rfl) ?_
      refine x0 (r := (2, [some (.int (zI (m - 1))), some (.int (zI b)), some (.int (zI (n - 1)))], [.int (zI (m - 1)), .int (zI 3)], es)) i_239_1 rfl ?_
      refine x_imul i_239_2 ?_
      refine x0 (r := (4, [some (.int (zI (m - 1))), some (.int (zI b)), some (.int (zI (n - 1)))], [.int (zI b), .int (zI (3 * (m - 1)))], es)) i_239_3 rfl ?_
      refine x_iadd i_239_4 ?_
      refine x0 (r := (7, [some (.int (zI (m - 1))), some (.int (zI b)), some (.int (zI (n - 1)))], [.int (zI 24), .int (zI ((3 * (m - 1)) + b))], es)) i_239_5 (by rfl) ?_
      refine x_imul i_239_7 ?_
      refine x0 (r := (9, [some (.int (zI (m - 1))), some (.int (zI b)), some (.int (zI (n - 1)))], [.int (zI (n - 1)), .int (zI (((3 * (m - 1)) + b) * 24))], es)) i_239_8 rfl ?_
      refine x_iadd i_239_9 ?_
      refine x_ret (v := some (.int (zI ((((3 * (m - 1)) + b) * 24) + (n - 1))))) i_239_10 rfl (fun _ => rfl) rfl rfl rfl ?_
      show aW _ _ _ _ _ _ (43, [some (.ref 143), some (.int (zI m)), some (.int (zI n)), some (.int (zI b))], [.int (zI ((((3 * (m - 1)) + b) * 24) + (n - 1))), .ref 156, .int (zI v3)], es)
      refine x_iald (p := 92) i_237_43 hs_es rfl (by unfold i32 iLO iHI; omega) (by omega) (by omega) ?_
      obtain ⟨v4, e_v4⟩ : ∃ z : Int, z = (gA es 92 ((((3 * (m - 1)) + b) * 24) + (n - 1)).toNat).toInt := ⟨_, rfl⟩
      rw [← e_v4]
      have r_v4 : iLO ≤ v4 ∧ v4 ≤ iHI := by rw [e_v4]; exact i32_rng _
      unfold iLO iHI at r_v4
      have b_v4 : (0 : Int) ≤ v4 ∧ v4 ≤ (1000 : Int) := by rw [e_v4]; exact gA_bd hT_es (p := 92) (k := ((((3 * (m - 1)) + b) * 24) + (n - 1)).toNat) rfl (by omega) (by decide)
      refine x_iadd i_237_44 ?_
      refine x_ret (v := some (.int (zI (v3 + v4)))) i_237_45 rfl (fun _ => rfl) rfl rfl rfl ?_
      exact K2 c1 c2 v3 e_v3 v4 e_v4
    · refine x_ifF i_237_5 (by unfold i32 iLO iHI; omega) rfl (by simp only [zC, cR]; omega) ?_
      refine x0 (r := (11, [some (.ref 143), some (.int (zI m)), some (.int (zI n)), some (.int (zI b))], [.int (zI 1000)], es)) i_237_8 (by rfl) ?_
      refine x0 (r := (45, [some (.ref 143), some (.int (zI m)), some (.int (zI n)), some (.int (zI b))], [.int (zI 1000)], es)) i_237_11 rfl ?_
      refine x_ret (v := some (.int (zI 1000))) i_237_45 rfl (fun _ => rfl) rfl rfl rfl ?_
      exact K3 c1 c2

theorem s_ofLost {O : pOut} {d kc ks : Nat} {Q : pRes → Prop} {es : PH} {m n b : Int} (hs_es : sh es) (hb : 0 ≤ b ∧ b ≤ 2) (hm : 0 ≤ m ∧ m ≤ 30) (hn : 0 ≤ n ∧ n ≤ 24) (hT_es : hOK tT es)
    (K1 : m = 0 → Q (.inl (some (.int (zI 1000))), es, kc, ks))
    (K2 : ¬ (m = 0) → ∀ v2 : Int, v2 = (gA es 90 (Int.toNat 6)).toInt → v2 ≠ 0 → ∀ v4 : Int, v4 = (gA es 94 ((25 * ((31 * b) + (m - 1))) + n).toNat).toInt → ∀ v5 : Int, v5 = (gA es 90 (Int.toNat 6)).toInt → Q (.inl (some (.int (zI (v4 + v5)))), es, kc, ks))
    (K3 : ¬ (m = 0) → ∀ v2 : Int, v2 = (gA es 90 (Int.toNat 6)).toInt → ¬ (v2 ≠ 0) → Q (.inl (some (.int (zI 1000))), es, kc, ks)) :
    aW O (d + 1) 240 kc ks Q (0, [some (.ref 143), some (.int (zI m)), some (.int (zI n)), some (.int (zI b))], [], es) := by
  refine x0 (r := (1, [some (.ref 143), some (.int (zI m)), some (.int (zI n)), some (.int (zI b))], [.int (zI m)], es)) i_240_0 rfl ?_
  by_cases c1 : m = 0
  · refine x_ifT i_240_1 (by unfold i32 iLO iHI; omega) rfl (by simp only [zC, cR]; omega) ?_
    refine x0 (r := (17, [some (.ref 143), some (.int (zI m)), some (.int (zI n)), some (.int (zI b))], [.int (zI 1000)], es)) i_240_14 (by rfl) ?_
    refine x0 (r := (41, [some (.ref 143), some (.int (zI m)), some (.int (zI n)), some (.int (zI b))], [.int (zI 1000)], es)) i_240_17 rfl ?_
    refine x_ret (v := some (.int (zI 1000))) i_240_41 rfl (fun _ => rfl) rfl rfl rfl ?_
    exact K1 c1
  · refine x_ifF i_240_1 (by unfold i32 iLO iHI; omega) rfl (by simp only [zC, cR]; omega) ?_
    refine x0 (r := (5, [some (.ref 143), some (.int (zI m)), some (.int (zI n)), some (.int (zI b))], [.ref 143], es)) i_240_4 rfl ?_
    refine x_getr (p := 79) (k := 154) i_240_5 hs_es rfl rfl ?_
    show aW _ _ _ _ _ _ (8, [some (.ref 143), some (.int (zI m)), some (.int (zI n)), some (.int (zI b))], [.ref 154], es)
    refine x0 (r := (10, [some (.ref 143), some (.int (zI m)), some (.int (zI n)), some (.int (zI b))], [.int (zI 6), .ref 154], es)) i_240_8 (by rfl) ?_
    refine x_iald (p := 90) i_240_10 hs_es rfl (by unfold i32 iLO iHI; omega) (by omega) (by omega) ?_
    obtain ⟨v2, e_v2⟩ : ∃ z : Int, z = (gA es 90 (Int.toNat 6)).toInt := ⟨_, rfl⟩
    rw [← e_v2]
    have r_v2 : iLO ≤ v2 ∧ v2 ≤ iHI := by rw [e_v2]; exact i32_rng _
    unfold iLO iHI at r_v2
    have b_v2 : (0 : Int) ≤ v2 ∧ v2 ≤ (9 : Int) := by rw [e_v2]; exact gA_bd hT_es (p := 90) (k := (Int.toNat 6)) rfl (by omega) (by decide)
    by_cases c3 : v2 ≠ 0
    · refine x_ifT i_240_11 (by unfold i32 iLO iHI; omega) rfl (by simp only [zC, cR]; omega) ?_
      refine x0 (r := (21, [some (.ref 143), some (.int (zI m)), some (.int (zI n)), some (.int (zI b))], [.ref 143], es)) i_240_20 rfl ?_
      refine x_getr (p := 79) (k := 158) i_240_21 hs_es rfl rfl ?_
      show aW _ _ _ _ _ _ (24, [some (.ref 143), some (.int (zI m)), some (.int (zI n)), some (.int (zI b))], [.ref 158], es)
      refine x0 (r := (25, [some (.ref 143), some (.int (zI m)), some (.int (zI n)), some (.int (zI b))], [.int (zI b), .ref 158], es)) i_240_24 rfl ?_
      refine x0 (r := (26, [some (.ref 143), some (.int (zI m)), some (.int (zI n)), some (.int (zI b))], [.int (zI m), .int (zI b), .ref 158], es)) i_240_25 rfl ?_
      refine x0 (r := (27, [some (.ref 143), some (.int (zI m)), some (.int (zI n)), some (.int (zI b))], [.int (zI 1), .int (zI m), .int (zI b), .ref 158], es)) i_240_26 (by rfl) ?_
      refine x_isub i_240_27 ?_
      refine x0 (r := (29, [some (.ref 143), some (.int (zI m)), some (.int (zI n)), some (.int (zI b))], [.int (zI n), .int (zI (m - 1)), .int (zI b), .ref 158], es)) i_240_28 rfl ?_
      refine x_call (vs := [.int (zI b), .int (zI (m - 1)), .int (zI n)]) (rs := [.ref 158]) i_240_29 rfl (fun _ => rfl) rfl rfl rfl rfl rfl rfl ?_
      show aW _ _ _ _ _ _ (0, [some (.int (zI b)), some (.int (zI (m - 1))), some (.int (zI n))], [], es)
      refine x0 (r := (2, [some (.int (zI b)), some (.int (zI (m - 1))), some (.int (zI n))], [.int (zI 25)], es)) i_238_0 (by rfl) ?_
      refine x0 (r := (4, [some (.int (zI b)), some (.int (zI (m - 1))), some (.int (zI n))], [.int (zI 31), .int (zI 25)], es)) i_238_2 (by rfl) ?_
      refine x0 (r := (5, [some (.int (zI b)), some (.int (zI (m - 1))), some (.int (zI n))], [.int (zI b), .int (zI 31), .int (zI 25)], es)) i_238_4 rfl ?_
      refine x_imul i_238_5 ?_
      refine x0 (r := (7, [some (.int (zI b)), some (.int (zI (m - 1))), some (.int (zI n))], [.int (zI (m - 1)), .int (zI (31 * b)), .int (zI 25)], es)) i_238_6 rfl ?_
      refine x_iadd i_238_7 ?_
      refine x_imul i_238_8 ?_
      refine x0 (r := (10, [some (.int (zI b)), some (.int (zI (m - 1))), some (.int (zI n))], [.int (zI n), .int (zI (25 * ((31 * b) + (m - 1))))], es)) i_238_9 rfl ?_
      refine x_iadd i_238_10 ?_
      refine x_ret (v := some (.int (zI ((25 * ((31 * b) + (m - 1))) + n)))) i_238_11 rfl (fun _ => rfl) rfl rfl rfl ?_
      show aW _ _ _ _ _ _ (32, [some (.ref 143), some (.int (zI m)), some (.int (zI n)), some (.int (zI b))], [.int (zI ((25 * ((31 * b) + (m - 1))) + n)), .ref 158], es)
      refine x_iald (p := 94) i_240_32 hs_es rfl (by unfold i32 iLO iHI; omega) (by omega) (by omega) ?_
      obtain ⟨v4, e_v4⟩ : ∃ z : Int, z = (gA es 94 ((25 * ((31 * b) + (m - 1))) + n).toNat).toInt := ⟨_, rfl⟩
      rw [← e_v4]
      have r_v4 : iLO ≤ v4 ∧ v4 ≤ iHI := by rw [e_v4]; exact i32_rng _
      unfold iLO iHI at r_v4
      have b_v4 : (0 : Int) ≤ v4 ∧ v4 ≤ (1000 : Int) := by rw [e_v4]; exact gA_bd hT_es (p := 94) (k := ((25 * ((31 * b) + (m - 1))) + n).toNat) rfl (by omega) (by decide)
      refine x0 (r := (34, [some (.ref 143), some (.int (zI m)), some (.int (zI n)), some (.int (zI b))], [.ref 143, .int (zI v4)], es)) i_240_33 rfl ?_
      refine x_getr (p := 79) (k := 154) i_240_34 hs_es rfl rfl ?_
      show aW _ _ _ _ _ _ (37, [some (.ref 143), some (.int (zI m)), some (.int (zI n)), some (.int (zI b))], [.ref 154, .int (zI v4)], es)
      refine x0 (r := (39, [some (.ref 143), some (.int (zI m)), some (.int (zI n)), some (.int (zI b))], [.int (zI 6), .ref 154, .int (zI v4)], es)) i_240_37 (by rfl) ?_
      refine x_iald (p := 90) i_240_39 hs_es rfl (by unfold i32 iLO iHI; omega) (by omega) (by omega) ?_
      obtain ⟨v5, e_v5⟩ : ∃ z : Int, z = (gA es 90 (Int.toNat 6)).toInt := ⟨_, rfl⟩
      rw [← e_v5]
      have r_v5 : iLO ≤ v5 ∧ v5 ≤ iHI := by rw [e_v5]; exact i32_rng _
      unfold iLO iHI at r_v5
      have b_v5 : (0 : Int) ≤ v5 ∧ v5 ≤ (9 : Int) := by rw [e_v5]; exact gA_bd hT_es (p := 90) (k := (Int.toNat 6)) rfl (by omega) (by decide)
      refine x_iadd i_240_40 ?_
      refine x_ret (v := some (.int (zI (v4 + v5)))) i_240_41 rfl (fun _ => rfl) rfl rfl rfl ?_
      exact K2 c1 v2 e_v2 c3 v4 e_v4 v5 e_v5
    · refine x_ifF i_240_11 (by unfold i32 iLO iHI; omega) rfl (by simp only [zC, cR]; omega) ?_
      refine x0 (r := (17, [some (.ref 143), some (.int (zI m)), some (.int (zI n)), some (.int (zI b))], [.int (zI 1000)], es)) i_240_14 (by rfl) ?_
      refine x0 (r := (41, [some (.ref 143), some (.int (zI m)), some (.int (zI n)), some (.int (zI b))], [.int (zI 1000)], es)) i_240_17 rfl ?_
      refine x_ret (v := some (.int (zI 1000))) i_240_41 rfl (fun _ => rfl) rfl rfl rfl ?_
      exact K3 c1 v2 e_v2 c3

theorem s_sums0 {O : pOut} {d kc ks : Nat} {Q : pRes → Prop} {es : PH} {b m : Int} (hs_es : sh es) (hb : 0 ≤ b ∧ b ≤ 2) (hm : 0 ≤ m ∧ m ≤ 30) (hT_es : hOK tT es)
    (K1 : aW O d 236 kc ks Q (2, [some (.ref 143), some (.int (zI b)), some (.int (zI m)), some (.int (zI 0)), none], [], es)) :
    aW O d 236 kc ks Q (0, [some (.ref 143), some (.int (zI b)), some (.int (zI m)), none, none], [], es) := by
  refine x0 (r := (1, [some (.ref 143), some (.int (zI b)), some (.int (zI m)), none, none], [.int (zI 0)], es)) i_236_0 (by rfl) ?_
  refine x0 (r := (2, [some (.ref 143), some (.int (zI b)), some (.int (zI m)), some (.int (zI 0)), none], [], es)) i_236_1 rfl ?_
  exact K1

theorem s_asked {O : pOut} {d kc ks : Nat} {Q : pRes → Prop} {es : PH} {b : Int} (hs_es : sh es) (hb : 0 ≤ b ∧ b ≤ 2)
    (K1 : ∀ v1 : Int, v1 = (gI es 79 18).toInt → ∀ v2 : Int, v2 = (zI v1 >>> (zI b &&& 31)).toInt → ∀ v3 : Int, v3 = (zI v2 &&& zI 1).toInt → v3 ≠ 1 → Q (.inl (some (.int (zI 0))), es, kc, ks))
    (K2 : ∀ v1 : Int, v1 = (gI es 79 18).toInt → ∀ v2 : Int, v2 = (zI v1 >>> (zI b &&& 31)).toInt → ∀ v3 : Int, v3 = (zI v2 &&& zI 1).toInt → ¬ (v3 ≠ 1) → Q (.inl (some (.int (zI 1))), es, kc, ks)) :
    aW O d 235 kc ks Q (0, [some (.ref 143), some (.int (zI b))], [], es) := by
  refine x0 (r := (1, [some (.ref 143), some (.int (zI b))], [.ref 143], es)) i_235_0 rfl ?_
  refine x_geti (p := 79) i_235_1 hs_es rfl rfl ?_
  obtain ⟨v1, e_v1⟩ : ∃ z : Int, z = (gI es 79 18).toInt := ⟨_, rfl⟩
  rw [← e_v1]
  have r_v1 : iLO ≤ v1 ∧ v1 ≤ iHI := by rw [e_v1]; exact i32_rng _
  unfold iLO iHI at r_v1
  refine x0 (r := (5, [some (.ref 143), some (.int (zI b))], [.int (zI b), .int (zI v1)], es)) i_235_4 rfl ?_
  refine x_op i_235_5 (w := (zI v1 >>> (zI b &&& 31))) rfl rfl ?_
  obtain ⟨v2, e_v2⟩ : ∃ z : Int, z = (zI v1 >>> (zI b &&& 31)).toInt := ⟨_, rfl⟩
  rw [← e_v2]
  have r_v2 : iLO ≤ v2 ∧ v2 ≤ iHI := by rw [e_v2]; exact i32_rng _
  unfold iLO iHI at r_v2
  refine x0 (r := (7, [some (.ref 143), some (.int (zI b))], [.int (zI 1), .int (zI v2)], es)) i_235_6 (by rfl) ?_
  refine x_op i_235_7 (w := (zI v2 &&& zI 1)) rfl rfl ?_
  obtain ⟨v3, e_v3⟩ : ∃ z : Int, z = (zI v2 &&& zI 1).toInt := ⟨_, rfl⟩
  rw [← e_v3]
  have r_v3 : iLO ≤ v3 ∧ v3 ≤ iHI := by rw [e_v3]; exact i32_rng _
  unfold iLO iHI at r_v3
  refine x0 (r := (9, [some (.ref 143), some (.int (zI b))], [.int (zI 1), .int (zI v3)], es)) i_235_8 (by rfl) ?_
  by_cases c4 : v3 ≠ 1
  · refine x_cmpT i_235_9 (by unfold i32 iLO iHI; omega) (by unfold i32 iLO iHI; omega) rfl (by simp only [zC, cR]; omega) ?_
    refine x0 (r := (17, [some (.ref 143), some (.int (zI b))], [.int (zI 0)], es)) i_235_16 (by rfl) ?_
    refine x_ret (v := some (.int (zI 0))) i_235_17 rfl (fun _ => rfl) rfl rfl (pFin_b (by omega)) ?_
    exact K1 v1 e_v1 v2 e_v2 v3 e_v3 c4
  · refine x_cmpF i_235_9 (by unfold i32 iLO iHI; omega) (by unfold i32 iLO iHI; omega) rfl (by simp only [zC, cR]; omega) ?_
    refine x0 (r := (13, [some (.ref 143), some (.int (zI b))], [.int (zI 1)], es)) i_235_12 (by rfl) ?_
    refine x0 (r := (17, [some (.ref 143), some (.int (zI b))], [.int (zI 1)], es)) i_235_13 rfl ?_
    refine x_ret (v := some (.int (zI 1))) i_235_17 rfl (fun _ => rfl) rfl rfl (pFin_b (by omega)) ?_
    exact K2 v1 e_v1 v2 e_v2 v3 e_v3 c4

theorem s_pr0 {O : pOut} {d kc ks : Nat} {Q : pRes → Prop} {es : PH} {m : Int} (hs_es : sh es) (hT_es : hOK tT es)
    (K1 : ∀ es1 : PH, es1 = sI es 79 25 (.int (zI 0)) → ∀ es2 : PH, es2 = sI es1 79 26 (.int (zI 0)) → aW O d 234 kc ks Q (12, [some (.ref 143), some (.int (zI m)), some (.int (zI 0)), none, none], [], es2)) :
    aW O d 234 kc ks Q (0, [some (.ref 143), some (.int (zI m)), none, none, none], [], es) := by
  refine x0 (r := (1, [some (.ref 143), some (.int (zI m)), none, none, none], [.ref 143], es)) i_234_0 rfl ?_
  refine x0 (r := (2, [some (.ref 143), some (.int (zI m)), none, none, none], [.int (zI 0), .ref 143], es)) i_234_1 (by rfl) ?_
  refine x_puti (p := 79) (ty := .int) i_234_2 hs_es rfl rfl rfl (Or.inl rfl) ?_
  obtain ⟨es1, e_es1⟩ : ∃ z : PH, z = sI es 79 25 (.int (zI 0)) := ⟨_, rfl⟩
  have hs_es1 : sh es1 := by rw [e_es1]; exact sh_sI hs_es (p := 79) (b := 25) rfl rfl
  have hT_es1 : hOK tT es1 := by rw [e_es1]; exact hOK_sI hT_es (p := 79) (b := 25) rfl rfl (by rw [zI_toInt (by unfold i32 iLO iHI; omega)]; exact ⟨by show (0 : Int) ≤ 0; omega, by show 0 ≤ (3000 : Int); omega⟩)
  rw [← e_es1]
  refine x0 (r := (6, [some (.ref 143), some (.int (zI m)), none, none, none], [.ref 143], es1)) i_234_5 rfl ?_
  refine x0 (r := (7, [some (.ref 143), some (.int (zI m)), none, none, none], [.int (zI 0), .ref 143], es1)) i_234_6 (by rfl) ?_
  refine x_puti (p := 79) (ty := .int) i_234_7 hs_es1 rfl rfl rfl (Or.inl rfl) ?_
  obtain ⟨es2, e_es2⟩ : ∃ z : PH, z = sI es1 79 26 (.int (zI 0)) := ⟨_, rfl⟩
  have hs_es2 : sh es2 := by rw [e_es2]; exact sh_sI hs_es1 (p := 79) (b := 26) rfl rfl
  have hT_es2 : hOK tT es2 := by rw [e_es2]; exact hOK_sI hT_es1 (p := 79) (b := 26) rfl rfl (by rw [zI_toInt (by unfold i32 iLO iHI; omega)]; exact ⟨by show (0 : Int) ≤ 0; omega, by show 0 ≤ (3000 : Int); omega⟩)
  rw [← e_es2]
  refine x0 (r := (11, [some (.ref 143), some (.int (zI m)), none, none, none], [.int (zI 0)], es2)) i_234_10 (by rfl) ?_
  refine x0 (r := (12, [some (.ref 143), some (.int (zI m)), some (.int (zI 0)), none, none], [], es2)) i_234_11 rfl ?_
  exact K1 es1 e_es1 es2 e_es2

theorem s_pr46 {O : pOut} {d kc ks : Nat} {Q : pRes → Prop} {es : PH} {m b le n : Int} (hs_es : sh es) (hm : 0 ≤ m ∧ m ≤ 30) (hb : 0 ≤ b ∧ b ≤ 2) (hl : 0 ≤ le ∧ le ≤ 1000) (hn : 0 ≤ n ∧ n ≤ 25) (hN : 0 ≤ (gA es 80 ((119 + (98 * b)) + 1).toNat).toInt ∧ (gA es 80 ((119 + (98 * b)) + 1).toNat).toInt ≤ 24) (hS : (gI es 79 25).toInt ≤ 1000 * b) (hT_es : hOK tT es)
    (K1 : ∀ v1 : Int, v1 = (gA es 80 ((119 + (98 * b)) + 1).toNat).toInt → v1 < n → ∀ v3 : Int, v3 = (gI es 79 25).toInt → ∀ es4 : PH, es4 = sI es 79 25 (.int (zI (v3 + le))) → aW O (d + 2) 234 kc ks Q (89, [some (.ref 143), some (.int (zI m)), some (.int (zI b)), some (.int (zI le)), some (.int (zI n))], [], es4))
    (K2 : ∀ v1 : Int, v1 = (gA es 80 ((119 + (98 * b)) + 1).toNat).toInt → ¬ (v1 < n) → ∀ v5 : Int, v5 = (gA es 94 ((25 * ((31 * b) + m)) + n).toNat).toInt → ∀ v6 : Int, v6 = min le v5 → aW O (d + 2) 234 kc ks Q (46, [some (.ref 143), some (.int (zI m)), some (.int (zI b)), some (.int (zI v6)), some (.int (zI (n + 1)))], [], es)) :
    aW O (d + 2) 234 kc ks Q (46, [some (.ref 143), some (.int (zI m)), some (.int (zI b)), some (.int (zI le)), some (.int (zI n))], [], es) := by
  refine x0 (r := (48, [some (.ref 143), some (.int (zI m)), some (.int (zI b)), some (.int (zI le)), some (.int (zI n))], [.int (zI n)], es)) i_234_46 rfl ?_
  refine x0 (r := (49, [some (.ref 143), some (.int (zI m)), some (.int (zI b)), some (.int (zI le)), some (.int (zI n))], [.ref 143, .int (zI n)], es)) i_234_48 rfl ?_
  refine x0 (r := (50, [some (.ref 143), some (.int (zI m)), some (.int (zI b)), some (.int (zI le)), some (.int (zI n))], [.int (zI b), .ref 143, .int (zI n)], es)) i_234_49 rfl ?_
  refine x_call (vs := [.ref 143, .int (zI b)]) (rs := [.int (zI n)]) i_234_50 rfl (fun _ => rfl) rfl rfl rfl rfl rfl (pCall_v (p := 79) hs_es rfl rfl rfl rfl rfl (by decide) rfl rfl rfl rfl rfl) ?_
  show aW _ _ _ _ _ _ (0, [some (.ref 143), some (.int (zI b))], [], es)
  refine x0 (r := (1, [some (.ref 143), some (.int (zI b))], [.ref 143], es)) i_205_0 rfl ?_
  refine x0 (r := (2, [some (.ref 143), some (.int (zI b))], [.int (zI b), .ref 143], es)) i_205_1 rfl ?_
  refine x0 (r := (3, [some (.ref 143), some (.int (zI b))], [.int (zI 1), .int (zI b), .ref 143], es)) i_205_2 (by rfl) ?_
  refine x_call (vs := [.ref 143, .int (zI b), .int (zI 1)]) (rs := []) i_205_3 rfl (fun _ => rfl) rfl rfl rfl rfl rfl (pCall_v (p := 79) hs_es rfl rfl rfl rfl rfl (by decide) rfl rfl rfl rfl rfl) ?_
  show aW _ _ _ _ _ _ (0, [some (.ref 143), some (.int (zI b)), some (.int (zI 1))], [], es)
  refine x0 (r := (1, [some (.ref 143), some (.int (zI b)), some (.int (zI 1))], [.ref 143], es)) i_206_0 rfl ?_
  refine x_getr (p := 79) (k := 144) i_206_1 hs_es rfl rfl ?_
  show aW _ _ _ _ _ _ (4, [some (.ref 143), some (.int (zI b)), some (.int (zI 1))], [.ref 144], es)
  refine x0 (r := (6, [some (.ref 143), some (.int (zI b)), some (.int (zI 1))], [.int (zI 119), .ref 144], es)) i_206_4 (by rfl) ?_
  refine x0 (r := (8, [some (.ref 143), some (.int (zI b)), some (.int (zI 1))], [.int (zI 98), .int (zI 119), .ref 144], es)) i_206_6 (by rfl) ?_
  refine x0 (r := (9, [some (.ref 143), some (.int (zI b)), some (.int (zI 1))], [.int (zI b), .int (zI 98), .int (zI 119), .ref 144], es)) i_206_8 rfl ?_
  refine x_imul i_206_9 ?_
  refine x_iadd i_206_10 ?_
  refine x0 (r := (12, [some (.ref 143), some (.int (zI b)), some (.int (zI 1))], [.int (zI 1), .int (zI (119 + (98 * b))), .ref 144], es)) i_206_11 rfl ?_
  refine x_iadd i_206_12 ?_
  refine x_iald (p := 80) i_206_13 hs_es rfl (by unfold i32 iLO iHI; omega) (by omega) (by omega) ?_
  obtain ⟨v1, e_v1⟩ : ∃ z : Int, z = (gA es 80 ((119 + (98 * b)) + 1).toNat).toInt := ⟨_, rfl⟩
  rw [← e_v1]
  have r_v1 : iLO ≤ v1 ∧ v1 ≤ iHI := by rw [e_v1]; exact i32_rng _
  unfold iLO iHI at r_v1
  refine x_ret (v := some (.int (zI v1))) i_206_14 rfl (fun _ => rfl) rfl rfl rfl ?_
  show aW _ _ _ _ _ _ (6, [some (.ref 143), some (.int (zI b))], [.int (zI v1)], es)
  refine x_ret (v := some (.int (zI v1))) i_205_6 rfl (fun _ => rfl) rfl rfl rfl ?_
  show aW _ _ _ _ _ _ (53, [some (.ref 143), some (.int (zI m)), some (.int (zI b)), some (.int (zI le)), some (.int (zI n))], [.int (zI v1), .int (zI n)], es)
  by_cases c2 : v1 < n
  · refine x_cmpT i_234_53 (by unfold i32 iLO iHI; omega) (by unfold i32 iLO iHI; omega) rfl (by simp only [zC, cR]; omega) ?_
    refine x0 (r := (80, [some (.ref 143), some (.int (zI m)), some (.int (zI b)), some (.int (zI le)), some (.int (zI n))], [.ref 143], es)) i_234_79 rfl ?_
    refine x0 (r := (81, [some (.ref 143), some (.int (zI m)), some (.int (zI b)), some (.int (zI le)), some (.int (zI n))], [.ref 143, .ref 143], es)) i_234_80 rfl ?_
    refine x_geti (p := 79) i_234_81 hs_es rfl rfl ?_
    obtain ⟨v3, e_v3⟩ : ∃ z : Int, z = (gI es 79 25).toInt := ⟨_, rfl⟩
    rw [← e_v3]
    have r_v3 : iLO ≤ v3 ∧ v3 ≤ iHI := by rw [e_v3]; exact i32_rng _
    unfold iLO iHI at r_v3
    have b_v3 : (0 : Int) ≤ v3 ∧ v3 ≤ (3000 : Int) := by rw [e_v3]; exact gI_bd hT_es (p := 79) (b := 25) rfl rfl
    refine x0 (r := (85, [some (.ref 143), some (.int (zI m)), some (.int (zI b)), some (.int (zI le)), some (.int (zI n))], [.int (zI le), .int (zI v3), .ref 143], es)) i_234_84 rfl ?_
    refine x_iadd i_234_85 ?_
    refine x_puti (p := 79) (ty := .int) i_234_86 hs_es rfl rfl rfl (Or.inl rfl) ?_
    obtain ⟨es4, e_es4⟩ : ∃ z : PH, z = sI es 79 25 (.int (zI (v3 + le))) := ⟨_, rfl⟩
    have hs_es4 : sh es4 := by rw [e_es4]; exact sh_sI hs_es (p := 79) (b := 25) rfl rfl
    have hT_es4 : hOK tT es4 := by rw [e_es4]; exact hOK_sI hT_es (p := 79) (b := 25) rfl rfl (by rw [zI_toInt (by unfold i32 iLO iHI; omega)]; exact ⟨by show (0 : Int) ≤ (v3 + le); omega, by show (v3 + le) ≤ (3000 : Int); omega⟩)
    rw [← e_es4]
    exact K1 v1 e_v1 c2 v3 e_v3 es4 e_es4
  · refine x_cmpF i_234_53 (by unfold i32 iLO iHI; omega) (by unfold i32 iLO iHI; omega) rfl (by simp only [zC, cR]; omega) ?_
    refine x0 (r := (57, [some (.ref 143), some (.int (zI m)), some (.int (zI b)), some (.int (zI le)), some (.int (zI n))], [.int (zI le)], es)) i_234_56 rfl ?_
    refine x0 (r := (58, [some (.ref 143), some (.int (zI m)), some (.int (zI b)), some (.int (zI le)), some (.int (zI n))], [.ref 143, .int (zI le)], es)) i_234_57 rfl ?_
    refine x_getr (p := 79) (k := 158) i_234_58 hs_es rfl rfl ?_
    show aW _ _ _ _ _ _ (61, [some (.ref 143), some (.int (zI m)), some (.int (zI b)), some (.int (zI le)), some (.int (zI n))], [.ref 158, .int (zI le)], es)
    refine x0 (r := (62, [some (.ref 143), some (.int (zI m)), some (.int (zI b)), some (.int (zI le)), some (.int (zI n))], [.int (zI b), .ref 158, .int (zI le)], es)) i_234_61 rfl ?_
    refine x0 (r := (63, [some (.ref 143), some (.int (zI m)), some (.int (zI b)), some (.int (zI le)), some (.int (zI n))], [.int (zI m), .int (zI b), .ref 158, .int (zI le)], es)) i_234_62 rfl ?_
    refine x0 (r := (65, [some (.ref 143), some (.int (zI m)), some (.int (zI b)), some (.int (zI le)), some (.int (zI n))], [.int (zI n), .int (zI m), .int (zI b), .ref 158, .int (zI le)], es)) i_234_63 rfl ?_
    refine x_call (vs := [.int (zI b), .int (zI m), .int (zI n)]) (rs := [.ref 158, .int (zI le)]) i_234_65 rfl (fun _ => rfl) rfl rfl rfl rfl rfl rfl ?_
    show aW _ _ _ _ _ _ (0, [some (.int (zI b)), some (.int (zI m)), some (.int (zI n))], [], es)
    refine x0 (r := (2, [some (.int (zI b)), some (.int (zI m)), some (.int (zI n))], [.int (zI 25)], es)) i_238_0 (by rfl) ?_
    refine x0 (r := (4, [some (.int (zI b)), some (.int (zI m)), some (.int (zI n))], [.int (zI 31), .int (zI 25)], es)) i_238_2 (by rfl) ?_
    refine x0 (r := (5, [some (.int (zI b)), some (.int (zI m)), some (.int (zI n))], [.int (zI b), .int (zI 31), .int (zI 25)], es)) i_238_4 rfl ?_
    refine x_imul i_238_5 ?_
    refine x0 (r := (7, [some (.int (zI b)), some (.int (zI m)), some (.int (zI n))], [.int (zI m), .int (zI (31 * b)), .int (zI 25)], es)) i_238_6 rfl ?_
    refine x_iadd i_238_7 ?_
    refine x_imul i_238_8 ?_
    refine x0 (r := (10, [some (.int (zI b)), some (.int (zI m)), some (.int (zI n))], [.int (zI n), .int (zI (25 * ((31 * b) + m)))], es)) i_238_9 rfl ?_
    refine x_iadd i_238_10 ?_
    refine x_ret (v := some (.int (zI ((25 * ((31 * b) + m)) + n)))) i_238_11 rfl (fun _ => rfl) rfl rfl rfl ?_
    show aW _ _ _ _ _ _ (68, [some (.ref 143), some (.int (zI m)), some (.int (zI b)), some (.int (zI le)), some (.int (zI n))], [.int (zI ((25 * ((31 * b) + m)) + n)), .ref 158, .int (zI le)], es)
    refine x_iald (p := 94) i_234_68 hs_es rfl (by unfold i32 iLO iHI; omega) (by omega) (by omega) ?_
    obtain ⟨v5, e_v5⟩ : ∃ z : Int, z = (gA es 94 ((25 * ((31 * b) + m)) + n).toNat).toInt := ⟨_, rfl⟩
    rw [← e_v5]
    have r_v5 : iLO ≤ v5 ∧ v5 ≤ iHI := by rw [e_v5]; exact i32_rng _
    unfold iLO iHI at r_v5
    have b_v5 : (0 : Int) ≤ v5 ∧ v5 ≤ (1000 : Int) := by rw [e_v5]; exact gA_bd hT_es (p := 94) (k := ((25 * ((31 * b) + m)) + n).toNat) rfl (by omega) (by decide)
    refine x_min i_234_69 (by unfold i32 iLO iHI; omega) (by unfold i32 iLO iHI; omega) (Nat.le_of_ble_eq_true rfl) ?_
    obtain ⟨v6, e_v6⟩ : ∃ z : Int, z = min le v5 := ⟨_, rfl⟩
    rw [← e_v6]
    refine x0 (r := (73, [some (.ref 143), some (.int (zI m)), some (.int (zI b)), some (.int (zI v6)), some (.int (zI n))], [], es)) i_234_72 rfl ?_
    refine x_iinc (x := n) i_234_73 rfl (by show 4 < 5; decide) ?_
    show aW _ _ _ _ _ _ (76, [some (.ref 143), some (.int (zI m)), some (.int (zI b)), some (.int (zI v6)), some (.int (zI (n + 1)))], [], es)
    refine x0 (r := (46, [some (.ref 143), some (.int (zI m)), some (.int (zI b)), some (.int (zI v6)), some (.int (zI (n + 1)))], [], es)) i_234_76 rfl ?_
    exact K2 v1 e_v1 c2 v5 e_v5 v6 e_v6

theorem s_pr89 {O : pOut} {d kc ks : Nat} {Q : pRes → Prop} {es : PH} {m b le n : Int} (hs_es : sh es) (hm : 0 ≤ m ∧ m ≤ 30) (hb : 0 ≤ b ∧ b ≤ 2) (hl : 0 ≤ le ∧ le ≤ 1000) (hn : 0 ≤ n ∧ n ≤ 25) (hN : 0 ≤ (gA es 80 ((119 + (98 * b)) + 1).toNat).toInt ∧ (gA es 80 ((119 + (98 * b)) + 1).toNat).toInt ≤ 24) (hW : (gI es 79 26).toInt ≤ 1000 * b) (hT_es : hOK tT es)
    (K1 : ∀ v1 : Int, v1 = (gI es 79 26).toInt → ∀ v2 : Int, v2 = (gA es 80 ((119 + (98 * b)) + 1).toNat).toInt → ∀ v3 : Int, v3 = (gA es 94 ((25 * ((31 * b) + m)) + v2).toNat).toInt → ∀ es4 : PH, es4 = sI es 79 26 (.int (zI (v1 + v3))) → aW O (d + 2) 234 kc ks Q (12, [some (.ref 143), some (.int (zI m)), some (.int (zI (b + 1))), some (.int (zI le)), some (.int (zI n))], [], es4)) :
    aW O (d + 2) 234 kc ks Q (89, [some (.ref 143), some (.int (zI m)), some (.int (zI b)), some (.int (zI le)), some (.int (zI n))], [], es) := by
  refine x0 (r := (90, [some (.ref 143), some (.int (zI m)), some (.int (zI b)), some (.int (zI le)), some (.int (zI n))], [.ref 143], es)) i_234_89 rfl ?_
  refine x0 (r := (91, [some (.ref 143), some (.int (zI m)), some (.int (zI b)), some (.int (zI le)), some (.int (zI n))], [.ref 143, .ref 143], es)) i_234_90 rfl ?_
  refine x_geti (p := 79) i_234_91 hs_es rfl rfl ?_
  obtain ⟨v1, e_v1⟩ : ∃ z : Int, z = (gI es 79 26).toInt := ⟨_, rfl⟩
  rw [← e_v1]
  have r_v1 : iLO ≤ v1 ∧ v1 ≤ iHI := by rw [e_v1]; exact i32_rng _
  unfold iLO iHI at r_v1
  have b_v1 : (0 : Int) ≤ v1 ∧ v1 ≤ (3000 : Int) := by rw [e_v1]; exact gI_bd hT_es (p := 79) (b := 26) rfl rfl
  refine x0 (r := (95, [some (.ref 143), some (.int (zI m)), some (.int (zI b)), some (.int (zI le)), some (.int (zI n))], [.ref 143, .int (zI v1), .ref 143], es)) i_234_94 rfl ?_
  refine x_getr (p := 79) (k := 158) i_234_95 hs_es rfl rfl ?_
  show aW _ _ _ _ _ _ (98, [some (.ref 143), some (.int (zI m)), some (.int (zI b)), some (.int (zI le)), some (.int (zI n))], [.ref 158, .int (zI v1), .ref 143], es)
  refine x0 (r := (99, [some (.ref 143), some (.int (zI m)), some (.int (zI b)), some (.int (zI le)), some (.int (zI n))], [.int (zI b), .ref 158, .int (zI v1), .ref 143], es)) i_234_98 rfl ?_
  refine x0 (r := (100, [some (.ref 143), some (.int (zI m)), some (.int (zI b)), some (.int (zI le)), some (.int (zI n))], [.int (zI m), .int (zI b), .ref 158, .int (zI v1), .ref 143], es)) i_234_99 rfl ?_
  refine x0 (r := (101, [some (.ref 143), some (.int (zI m)), some (.int (zI b)), some (.int (zI le)), some (.int (zI n))], [.ref 143, .int (zI m), .int (zI b), .ref 158, .int (zI v1), .ref 143], es)) i_234_100 rfl ?_
  refine x0 (r := (102, [some (.ref 143), some (.int (zI m)), some (.int (zI b)), some (.int (zI le)), some (.int (zI n))], [.int (zI b), .ref 143, .int (zI m), .int (zI b), .ref 158, .int (zI v1), .ref 143], es)) i_234_101 rfl ?_
  refine x_call (vs := [.ref 143, .int (zI b)]) (rs := [.int (zI m), .int (zI b), .ref 158, .int (zI v1), .ref 143]) i_234_102 rfl (fun _ => rfl) rfl rfl rfl rfl rfl (pCall_v (p := 79) hs_es rfl rfl rfl rfl rfl (by decide) rfl rfl rfl rfl rfl) ?_
  show aW _ _ _ _ _ _ (0, [some (.ref 143), some (.int (zI b))], [], es)
  refine x0 (r := (1, [some (.ref 143), some (.int (zI b))], [.ref 143], es)) i_205_0 rfl ?_
  refine x0 (r := (2, [some (.ref 143), some (.int (zI b))], [.int (zI b), .ref 143], es)) i_205_1 rfl ?_
  refine x0 (r := (3, [some (.ref 143), some (.int (zI b))], [.int (zI 1), .int (zI b), .ref 143], es)) i_205_2 (by rfl) ?_
  refine x_call (vs := [.ref 143, .int (zI b), .int (zI 1)]) (rs := []) i_205_3 rfl (fun _ => rfl) rfl rfl rfl rfl rfl (pCall_v (p := 79) hs_es rfl rfl rfl rfl rfl (by decide) rfl rfl rfl rfl rfl) ?_
  show aW _ _ _ _ _ _ (0, [some (.ref 143), some (.int (zI b)), some (.int (zI 1))], [], es)
  refine x0 (r := (1, [some (.ref 143), some (.int (zI b)), some (.int (zI 1))], [.ref 143], es)) i_206_0 rfl ?_
  refine x_getr (p := 79) (k := 144) i_206_1 hs_es rfl rfl ?_
  show aW _ _ _ _ _ _ (4, [some (.ref 143), some (.int (zI b)), some (.int (zI 1))], [.ref 144], es)
  refine x0 (r := (6, [some (.ref 143), some (.int (zI b)), some (.int (zI 1))], [.int (zI 119), .ref 144], es)) i_206_4 (by rfl) ?_
  refine x0 (r := (8, [some (.ref 143), some (.int (zI b)), some (.int (zI 1))], [.int (zI 98), .int (zI 119), .ref 144], es)) i_206_6 (by rfl) ?_
  refine x0 (r := (9, [some (.ref 143), some (.int (zI b)), some (.int (zI 1))], [.int (zI b), .int (zI 98), .int (zI 119), .ref 144], es)) i_206_8 rfl ?_
  refine x_imul i_206_9 ?_
  refine x_iadd i_206_10 ?_
  refine x0 (r := (12, [some (.ref 143), some (.int (zI b)), some (.int (zI 1))], [.int (zI 1), .int (zI (119 + (98 * b))), .ref 144], es)) i_206_11 rfl ?_
  refine x_iadd i_206_12 ?_
  refine x_iald (p := 80) i_206_13 hs_es rfl (by unfold i32 iLO iHI; omega) (by omega) (by omega) ?_
  obtain ⟨v2, e_v2⟩ : ∃ z : Int, z = (gA es 80 ((119 + (98 * b)) + 1).toNat).toInt := ⟨_, rfl⟩
  rw [← e_v2]
  have r_v2 : iLO ≤ v2 ∧ v2 ≤ iHI := by rw [e_v2]; exact i32_rng _
  unfold iLO iHI at r_v2
  refine x_ret (v := some (.int (zI v2))) i_206_14 rfl (fun _ => rfl) rfl rfl rfl ?_
  show aW _ _ _ _ _ _ (6, [some (.ref 143), some (.int (zI b))], [.int (zI v2)], es)
  refine x_ret (v := some (.int (zI v2))) i_205_6 rfl (fun _ => rfl) rfl rfl rfl ?_
  show aW _ _ _ _ _ _ (105, [some (.ref 143), some (.int (zI m)), some (.int (zI b)), some (.int (zI le)), some (.int (zI n))], [.int (zI v2), .int (zI m), .int (zI b), .ref 158, .int (zI v1), .ref 143], es)
  refine x_call (vs := [.int (zI b), .int (zI m), .int (zI v2)]) (rs := [.ref 158, .int (zI v1), .ref 143]) i_234_105 rfl (fun _ => rfl) rfl rfl rfl rfl rfl rfl ?_
  show aW _ _ _ _ _ _ (0, [some (.int (zI b)), some (.int (zI m)), some (.int (zI v2))], [], es)
  refine x0 (r := (2, [some (.int (zI b)), some (.int (zI m)), some (.int (zI v2))], [.int (zI 25)], es)) i_238_0 (by rfl) ?_
  refine x0 (r := (4, [some (.int (zI b)), some (.int (zI m)), some (.int (zI v2))], [.int (zI 31), .int (zI 25)], es)) i_238_2 (by rfl) ?_
  refine x0 (r := (5, [some (.int (zI b)), some (.int (zI m)), some (.int (zI v2))], [.int (zI b), .int (zI 31), .int (zI 25)], es)) i_238_4 rfl ?_
  refine x_imul i_238_5 ?_
  refine x0 (r := (7, [some (.int (zI b)), some (.int (zI m)), some (.int (zI v2))], [.int (zI m), .int (zI (31 * b)), .int (zI 25)], es)) i_238_6 rfl ?_
  refine x_iadd i_238_7 ?_
  refine x_imul i_238_8 ?_
  refine x0 (r := (10, [some (.int (zI b)), some (.int (zI m)), some (.int (zI v2))], [.int (zI v2), .int (zI (25 * ((31 * b) + m)))], es)) i_238_9 rfl ?_
  refine x_iadd i_238_10 ?_
  refine x_ret (v := some (.int (zI ((25 * ((31 * b) + m)) + v2)))) i_238_11 rfl (fun _ => rfl) rfl rfl rfl ?_
  show aW _ _ _ _ _ _ (108, [some (.ref 143), some (.int (zI m)), some (.int (zI b)), some (.int (zI le)), some (.int (zI n))], [.int (zI ((25 * ((31 * b) + m)) + v2)), .ref 158, .int (zI v1), .ref 143], es)
  refine x_iald (p := 94) i_234_108 hs_es rfl (by unfold i32 iLO iHI; omega) (by omega) (by omega) ?_
  obtain ⟨v3, e_v3⟩ : ∃ z : Int, z = (gA es 94 ((25 * ((31 * b) + m)) + v2).toNat).toInt := ⟨_, rfl⟩
  rw [← e_v3]
  have r_v3 : iLO ≤ v3 ∧ v3 ≤ iHI := by rw [e_v3]; exact i32_rng _
  unfold iLO iHI at r_v3
  have b_v3 : (0 : Int) ≤ v3 ∧ v3 ≤ (1000 : Int) := by rw [e_v3]; exact gA_bd hT_es (p := 94) (k := ((25 * ((31 * b) + m)) + v2).toNat) rfl (by omega) (by decide)
  refine x_iadd i_234_109 ?_
  refine x_puti (p := 79) (ty := .int) i_234_110 hs_es rfl rfl rfl (Or.inl rfl) ?_
  obtain ⟨es4, e_es4⟩ : ∃ z : PH, z = sI es 79 26 (.int (zI (v1 + v3))) := ⟨_, rfl⟩
  have hs_es4 : sh es4 := by rw [e_es4]; exact sh_sI hs_es (p := 79) (b := 26) rfl rfl
  have hT_es4 : hOK tT es4 := by rw [e_es4]; exact hOK_sI hT_es (p := 79) (b := 26) rfl rfl (by rw [zI_toInt (by unfold i32 iLO iHI; omega)]; exact ⟨by show (0 : Int) ≤ (v1 + v3); omega, by show (v1 + v3) ≤ (3000 : Int); omega⟩)
  rw [← e_es4]
  refine x_iinc (x := b) i_234_113 rfl (by show 2 < 5; decide) ?_
  show aW _ _ _ _ _ _ (116, [some (.ref 143), some (.int (zI m)), some (.int (zI (b + 1))), some (.int (zI le)), some (.int (zI n))], [], es4)
  refine x0 (r := (12, [some (.ref 143), some (.int (zI m)), some (.int (zI (b + 1))), some (.int (zI le)), some (.int (zI n))], [], es4)) i_234_116 rfl ?_
  exact K1 v1 e_v1 v2 e_v2 v3 e_v3 es4 e_es4
theorem s_bar0 {O : pOut} {d kc ks : Nat} {Q : pRes → Prop} {es : PH} {m : Int} (hs_es : sh es) (hT_es : hOK tT es)
    (K1 : aW O d 249 kc ks Q (4, [some (.ref 143), some (.int (zI m)), some (.int (zI 0)), some (.int (zI 0)), none], [], es)) :
    aW O d 249 kc ks Q (0, [some (.ref 143), some (.int (zI m)), none, none, none], [], es) := by
  refine x0 (r := (1, [some (.ref 143), some (.int (zI m)), none, none, none], [.int (zI 0)], es)) i_249_0 (by rfl) ?_
  refine x0 (r := (2, [some (.ref 143), some (.int (zI m)), some (.int (zI 0)), none, none], [], es)) i_249_1 rfl ?_
  refine x0 (r := (3, [some (.ref 143), some (.int (zI m)), some (.int (zI 0)), none, none], [.int (zI 0)], es)) i_249_2 (by rfl) ?_
  refine x0 (r := (4, [some (.ref 143), some (.int (zI m)), some (.int (zI 0)), some (.int (zI 0)), none], [], es)) i_249_3 rfl ?_
  exact K1

theorem s_bar4 {O : pOut} {d kc ks : Nat} {Q : pRes → Prop} {es : PH} {m f k : Int} {x4 : Option Value} (hs_es : sh es) (hm : 0 ≤ m ∧ m ≤ 30) (hf : 0 ≤ f ∧ f ≤ 1) (hk : 0 ≤ k ∧ k ≤ 10) (hc : (gA es 80 (Int.toNat 2)).toInt ≤ 10) (hq : k ≤ 9 → 0 ≤ (gA es 80 ((413 + (3 * k)) + 1).toNat).toInt ∧ (gA es 80 ((413 + (3 * k)) + 1).toNat).toInt ≤ 35) (hT_es : hOK tT es)
    (K1 : ∀ v1 : Int, v1 = (gA es 80 (Int.toNat 2)).toInt → v1 ≤ k → Q (.inl (some (.int (zI f))), es, kc, ks))
    (K2 : ∀ v1 : Int, v1 = (gA es 80 (Int.toNat 2)).toInt → ¬ (v1 ≤ k) → ∀ v3 : Int, v3 = (gI es 79 30).toInt → v3 ≠ 0 → Q (.inl (some (.int (zI f))), es, kc, ks))
    (K3 : ∀ v1 : Int, v1 = (gA es 80 (Int.toNat 2)).toInt → ¬ (v1 ≤ k) → ∀ v3 : Int, v3 = (gI es 79 30).toInt → ¬ (v3 ≠ 0) → f ≠ 0 → aW O (d + 1) 249 kc ks Q (4, [some (.ref 143), some (.int (zI m)), some (.int (zI 1)), some (.int (zI (k + 1))), some (.int (zI (413 + (3 * k))))], [], es))
    (K4 : ∀ v1 : Int, v1 = (gA es 80 (Int.toNat 2)).toInt → ¬ (v1 ≤ k) → ∀ v3 : Int, v3 = (gI es 79 30).toInt → ¬ (v3 ≠ 0) → ¬ (f ≠ 0) → ∀ v6 : Int, v6 = (gA es 80 (413 + (3 * k)).toNat).toInt → v6 ≠ m → aW O (d + 1) 249 kc ks Q (4, [some (.ref 143), some (.int (zI m)), some (.int (zI 0)), some (.int (zI (k + 1))), some (.int (zI (413 + (3 * k))))], [], es))
    (K5 : ∀ v1 : Int, v1 = (gA es 80 (Int.toNat 2)).toInt → ¬ (v1 ≤ k) → ∀ v3 : Int, v3 = (gI es 79 30).toInt → ¬ (v3 ≠ 0) → ¬ (f ≠ 0) → ∀ v6 : Int, v6 = (gA es 80 (413 + (3 * k)).toNat).toInt → ¬ (v6 ≠ m) → ∀ v8 : Int, v8 = (gA es 80 ((413 + (3 * k)) + 1).toNat).toInt → ∀ v9 : Int, v9 = (gA es 87 ((36 * m) + v8).toNat).toInt → ∀ v10 : Int, v10 = (gA es 80 ((413 + (3 * k)) + 2).toNat).toInt → v9 = v10 → aW O (d + 1) 249 kc ks Q (4, [some (.ref 143), some (.int (zI m)), some (.int (zI 0)), some (.int (zI (k + 1))), some (.int (zI (413 + (3 * k))))], [], es))
    (K6 : ∀ v1 : Int, v1 = (gA es 80 (Int.toNat 2)).toInt → ¬ (v1 ≤ k) → ∀ v3 : Int, v3 = (gI es 79 30).toInt → ¬ (v3 ≠ 0) → ¬ (f ≠ 0) → ∀ v6 : Int, v6 = (gA es 80 (413 + (3 * k)).toNat).toInt → ¬ (v6 ≠ m) → ∀ v8 : Int, v8 = (gA es 80 ((413 + (3 * k)) + 1).toNat).toInt → ∀ v9 : Int, v9 = (gA es 87 ((36 * m) + v8).toNat).toInt → ∀ v10 : Int, v10 = (gA es 80 ((413 + (3 * k)) + 2).toNat).toInt → ¬ (v9 = v10) → aW O (d + 1) 249 kc ks Q (4, [some (.ref 143), some (.int (zI m)), some (.int (zI 1)), some (.int (zI (k + 1))), some (.int (zI (413 + (3 * k))))], [], es)) :
    aW O (d + 1) 249 kc ks Q (4, [some (.ref 143), some (.int (zI m)), some (.int (zI f)), some (.int (zI k)), x4], [], es) := by
  refine x0 (r := (5, [some (.ref 143), some (.int (zI m)), some (.int (zI f)), some (.int (zI k)), x4], [.int (zI k)], es)) i_249_4 rfl ?_
  refine x0 (r := (6, [some (.ref 143), some (.int (zI m)), some (.int (zI f)), some (.int (zI k)), x4], [.ref 143, .int (zI k)], es)) i_249_5 rfl ?_
  refine x_getr (p := 79) (k := 144) i_249_6 hs_es rfl rfl ?_
  show aW _ _ _ _ _ _ (9, [some (.ref 143), some (.int (zI m)), some (.int (zI f)), some (.int (zI k)), x4], [.ref 144, .int (zI k)], es)
  refine x0 (r := (10, [some (.ref 143), some (.int (zI m)), some (.int (zI f)), some (.int (zI k)), x4], [.int (zI 2), .ref 144, .int (zI k)], es)) i_249_9 (by rfl) ?_
  refine x_iald (p := 80) i_249_10 hs_es rfl (by unfold i32 iLO iHI; omega) (by omega) (by omega) ?_
  obtain ⟨v1, e_v1⟩ : ∃ z : Int, z = (gA es 80 (Int.toNat 2)).toInt := ⟨_, rfl⟩
  rw [← e_v1]
  have r_v1 : iLO ≤ v1 ∧ v1 ≤ iHI := by rw [e_v1]; exact i32_rng _
  unfold iLO iHI at r_v1
  have b_v1 : (0 : Int) ≤ v1 ∧ v1 ≤ (10 : Int) := by rw [e_v1]; exact gA_bd hT_es (p := 80) (k := (Int.toNat 2)) rfl (by omega) (by decide)
  by_cases c2 : v1 ≤ k
  · refine x_cmpT i_249_11 (by unfold i32 iLO iHI; omega) (by unfold i32 iLO iHI; omega) rfl (by simp only [zC, cR]; omega) ?_
    refine x0 (r := (84, [some (.ref 143), some (.int (zI m)), some (.int (zI f)), some (.int (zI k)), x4], [.int (zI f)], es)) i_249_83 rfl ?_
    refine x_ret (v := some (.int (zI f))) i_249_84 rfl (fun _ => rfl) rfl rfl (pFin_b (by omega)) ?_
    exact K1 v1 e_v1 c2
  · refine x_cmpF i_249_11 (by unfold i32 iLO iHI; omega) (by unfold i32 iLO iHI; omega) rfl (by simp only [zC, cR]; omega) ?_
    refine x0 (r := (15, [some (.ref 143), some (.int (zI m)), some (.int (zI f)), some (.int (zI k)), x4], [.ref 143], es)) i_249_14 rfl ?_
    refine x_geti (p := 79) i_249_15 hs_es rfl rfl ?_
    obtain ⟨v3, e_v3⟩ : ∃ z : Int, z = (gI es 79 30).toInt := ⟨_, rfl⟩
    rw [← e_v3]
    have r_v3 : iLO ≤ v3 ∧ v3 ≤ iHI := by rw [e_v3]; exact i32_rng _
    unfold iLO iHI at r_v3
    have b_v3 : (0 : Int) ≤ v3 ∧ v3 ≤ (1 : Int) := by rw [e_v3]; exact gI_bd hT_es (p := 79) (b := 30) rfl rfl
    by_cases c4 : v3 ≠ 0
    · refine x_ifT i_249_18 (by unfold i32 iLO iHI; omega) rfl (by simp only [zC, cR]; omega) ?_
      refine x0 (r := (84, [some (.ref 143), some (.int (zI m)), some (.int (zI f)), some (.int (zI k)), x4], [.int (zI f)], es)) i_249_83 rfl ?_
      refine x_ret (v := some (.int (zI f))) i_249_84 rfl (fun _ => rfl) rfl rfl (pFin_b (by omega)) ?_
      exact K2 v1 e_v1 c2 v3 e_v3 c4
    · refine x_ifF i_249_18 (by unfold i32 iLO iHI; omega) rfl (by simp only [zC, cR]; omega) ?_
      refine x0 (r := (24, [some (.ref 143), some (.int (zI m)), some (.int (zI f)), some (.int (zI k)), x4], [.int (zI 413)], es)) i_249_21 (by rfl) ?_
      refine x0 (r := (25, [some (.ref 143), some (.int (zI m)), some (.int (zI f)), some (.int (zI k)), x4], [.int (zI 3), .int (zI 413)], es)) i_249_24 (by rfl) ?_
      refine x0 (r := (26, [some (.ref 143), some (.int (zI m)), some (.int (zI f)), some (.int (zI k)), x4], [.int (zI k), .int (zI 3), .int (zI 413)], es)) i_249_25 rfl ?_
      refine x_imul i_249_26 ?_
      refine x_iadd i_249_27 ?_
      refine x0 (r := (30, [some (.ref 143), some (.int (zI m)), some (.int (zI f)), some (.int (zI k)), some (.int (zI (413 + (3 * k))))], [], es)) i_249_28 rfl ?_
      refine x0 (r := (31, [some (.ref 143), some (.int (zI m)), some (.int (zI f)), some (.int (zI k)), some (.int (zI (413 + (3 * k))))], [.int (zI f)], es)) i_249_30 rfl ?_
      by_cases c5 : f ≠ 0
      · refine x_ifT i_249_31 (by unfold i32 iLO iHI; omega) rfl (by simp only [zC, cR]; omega) ?_
        refine x0 (r := (72, [some (.ref 143), some (.int (zI m)), some (.int (zI f)), some (.int (zI k)), some (.int (zI (413 + (3 * k))))], [.int (zI 1)], es)) i_249_71 (by rfl) ?_
        refine x0 (r := (76, [some (.ref 143), some (.int (zI m)), some (.int (zI f)), some (.int (zI k)), some (.int (zI (413 + (3 * k))))], [.int (zI 1)], es)) i_249_72 rfl ?_
        refine x0 (r := (77, [some (.ref 143), some (.int (zI m)), some (.int (zI 1)), some (.int (zI k)), some (.int (zI (413 + (3 * k))))], [], es)) i_249_76 rfl ?_
        refine x_iinc (x := k) i_249_77 rfl (by show 3 < 5; decide) ?_
        show aW _ _ _ _ _ _ (80, [some (.ref 143), some (.int (zI m)), some (.int (zI 1)), some (.int (zI (k + 1))), some (.int (zI (413 + (3 * k))))], [], es)
        refine x0 (r := (4, [some (.ref 143), some (.int (zI m)), some (.int (zI 1)), some (.int (zI (k + 1))), some (.int (zI (413 + (3 * k))))], [], es)) i_249_80 rfl ?_
        exact K3 v1 e_v1 c2 v3 e_v3 c4 c5
      · refine x_ifF i_249_31 (by unfold i32 iLO iHI; omega) rfl (by simp only [zC, cR]; omega) ?_
        refine x0 (r := (35, [some (.ref 143), some (.int (zI m)), some (.int (zI f)), some (.int (zI k)), some (.int (zI (413 + (3 * k))))], [.ref 143], es)) i_249_34 rfl ?_
        refine x_getr (p := 79) (k := 144) i_249_35 hs_es rfl rfl ?_
        show aW _ _ _ _ _ _ (38, [some (.ref 143), some (.int (zI m)), some (.int (zI f)), some (.int (zI k)), some (.int (zI (413 + (3 * k))))], [.ref 144], es)
        refine x0 (r := (40, [some (.ref 143), some (.int (zI m)), some (.int (zI f)), some (.int (zI k)), some (.int (zI (413 + (3 * k))))], [.int (zI (413 + (3 * k))), .ref 144], es)) i_249_38 rfl ?_
        refine x_iald (p := 80) i_249_40 hs_es rfl (by unfold i32 iLO iHI; omega) (by omega) (by omega) ?_
        obtain ⟨v6, e_v6⟩ : ∃ z : Int, z = (gA es 80 (413 + (3 * k)).toNat).toInt := ⟨_, rfl⟩
        rw [← e_v6]
        have r_v6 : iLO ≤ v6 ∧ v6 ≤ iHI := by rw [e_v6]; exact i32_rng _
        unfold iLO iHI at r_v6
        refine x0 (r := (42, [some (.ref 143), some (.int (zI m)), some (.int (zI f)), some (.int (zI k)), some (.int (zI (413 + (3 * k))))], [.int (zI m), .int (zI v6)], es)) i_249_41 rfl ?_
        by_cases c7 : v6 ≠ m
        · refine x_cmpT i_249_42 (by unfold i32 iLO iHI; omega) (by unfold i32 iLO iHI; omega) rfl (by simp only [zC, cR]; omega) ?_
          refine x0 (r := (76, [some (.ref 143), some (.int (zI m)), some (.int (zI f)), some (.int (zI k)), some (.int (zI (413 + (3 * k))))], [.int (zI 0)], es)) i_249_75 (by rfl) ?_
          refine x0 (r := (77, [some (.ref 143), some (.int (zI m)), some (.int (zI 0)), some (.int (zI k)), some (.int (zI (413 + (3 * k))))], [], es)) i_249_76 rfl ?_
          refine x_iinc (x := k) i_249_77 rfl (by show 3 < 5; decide) ?_
          show aW _ _ _ _ _ _ (80, [some (.ref 143), some (.int (zI m)), some (.int (zI 0)), some (.int (zI (k + 1))), some (.int (zI (413 + (3 * k))))], [], es)
          refine x0 (r := (4, [some (.ref 143), some (.int (zI m)), some (.int (zI 0)), some (.int (zI (k + 1))), some (.int (zI (413 + (3 * k))))], [], es)) i_249_80 rfl ?_
          exact K4 v1 e_v1 c2 v3 e_v3 c4 c5 v6 e_v6 c7
        · refine x_cmpF i_249_42 (by unfold i32 iLO iHI; omega) (by unfold i32 iLO iHI; omega) rfl (by simp only [zC, cR]; omega) ?_
          refine x0 (r := (46, [some (.ref 143), some (.int (zI m)), some (.int (zI f)), some (.int (zI k)), some (.int (zI (413 + (3 * k))))], [.ref 143], es)) i_249_45 rfl ?_
          refine x0 (r := (47, [some (.ref 143), some (.int (zI m)), some (.int (zI f)), some (.int (zI k)), some (.int (zI (413 + (3 * k))))], [.int (zI m), .ref 143], es)) i_249_46 rfl ?_
          refine x0 (r := (48, [some (.ref 143), some (.int (zI m)), some (.int (zI f)), some (.int (zI k)), some (.int (zI (413 + (3 * k))))], [.ref 143, .int (zI m), .ref 143], es)) i_249_47 rfl ?_
          refine x_getr (p := 79) (k := 144) i_249_48 hs_es rfl rfl ?_
          show aW _ _ _ _ _ _ (51, [some (.ref 143), some (.int (zI m)), some (.int (zI f)), some (.int (zI k)), some (.int (zI (413 + (3 * k))))], [.ref 144, .int (zI m), .ref 143], es)
          refine x0 (r := (53, [some (.ref 143), some (.int (zI m)), some (.int (zI f)), some (.int (zI k)), some (.int (zI (413 + (3 * k))))], [.int (zI (413 + (3 * k))), .ref 144, .int (zI m), .ref 143], es)) i_249_51 rfl ?_
          refine x0 (r := (54, [some (.ref 143), some (.int (zI m)), some (.int (zI f)), some (.int (zI k)), some (.int (zI (413 + (3 * k))))], [.int (zI 1), .int (zI (413 + (3 * k))), .ref 144, .int (zI m), .ref 143], es)) i_249_53 (by rfl) ?_
          refine x_iadd i_249_54 ?_
          refine x_iald (p := 80) i_249_55 hs_es rfl (by unfold i32 iLO iHI; omega) (by omega) (by omega) ?_
          obtain ⟨v8, e_v8⟩ : ∃ z : Int, z = (gA es 80 ((413 + (3 * k)) + 1).toNat).toInt := ⟨_, rfl⟩
          rw [← e_v8]
          have r_v8 : iLO ≤ v8 ∧ v8 ≤ iHI := by rw [e_v8]; exact i32_rng _
          unfold iLO iHI at r_v8
          refine x_call (vs := [.ref 143, .int (zI m), .int (zI v8)]) (rs := []) i_249_56 rfl (fun _ => rfl) rfl rfl rfl rfl rfl (pCall_v (p := 79) hs_es rfl rfl rfl rfl rfl (by decide) rfl rfl rfl rfl rfl) ?_
          show aW _ _ _ _ _ _ (0, [some (.ref 143), some (.int (zI m)), some (.int (zI v8))], [], es)
          refine x0 (r := (1, [some (.ref 143), some (.int (zI m)), some (.int (zI v8))], [.ref 143], es)) i_219_0 rfl ?_
          refine x_getr (p := 79) (k := 151) i_219_1 hs_es rfl rfl ?_
          show aW _ _ _ _ _ _ (4, [some (.ref 143), some (.int (zI m)), some (.int (zI v8))], [.ref 151], es)
          refine x0 (r := (6, [some (.ref 143), some (.int (zI m)), some (.int (zI v8))], [.int (zI 36), .ref 151], es)) i_219_4 (by rfl) ?_
          refine x0 (r := (7, [some (.ref 143), some (.int (zI m)), some (.int (zI v8))], [.int (zI m), .int (zI 36), .ref 151], es)) i_219_6 rfl ?_
          refine x_imul i_219_7 ?_
          refine x0 (r := (9, [some (.ref 143), some (.int (zI m)), some (.int (zI v8))], [.int (zI v8), .int (zI (36 * m)), .ref 151], es)) i_219_8 rfl ?_
          refine x_iadd i_219_9 ?_
          refine x_iald (p := 87) i_219_10 hs_es rfl (by unfold i32 iLO iHI; omega) (by omega) (by omega) ?_
          obtain ⟨v9, e_v9⟩ : ∃ z : Int, z = (gA es 87 ((36 * m) + v8).toNat).toInt := ⟨_, rfl⟩
          rw [← e_v9]
          have r_v9 : iLO ≤ v9 ∧ v9 ≤ iHI := by rw [e_v9]; exact i32_rng _
          unfold iLO iHI at r_v9
          have b_v9 : (-1 : Int) ≤ v9 ∧ v9 ≤ (9 : Int) := by rw [e_v9]; exact gA_bd hT_es (p := 87) (k := ((36 * m) + v8).toNat) rfl (by omega) (by decide)
          refine x_ret (v := some (.int (zI v9))) i_219_11 rfl (fun _ => rfl) rfl rfl rfl ?_
          show aW _ _ _ _ _ _ (59, [some (.ref 143), some (.int (zI m)), some (.int (zI f)), some (.int (zI k)), some (.int (zI (413 + (3 * k))))], [.int (zI v9)], es)
          refine x0 (r := (60, [some (.ref 143), some (.int (zI m)), some (.int (zI f)), some (.int (zI k)), some (.int (zI (413 + (3 * k))))], [.ref 143, .int (zI v9)], es)) i_249_59 rfl ?_
          refine x_getr (p := 79) (k := 144) i_249_60 hs_es rfl rfl ?_
          show aW _ _ _ _ _ _ (63, [some (.ref 143), some (.int (zI m)), some (.int (zI f)), some (.int (zI k)), some (.int (zI (413 + (3 * k))))], [.ref 144, .int (zI v9)], es)
          refine x0 (r := (65, [some (.ref 143), some (.int (zI m)), some (.int (zI f)), some (.int (zI k)), some (.int (zI (413 + (3 * k))))], [.int (zI (413 + (3 * k))), .ref 144, .int (zI v9)], es)) i_249_63 rfl ?_
          refine x0 (r := (66, [some (.ref 143), some (.int (zI m)), some (.int (zI f)), some (.int (zI k)), some (.int (zI (413 + (3 * k))))], [.int (zI 2), .int (zI (413 + (3 * k))), .ref 144, .int (zI v9)], es)) i_249_65 (by rfl) ?_
          refine x_iadd i_249_66 ?_
          refine x_iald (p := 80) i_249_67 hs_es rfl (by unfold i32 iLO iHI; omega) (by omega) (by omega) ?_
          obtain ⟨v10, e_v10⟩ : ∃ z : Int, z = (gA es 80 ((413 + (3 * k)) + 2).toNat).toInt := ⟨_, rfl⟩
          rw [← e_v10]
          have r_v10 : iLO ≤ v10 ∧ v10 ≤ iHI := by rw [e_v10]; exact i32_rng _
          unfold iLO iHI at r_v10
          by_cases c11 : v9 = v10
          · refine x_cmpT i_249_68 (by unfold i32 iLO iHI; omega) (by unfold i32 iLO iHI; omega) rfl (by simp only [zC, cR]; omega) ?_
            refine x0 (r := (76, [some (.ref 143), some (.int (zI m)), some (.int (zI f)), some (.int (zI k)), some (.int (zI (413 + (3 * k))))], [.int (zI 0)], es)) i_249_75 (by rfl) ?_
            refine x0 (r := (77, [some (.ref 143), some (.int (zI m)), some (.int (zI 0)), some (.int (zI k)), some (.int (zI (413 + (3 * k))))], [], es)) i_249_76 rfl ?_
            refine x_iinc (x := k) i_249_77 rfl (by show 3 < 5; decide) ?_
            show aW _ _ _ _ _ _ (80, [some (.ref 143), some (.int (zI m)), some (.int (zI 0)), some (.int (zI (k + 1))), some (.int (zI (413 + (3 * k))))], [], es)
            refine x0 (r := (4, [some (.ref 143), some (.int (zI m)), some (.int (zI 0)), some (.int (zI (k + 1))), some (.int (zI (413 + (3 * k))))], [], es)) i_249_80 rfl ?_
            exact K5 v1 e_v1 c2 v3 e_v3 c4 c5 v6 e_v6 c7 v8 e_v8 v9 e_v9 v10 e_v10 c11
          · refine x_cmpF i_249_68 (by unfold i32 iLO iHI; omega) (by unfold i32 iLO iHI; omega) rfl (by simp only [zC, cR]; omega) ?_
            refine x0 (r := (72, [some (.ref 143), some (.int (zI m)), some (.int (zI f)), some (.int (zI k)), some (.int (zI (413 + (3 * k))))], [.int (zI 1)], es)) i_249_71 (by rfl) ?_
            refine x0 (r := (76, [some (.ref 143), some (.int (zI m)), some (.int (zI f)), some (.int (zI k)), some (.int (zI (413 + (3 * k))))], [.int (zI 1)], es)) i_249_72 rfl ?_
            refine x0 (r := (77, [some (.ref 143), some (.int (zI m)), some (.int (zI 1)), some (.int (zI k)), some (.int (zI (413 + (3 * k))))], [], es)) i_249_76 rfl ?_
            refine x_iinc (x := k) i_249_77 rfl (by show 3 < 5; decide) ?_
            show aW _ _ _ _ _ _ (80, [some (.ref 143), some (.int (zI m)), some (.int (zI 1)), some (.int (zI (k + 1))), some (.int (zI (413 + (3 * k))))], [], es)
            refine x0 (r := (4, [some (.ref 143), some (.int (zI m)), some (.int (zI 1)), some (.int (zI (k + 1))), some (.int (zI (413 + (3 * k))))], [], es)) i_249_80 rfl ?_
            exact K6 v1 e_v1 c2 v3 e_v3 c4 c5 v6 e_v6 c7 v8 e_v8 v9 e_v9 v10 e_v10 c11

theorem s_len0 {O : pOut} {d kc ks : Nat} {Q : pRes → Prop} {es : PH} {m : Int} (hs_es : sh es) (hm : 0 ≤ m ∧ m ≤ 30) (hT_es : hOK tT es)
    (K1 : ∀ v1 : Int, v1 = (gI es 79 30).toInt → v1 ≠ 0 → aW O d 250 kc ks Q (34, [some (.ref 143), some (.int (zI m)), some (.int (zI 1)), some (.int (zI 0))], [], es))
    (K2 : ∀ v1 : Int, v1 = (gI es 79 30).toInt → ¬ (v1 ≠ 0) → ∀ v3 : Int, v3 = (gA es 80 (Int.toNat 3)).toInt → v3 < 0 → aW O d 250 kc ks Q (34, [some (.ref 143), some (.int (zI m)), some (.int (zI 1)), some (.int (zI 0))], [], es))
    (K3 : ∀ v1 : Int, v1 = (gI es 79 30).toInt → ¬ (v1 ≠ 0) → ∀ v3 : Int, v3 = (gA es 80 (Int.toNat 3)).toInt → ¬ (v3 < 0) → ∀ v5 : Int, v5 = (gA es 80 (Int.toNat 3)).toInt → v5 ≠ m → aW O d 250 kc ks Q (34, [some (.ref 143), some (.int (zI m)), some (.int (zI 0)), some (.int (zI 0))], [], es))
    (K4 : ∀ v1 : Int, v1 = (gI es 79 30).toInt → ¬ (v1 ≠ 0) → ∀ v3 : Int, v3 = (gA es 80 (Int.toNat 3)).toInt → ¬ (v3 < 0) → ∀ v5 : Int, v5 = (gA es 80 (Int.toNat 3)).toInt → ¬ (v5 ≠ m) → aW O d 250 kc ks Q (34, [some (.ref 143), some (.int (zI m)), some (.int (zI 1)), some (.int (zI 0))], [], es)) :
    aW O d 250 kc ks Q (0, [some (.ref 143), some (.int (zI m)), none, none], [], es) := by
  refine x0 (r := (1, [some (.ref 143), some (.int (zI m)), none, none], [.ref 143], es)) i_250_0 rfl ?_
  refine x_geti (p := 79) i_250_1 hs_es rfl rfl ?_
  obtain ⟨v1, e_v1⟩ : ∃ z : Int, z = (gI es 79 30).toInt := ⟨_, rfl⟩
  rw [← e_v1]
  have r_v1 : iLO ≤ v1 ∧ v1 ≤ iHI := by rw [e_v1]; exact i32_rng _
  unfold iLO iHI at r_v1
  have b_v1 : (0 : Int) ≤ v1 ∧ v1 ≤ (1 : Int) := by rw [e_v1]; exact gI_bd hT_es (p := 79) (b := 30) rfl rfl
  by_cases c2 : v1 ≠ 0
  · refine x_ifT i_250_4 (by unfold i32 iLO iHI; omega) rfl (by simp only [zC, cR]; omega) ?_
    refine x0 (r := (27, [some (.ref 143), some (.int (zI m)), none, none], [.int (zI 1)], es)) i_250_26 (by rfl) ?_
    refine x0 (r := (31, [some (.ref 143), some (.int (zI m)), none, none], [.int (zI 1)], es)) i_250_27 rfl ?_
    refine x0 (r := (32, [some (.ref 143), some (.int (zI m)), some (.int (zI 1)), none], [], es)) i_250_31 rfl ?_
    refine x0 (r := (33, [some (.ref 143), some (.int (zI m)), some (.int (zI 1)), none], [.int (zI 0)], es)) i_250_32 (by rfl) ?_
    refine x0 (r := (34, [some (.ref 143), some (.int (zI m)), some (.int (zI 1)), some (.int (zI 0))], [], es)) i_250_33 rfl ?_
    exact K1 v1 e_v1 c2
  · refine x_ifF i_250_4 (by unfold i32 iLO iHI; omega) rfl (by simp only [zC, cR]; omega) ?_
    refine x0 (r := (8, [some (.ref 143), some (.int (zI m)), none, none], [.ref 143], es)) i_250_7 rfl ?_
    refine x_getr (p := 79) (k := 144) i_250_8 hs_es rfl rfl ?_
    show aW _ _ _ _ _ _ (11, [some (.ref 143), some (.int (zI m)), none, none], [.ref 144], es)
    refine x0 (r := (12, [some (.ref 143), some (.int (zI m)), none, none], [.int (zI 3), .ref 144], es)) i_250_11 (by rfl) ?_
    refine x_iald (p := 80) i_250_12 hs_es rfl (by unfold i32 iLO iHI; omega) (by omega) (by omega) ?_
    obtain ⟨v3, e_v3⟩ : ∃ z : Int, z = (gA es 80 (Int.toNat 3)).toInt := ⟨_, rfl⟩
    rw [← e_v3]
    have r_v3 : iLO ≤ v3 ∧ v3 ≤ iHI := by rw [e_v3]; exact i32_rng _
    unfold iLO iHI at r_v3
    have b_v3 : (-1 : Int) ≤ v3 ∧ v3 ≤ (30 : Int) := by rw [e_v3]; exact gA_bd hT_es (p := 80) (k := (Int.toNat 3)) rfl (by omega) (by decide)
    by_cases c4 : v3 < 0
    · refine x_ifT i_250_13 (by unfold i32 iLO iHI; omega) rfl (by simp only [zC, cR]; omega) ?_
      refine x0 (r := (27, [some (.ref 143), some (.int (zI m)), none, none], [.int (zI 1)], es)) i_250_26 (by rfl) ?_
      refine x0 (r := (31, [some (.ref 143), some (.int (zI m)), none, none], [.int (zI 1)], es)) i_250_27 rfl ?_
      refine x0 (r := (32, [some (.ref 143), some (.int (zI m)), some (.int (zI 1)), none], [], es)) i_250_31 rfl ?_
      refine x0 (r := (33, [some (.ref 143), some (.int (zI m)), some (.int (zI 1)), none], [.int (zI 0)], es)) i_250_32 (by rfl) ?_
      refine x0 (r := (34, [some (.ref 143), some (.int (zI m)), some (.int (zI 1)), some (.int (zI 0))], [], es)) i_250_33 rfl ?_
      exact K2 v1 e_v1 c2 v3 e_v3 c4
    · refine x_ifF i_250_13 (by unfold i32 iLO iHI; omega) rfl (by simp only [zC, cR]; omega) ?_
      refine x0 (r := (17, [some (.ref 143), some (.int (zI m)), none, none], [.ref 143], es)) i_250_16 rfl ?_
      refine x_getr (p := 79) (k := 144) i_250_17 hs_es rfl rfl ?_
      show aW _ _ _ _ _ _ (20, [some (.ref 143), some (.int (zI m)), none, none], [.ref 144], es)
      refine x0 (r := (21, [some (.ref 143), some (.int (zI m)), none, none], [.int (zI 3), .ref 144], es)) i_250_20 (by rfl) ?_
      refine x_iald (p := 80) i_250_21 hs_es rfl (by unfold i32 iLO iHI; omega) (by omega) (by omega) ?_
      obtain ⟨v5, e_v5⟩ : ∃ z : Int, z = (gA es 80 (Int.toNat 3)).toInt := ⟨_, rfl⟩
      rw [← e_v5]
      have r_v5 : iLO ≤ v5 ∧ v5 ≤ iHI := by rw [e_v5]; exact i32_rng _
      unfold iLO iHI at r_v5
      have b_v5 : (-1 : Int) ≤ v5 ∧ v5 ≤ (30 : Int) := by rw [e_v5]; exact gA_bd hT_es (p := 80) (k := (Int.toNat 3)) rfl (by omega) (by decide)
      refine x0 (r := (23, [some (.ref 143), some (.int (zI m)), none, none], [.int (zI m), .int (zI v5)], es)) i_250_22 rfl ?_
      by_cases c6 : v5 ≠ m
      · refine x_cmpT i_250_23 (by unfold i32 iLO iHI; omega) (by unfold i32 iLO iHI; omega) rfl (by simp only [zC, cR]; omega) ?_
        refine x0 (r := (31, [some (.ref 143), some (.int (zI m)), none, none], [.int (zI 0)], es)) i_250_30 (by rfl) ?_
        refine x0 (r := (32, [some (.ref 143), some (.int (zI m)), some (.int (zI 0)), none], [], es)) i_250_31 rfl ?_
        refine x0 (r := (33, [some (.ref 143), some (.int (zI m)), some (.int (zI 0)), none], [.int (zI 0)], es)) i_250_32 (by rfl) ?_
        refine x0 (r := (34, [some (.ref 143), some (.int (zI m)), some (.int (zI 0)), some (.int (zI 0))], [], es)) i_250_33 rfl ?_
        exact K3 v1 e_v1 c2 v3 e_v3 c4 v5 e_v5 c6
      · refine x_cmpF i_250_23 (by unfold i32 iLO iHI; omega) (by unfold i32 iLO iHI; omega) rfl (by simp only [zC, cR]; omega) ?_
        refine x0 (r := (27, [some (.ref 143), some (.int (zI m)), none, none], [.int (zI 1)], es)) i_250_26 (by rfl) ?_
        refine x0 (r := (31, [some (.ref 143), some (.int (zI m)), none, none], [.int (zI 1)], es)) i_250_27 rfl ?_
        refine x0 (r := (32, [some (.ref 143), some (.int (zI m)), some (.int (zI 1)), none], [], es)) i_250_31 rfl ?_
        refine x0 (r := (33, [some (.ref 143), some (.int (zI m)), some (.int (zI 1)), none], [.int (zI 0)], es)) i_250_32 (by rfl) ?_
        refine x0 (r := (34, [some (.ref 143), some (.int (zI m)), some (.int (zI 1)), some (.int (zI 0))], [], es)) i_250_33 rfl ?_
        exact K4 v1 e_v1 c2 v3 e_v3 c4 v5 e_v5 c6

theorem s_len34 {O : pOut} {d kc ks : Nat} {Q : pRes → Prop} {es : PH} {m f k : Int} (hs_es : sh es) (hm : 0 ≤ m ∧ m ≤ 30) (hf : 0 ≤ f ∧ f ≤ 1) (hk : 0 ≤ k ∧ k ≤ 10) (hc : (gA es 80 (Int.toNat 2)).toInt ≤ 10) (hT_es : hOK tT es)
    (K1 : ∀ v1 : Int, v1 = (gA es 80 (Int.toNat 2)).toInt → v1 ≤ k → Q (.inl (some (.int (zI f))), es, kc, ks))
    (K2 : ∀ v1 : Int, v1 = (gA es 80 (Int.toNat 2)).toInt → ¬ (v1 ≤ k) → ∀ v3 : Int, v3 = (gI es 79 30).toInt → v3 ≠ 0 → Q (.inl (some (.int (zI f))), es, kc, ks))
    (K3 : ∀ v1 : Int, v1 = (gA es 80 (Int.toNat 2)).toInt → ¬ (v1 ≤ k) → ∀ v3 : Int, v3 = (gI es 79 30).toInt → ¬ (v3 ≠ 0) → f = 0 → aW O d 250 kc ks Q (34, [some (.ref 143), some (.int (zI m)), some (.int (zI 0)), some (.int (zI (k + 1)))], [], es))
    (K4 : ∀ v1 : Int, v1 = (gA es 80 (Int.toNat 2)).toInt → ¬ (v1 ≤ k) → ∀ v3 : Int, v3 = (gI es 79 30).toInt → ¬ (v3 ≠ 0) → ¬ (f = 0) → ∀ v6 : Int, v6 = (gA es 80 (413 + (3 * k)).toNat).toInt → m < v6 → aW O d 250 kc ks Q (34, [some (.ref 143), some (.int (zI m)), some (.int (zI 0)), some (.int (zI (k + 1)))], [], es))
    (K5 : ∀ v1 : Int, v1 = (gA es 80 (Int.toNat 2)).toInt → ¬ (v1 ≤ k) → ∀ v3 : Int, v3 = (gI es 79 30).toInt → ¬ (v3 ≠ 0) → ¬ (f = 0) → ∀ v6 : Int, v6 = (gA es 80 (413 + (3 * k)).toNat).toInt → ¬ (m < v6) → aW O d 250 kc ks Q (34, [some (.ref 143), some (.int (zI m)), some (.int (zI 1)), some (.int (zI (k + 1)))], [], es)) :
    aW O d 250 kc ks Q (34, [some (.ref 143), some (.int (zI m)), some (.int (zI f)), some (.int (zI k))], [], es) := by
  refine x0 (r := (35, [some (.ref 143), some (.int (zI m)), some (.int (zI f)), some (.int (zI k))], [.int (zI k)], es)) i_250_34 rfl ?_
  refine x0 (r := (36, [some (.ref 143), some (.int (zI m)), some (.int (zI f)), some (.int (zI k))], [.ref 143, .int (zI k)], es)) i_250_35 rfl ?_
  refine x_getr (p := 79) (k := 144) i_250_36 hs_es rfl rfl ?_
  show aW _ _ _ _ _ _ (39, [some (.ref 143), some (.int (zI m)), some (.int (zI f)), some (.int (zI k))], [.ref 144, .int (zI k)], es)
  refine x0 (r := (40, [some (.ref 143), some (.int (zI m)), some (.int (zI f)), some (.int (zI k))], [.int (zI 2), .ref 144, .int (zI k)], es)) i_250_39 (by rfl) ?_
  refine x_iald (p := 80) i_250_40 hs_es rfl (by unfold i32 iLO iHI; omega) (by omega) (by omega) ?_
  obtain ⟨v1, e_v1⟩ : ∃ z : Int, z = (gA es 80 (Int.toNat 2)).toInt := ⟨_, rfl⟩
  rw [← e_v1]
  have r_v1 : iLO ≤ v1 ∧ v1 ≤ iHI := by rw [e_v1]; exact i32_rng _
  unfold iLO iHI at r_v1
  have b_v1 : (0 : Int) ≤ v1 ∧ v1 ≤ (10 : Int) := by rw [e_v1]; exact gA_bd hT_es (p := 80) (k := (Int.toNat 2)) rfl (by omega) (by decide)
  by_cases c2 : v1 ≤ k
  · refine x_cmpT i_250_41 (by unfold i32 iLO iHI; omega) (by unfold i32 iLO iHI; omega) rfl (by simp only [zC, cR]; omega) ?_
    refine x0 (r := (84, [some (.ref 143), some (.int (zI m)), some (.int (zI f)), some (.int (zI k))], [.int (zI f)], es)) i_250_83 rfl ?_
    refine x_ret (v := some (.int (zI f))) i_250_84 rfl (fun _ => rfl) rfl rfl (pFin_b (by omega)) ?_
    exact K1 v1 e_v1 c2
  · refine x_cmpF i_250_41 (by unfold i32 iLO iHI; omega) (by unfold i32 iLO iHI; omega) rfl (by simp only [zC, cR]; omega) ?_
    refine x0 (r := (45, [some (.ref 143), some (.int (zI m)), some (.int (zI f)), some (.int (zI k))], [.ref 143], es)) i_250_44 rfl ?_
    refine x_geti (p := 79) i_250_45 hs_es rfl rfl ?_
    obtain ⟨v3, e_v3⟩ : ∃ z : Int, z = (gI es 79 30).toInt := ⟨_, rfl⟩
    rw [← e_v3]
    have r_v3 : iLO ≤ v3 ∧ v3 ≤ iHI := by rw [e_v3]; exact i32_rng _
    unfold iLO iHI at r_v3
    have b_v3 : (0 : Int) ≤ v3 ∧ v3 ≤ (1 : Int) := by rw [e_v3]; exact gI_bd hT_es (p := 79) (b := 30) rfl rfl
    by_cases c4 : v3 ≠ 0
    · refine x_ifT i_250_48 (by unfold i32 iLO iHI; omega) rfl (by simp only [zC, cR]; omega) ?_
      refine x0 (r := (84, [some (.ref 143), some (.int (zI m)), some (.int (zI f)), some (.int (zI k))], [.int (zI f)], es)) i_250_83 rfl ?_
      refine x_ret (v := some (.int (zI f))) i_250_84 rfl (fun _ => rfl) rfl rfl (pFin_b (by omega)) ?_
      exact K2 v1 e_v1 c2 v3 e_v3 c4
    · refine x_ifF i_250_48 (by unfold i32 iLO iHI; omega) rfl (by simp only [zC, cR]; omega) ?_
      refine x0 (r := (52, [some (.ref 143), some (.int (zI m)), some (.int (zI f)), some (.int (zI k))], [.int (zI f)], es)) i_250_51 rfl ?_
      by_cases c5 : f = 0
      · refine x_ifT i_250_52 (by unfold i32 iLO iHI; omega) rfl (by simp only [zC, cR]; omega) ?_
        refine x0 (r := (76, [some (.ref 143), some (.int (zI m)), some (.int (zI f)), some (.int (zI k))], [.int (zI 0)], es)) i_250_75 (by rfl) ?_
        refine x0 (r := (77, [some (.ref 143), some (.int (zI m)), some (.int (zI 0)), some (.int (zI k))], [], es)) i_250_76 rfl ?_
        refine x_iinc (x := k) i_250_77 rfl (by show 3 < 4; decide) ?_
        show aW _ _ _ _ _ _ (80, [some (.ref 143), some (.int (zI m)), some (.int (zI 0)), some (.int (zI (k + 1)))], [], es)
        refine x0 (r := (34, [some (.ref 143), some (.int (zI m)), some (.int (zI 0)), some (.int (zI (k + 1)))], [], es)) i_250_80 rfl ?_
        exact K3 v1 e_v1 c2 v3 e_v3 c4 c5
      · refine x_ifF i_250_52 (by unfold i32 iLO iHI; omega) rfl (by simp only [zC, cR]; omega) ?_
        refine x0 (r := (56, [some (.ref 143), some (.int (zI m)), some (.int (zI f)), some (.int (zI k))], [.ref 143], es)) i_250_55 rfl ?_
        refine x_getr (p := 79) (k := 144) i_250_56 hs_es rfl rfl ?_
        show aW _ _ _ _ _ _ (59, [some (.ref 143), some (.int (zI m)), some (.int (zI f)), some (.int (zI k))], [.ref 144], es)
        refine x0 (r := (62, [some (.ref 143), some (.int (zI m)), some (.int (zI f)), some (.int (zI k))], [.int (zI 413), .ref 144], es)) i_250_59 (by rfl) ?_
        refine x0 (r := (63, [some (.ref 143), some (.int (zI m)), some (.int (zI f)), some (.int (zI k))], [.int (zI 3), .int (zI 413), .ref 144], es)) i_250_62 (by rfl) ?_
        refine x0 (r := (64, [some (.ref 143), some (.int (zI m)), some (.int (zI f)), some (.int (zI k))], [.int (zI k), .int (zI 3), .int (zI 413), .ref 144], es)) i_250_63 rfl ?_
        refine x_imul i_250_64 ?_
        refine x_iadd i_250_65 ?_
        refine x_iald (p := 80) i_250_66 hs_es rfl (by unfold i32 iLO iHI; omega) (by omega) (by omega) ?_
        obtain ⟨v6, e_v6⟩ : ∃ z : Int, z = (gA es 80 (413 + (3 * k)).toNat).toInt := ⟨_, rfl⟩
        rw [← e_v6]
        have r_v6 : iLO ≤ v6 ∧ v6 ≤ iHI := by rw [e_v6]; exact i32_rng _
        unfold iLO iHI at r_v6
        refine x0 (r := (68, [some (.ref 143), some (.int (zI m)), some (.int (zI f)), some (.int (zI k))], [.int (zI m), .int (zI v6)], es)) i_250_67 rfl ?_
        by_cases c7 : m < v6
        · refine x_cmpT i_250_68 (by unfold i32 iLO iHI; omega) (by unfold i32 iLO iHI; omega) rfl (by simp only [zC, cR]; omega) ?_
          refine x0 (r := (76, [some (.ref 143), some (.int (zI m)), some (.int (zI f)), some (.int (zI k))], [.int (zI 0)], es)) i_250_75 (by rfl) ?_
          refine x0 (r := (77, [some (.ref 143), some (.int (zI m)), some (.int (zI 0)), some (.int (zI k))], [], es)) i_250_76 rfl ?_
          refine x_iinc (x := k) i_250_77 rfl (by show 3 < 4; decide) ?_
          show aW _ _ _ _ _ _ (80, [some (.ref 143), some (.int (zI m)), some (.int (zI 0)), some (.int (zI (k + 1)))], [], es)
          refine x0 (r := (34, [some (.ref 143), some (.int (zI m)), some (.int (zI 0)), some (.int (zI (k + 1)))], [], es)) i_250_80 rfl ?_
          exact K4 v1 e_v1 c2 v3 e_v3 c4 c5 v6 e_v6 c7
        · refine x_cmpF i_250_68 (by unfold i32 iLO iHI; omega) (by unfold i32 iLO iHI; omega) rfl (by simp only [zC, cR]; omega) ?_
          refine x0 (r := (72, [some (.ref 143), some (.int (zI m)), some (.int (zI f)), some (.int (zI k))], [.int (zI 1)], es)) i_250_71 (by rfl) ?_
          refine x0 (r := (76, [some (.ref 143), some (.int (zI m)), some (.int (zI f)), some (.int (zI k))], [.int (zI 1)], es)) i_250_72 rfl ?_
          refine x0 (r := (77, [some (.ref 143), some (.int (zI m)), some (.int (zI 1)), some (.int (zI k))], [], es)) i_250_76 rfl ?_
          refine x_iinc (x := k) i_250_77 rfl (by show 3 < 4; decide) ?_
          show aW _ _ _ _ _ _ (80, [some (.ref 143), some (.int (zI m)), some (.int (zI 1)), some (.int (zI (k + 1)))], [], es)
          refine x0 (r := (34, [some (.ref 143), some (.int (zI m)), some (.int (zI 1)), some (.int (zI (k + 1)))], [], es)) i_250_80 rfl ?_
          exact K5 v1 e_v1 c2 v3 e_v3 c4 c5 v6 e_v6 c7

theorem s_tk98_0 {O : pOut} {d kc ks : Nat} {Q : pRes → Prop} {es : PH} {m : Int} (hs_es : sh es) (hT_es : hOK tT es)
    (K1 : aW O d 251 kc ks Q (2, [some (.ref 143), some (.ref 162), some (.int (zI m)), some (.int (zI 0))], [], es)) :
    aW O d 251 kc ks Q (0, [some (.ref 143), some (.ref 162), some (.int (zI m)), none], [], es) := by
  refine x0 (r := (1, [some (.ref 143), some (.ref 162), some (.int (zI m)), none], [.int (zI 0)], es)) i_251_0 (by rfl) ?_
  refine x0 (r := (2, [some (.ref 143), some (.ref 162), some (.int (zI m)), some (.int (zI 0))], [], es)) i_251_1 rfl ?_
  exact K1

theorem s_tk98_2 {O : pOut} {d kc ks : Nat} {Q : pRes → Prop} {es : PH} {m k : Int} (hs_es : sh es) (hm : 0 ≤ m ∧ m ≤ 30) (hk : 0 ≤ k ∧ k ≤ 30) (hT_es : hOK tT es)
    (K1 : m ≤ k → Q (.inl (some (.int (zI m))), es, kc, ks))
    (K2 : ¬ (m ≤ k) → ∀ v2 : Int, v2 = (gA es 91 k.toNat).toInt → ∀ es3 : PH, es3 = sA es 98 k.toNat (zI v2) → aW O d 251 kc ks Q (2, [some (.ref 143), some (.ref 162), some (.int (zI m)), some (.int (zI (k + 1)))], [], es3)) :
    aW O d 251 kc ks Q (2, [some (.ref 143), some (.ref 162), some (.int (zI m)), some (.int (zI k))], [], es) := by
  refine x0 (r := (3, [some (.ref 143), some (.ref 162), some (.int (zI m)), some (.int (zI k))], [.int (zI k)], es)) i_251_2 rfl ?_
  refine x0 (r := (4, [some (.ref 143), some (.ref 162), some (.int (zI m)), some (.int (zI k))], [.int (zI m), .int (zI k)], es)) i_251_3 rfl ?_
  by_cases c1 : m ≤ k
  · refine x_cmpT i_251_4 (by unfold i32 iLO iHI; omega) (by unfold i32 iLO iHI; omega) rfl (by simp only [zC, cR]; omega) ?_
    refine x0 (r := (23, [some (.ref 143), some (.ref 162), some (.int (zI m)), some (.int (zI k))], [.int (zI m)], es)) i_251_22 rfl ?_
    refine x_ret (v := some (.int (zI m))) i_251_23 rfl (fun _ => rfl) rfl rfl rfl ?_
    exact K1 c1
  · refine x_cmpF i_251_4 (by unfold i32 iLO iHI; omega) (by unfold i32 iLO iHI; omega) rfl (by simp only [zC, cR]; omega) ?_
    refine x0 (r := (8, [some (.ref 143), some (.ref 162), some (.int (zI m)), some (.int (zI k))], [.ref 162], es)) i_251_7 rfl ?_
    refine x0 (r := (9, [some (.ref 143), some (.ref 162), some (.int (zI m)), some (.int (zI k))], [.int (zI k), .ref 162], es)) i_251_8 rfl ?_
    refine x0 (r := (10, [some (.ref 143), some (.ref 162), some (.int (zI m)), some (.int (zI k))], [.ref 143, .int (zI k), .ref 162], es)) i_251_9 rfl ?_
    refine x_getr (p := 79) (k := 155) i_251_10 hs_es rfl rfl ?_
    show aW _ _ _ _ _ _ (13, [some (.ref 143), some (.ref 162), some (.int (zI m)), some (.int (zI k))], [.ref 155, .int (zI k), .ref 162], es)
    refine x0 (r := (14, [some (.ref 143), some (.ref 162), some (.int (zI m)), some (.int (zI k))], [.int (zI k), .ref 155, .int (zI k), .ref 162], es)) i_251_13 rfl ?_
    refine x_iald (p := 91) i_251_14 hs_es rfl (by unfold i32 iLO iHI; omega) (by omega) (by omega) ?_
    obtain ⟨v2, e_v2⟩ : ∃ z : Int, z = (gA es 91 k.toNat).toInt := ⟨_, rfl⟩
    rw [← e_v2]
    have r_v2 : iLO ≤ v2 ∧ v2 ≤ iHI := by rw [e_v2]; exact i32_rng _
    unfold iLO iHI at r_v2
    have b_v2 : (0 : Int) ≤ v2 ∧ v2 ≤ (1295 : Int) := by rw [e_v2]; exact gA_bd hT_es (p := 91) (k := k.toNat) rfl (by omega) (by decide)
    refine x_iast (p := 98) i_251_15 hs_es rfl (by unfold i32 iLO iHI; omega) (by omega) (by omega) ?_
    obtain ⟨es3, e_es3⟩ : ∃ z : PH, z = sA es 98 k.toNat (zI v2) := ⟨_, rfl⟩
    have hs_es3 : sh es3 := by rw [e_es3]; exact sh_sA hs_es
    have hT_es3 : hOK tT es3 := by rw [e_es3]; exact hOK_sA hT_es (p := 98) (n := 30) rfl (fun _ => by rw [zI_toInt (by unfold i32 iLO iHI; omega)]; exact ⟨by show (0 : Int) ≤ v2; omega, by show v2 ≤ (1295 : Int); omega⟩)
    rw [← e_es3]
    refine x_iinc (x := k) i_251_16 rfl (by show 3 < 4; decide) ?_
    show aW _ _ _ _ _ _ (19, [some (.ref 143), some (.ref 162), some (.int (zI m)), some (.int (zI (k + 1)))], [], es3)
    refine x0 (r := (2, [some (.ref 143), some (.ref 162), some (.int (zI m)), some (.int (zI (k + 1)))], [], es3)) i_251_19 rfl ?_
    exact K2 c1 v2 e_v2 es3 e_es3

theorem s_tk99_0 {O : pOut} {d kc ks : Nat} {Q : pRes → Prop} {es : PH} {m : Int} (hs_es : sh es) (hT_es : hOK tT es)
    (K1 : aW O d 251 kc ks Q (2, [some (.ref 143), some (.ref 163), some (.int (zI m)), some (.int (zI 0))], [], es)) :
    aW O d 251 kc ks Q (0, [some (.ref 143), some (.ref 163), some (.int (zI m)), none], [], es) := by
  refine x0 (r := (1, [some (.ref 143), some (.ref 163), some (.int (zI m)), none], [.int (zI 0)], es)) i_251_0 (by rfl) ?_
  refine x0 (r := (2, [some (.ref 143), some (.ref 163), some (.int (zI m)), some (.int (zI 0))], [], es)) i_251_1 rfl ?_
  exact K1

theorem s_tk99_2 {O : pOut} {d kc ks : Nat} {Q : pRes → Prop} {es : PH} {m k : Int} (hs_es : sh es) (hm : 0 ≤ m ∧ m ≤ 30) (hk : 0 ≤ k ∧ k ≤ 30) (hT_es : hOK tT es)
    (K1 : m ≤ k → Q (.inl (some (.int (zI m))), es, kc, ks))
    (K2 : ¬ (m ≤ k) → ∀ v2 : Int, v2 = (gA es 91 k.toNat).toInt → ∀ es3 : PH, es3 = sA es 99 k.toNat (zI v2) → aW O d 251 kc ks Q (2, [some (.ref 143), some (.ref 163), some (.int (zI m)), some (.int (zI (k + 1)))], [], es3)) :
    aW O d 251 kc ks Q (2, [some (.ref 143), some (.ref 163), some (.int (zI m)), some (.int (zI k))], [], es) := by
  refine x0 (r := (3, [some (.ref 143), some (.ref 163), some (.int (zI m)), some (.int (zI k))], [.int (zI k)], es)) i_251_2 rfl ?_
  refine x0 (r := (4, [some (.ref 143), some (.ref 163), some (.int (zI m)), some (.int (zI k))], [.int (zI m), .int (zI k)], es)) i_251_3 rfl ?_
  by_cases c1 : m ≤ k
  · refine x_cmpT i_251_4 (by unfold i32 iLO iHI; omega) (by unfold i32 iLO iHI; omega) rfl (by simp only [zC, cR]; omega) ?_
    refine x0 (r := (23, [some (.ref 143), some (.ref 163), some (.int (zI m)), some (.int (zI k))], [.int (zI m)], es)) i_251_22 rfl ?_
    refine x_ret (v := some (.int (zI m))) i_251_23 rfl (fun _ => rfl) rfl rfl rfl ?_
    exact K1 c1
  · refine x_cmpF i_251_4 (by unfold i32 iLO iHI; omega) (by unfold i32 iLO iHI; omega) rfl (by simp only [zC, cR]; omega) ?_
    refine x0 (r := (8, [some (.ref 143), some (.ref 163), some (.int (zI m)), some (.int (zI k))], [.ref 163], es)) i_251_7 rfl ?_
    refine x0 (r := (9, [some (.ref 143), some (.ref 163), some (.int (zI m)), some (.int (zI k))], [.int (zI k), .ref 163], es)) i_251_8 rfl ?_
    refine x0 (r := (10, [some (.ref 143), some (.ref 163), some (.int (zI m)), some (.int (zI k))], [.ref 143, .int (zI k), .ref 163], es)) i_251_9 rfl ?_
    refine x_getr (p := 79) (k := 155) i_251_10 hs_es rfl rfl ?_
    show aW _ _ _ _ _ _ (13, [some (.ref 143), some (.ref 163), some (.int (zI m)), some (.int (zI k))], [.ref 155, .int (zI k), .ref 163], es)
    refine x0 (r := (14, [some (.ref 143), some (.ref 163), some (.int (zI m)), some (.int (zI k))], [.int (zI k), .ref 155, .int (zI k), .ref 163], es)) i_251_13 rfl ?_
    refine x_iald (p := 91) i_251_14 hs_es rfl (by unfold i32 iLO iHI; omega) (by omega) (by omega) ?_
    obtain ⟨v2, e_v2⟩ : ∃ z : Int, z = (gA es 91 k.toNat).toInt := ⟨_, rfl⟩
    rw [← e_v2]
    have r_v2 : iLO ≤ v2 ∧ v2 ≤ iHI := by rw [e_v2]; exact i32_rng _
    unfold iLO iHI at r_v2
    have b_v2 : (0 : Int) ≤ v2 ∧ v2 ≤ (1295 : Int) := by rw [e_v2]; exact gA_bd hT_es (p := 91) (k := k.toNat) rfl (by omega) (by decide)
    refine x_iast (p := 99) i_251_15 hs_es rfl (by unfold i32 iLO iHI; omega) (by omega) (by omega) ?_
    obtain ⟨es3, e_es3⟩ : ∃ z : PH, z = sA es 99 k.toNat (zI v2) := ⟨_, rfl⟩
    have hs_es3 : sh es3 := by rw [e_es3]; exact sh_sA hs_es
    have hT_es3 : hOK tT es3 := by rw [e_es3]; exact hOK_sA hT_es (p := 99) (n := 30) rfl (fun _ => by rw [zI_toInt (by unfold i32 iLO iHI; omega)]; exact ⟨by show (0 : Int) ≤ v2; omega, by show v2 ≤ (1295 : Int); omega⟩)
    rw [← e_es3]
    refine x_iinc (x := k) i_251_16 rfl (by show 3 < 4; decide) ?_
    show aW _ _ _ _ _ _ (19, [some (.ref 143), some (.ref 163), some (.int (zI m)), some (.int (zI (k + 1)))], [], es3)
    refine x0 (r := (2, [some (.ref 143), some (.ref 163), some (.int (zI m)), some (.int (zI (k + 1)))], [], es3)) i_251_19 rfl ?_
    exact K2 c1 v2 e_v2 es3 e_es3

theorem s_tk100_0 {O : pOut} {d kc ks : Nat} {Q : pRes → Prop} {es : PH} {m : Int} (hs_es : sh es) (hT_es : hOK tT es)
    (K1 : aW O d 251 kc ks Q (2, [some (.ref 143), some (.ref 164), some (.int (zI m)), some (.int (zI 0))], [], es)) :
    aW O d 251 kc ks Q (0, [some (.ref 143), some (.ref 164), some (.int (zI m)), none], [], es) := by
  refine x0 (r := (1, [some (.ref 143), some (.ref 164), some (.int (zI m)), none], [.int (zI 0)], es)) i_251_0 (by rfl) ?_
  refine x0 (r := (2, [some (.ref 143), some (.ref 164), some (.int (zI m)), some (.int (zI 0))], [], es)) i_251_1 rfl ?_
  exact K1

theorem s_tk100_2 {O : pOut} {d kc ks : Nat} {Q : pRes → Prop} {es : PH} {m k : Int} (hs_es : sh es) (hm : 0 ≤ m ∧ m ≤ 30) (hk : 0 ≤ k ∧ k ≤ 30) (hT_es : hOK tT es)
    (K1 : m ≤ k → Q (.inl (some (.int (zI m))), es, kc, ks))
    (K2 : ¬ (m ≤ k) → ∀ v2 : Int, v2 = (gA es 91 k.toNat).toInt → ∀ es3 : PH, es3 = sA es 100 k.toNat (zI v2) → aW O d 251 kc ks Q (2, [some (.ref 143), some (.ref 164), some (.int (zI m)), some (.int (zI (k + 1)))], [], es3)) :
    aW O d 251 kc ks Q (2, [some (.ref 143), some (.ref 164), some (.int (zI m)), some (.int (zI k))], [], es) := by
  refine x0 (r := (3, [some (.ref 143), some (.ref 164), some (.int (zI m)), some (.int (zI k))], [.int (zI k)], es)) i_251_2 rfl ?_
  refine x0 (r := (4, [some (.ref 143), some (.ref 164), some (.int (zI m)), some (.int (zI k))], [.int (zI m), .int (zI k)], es)) i_251_3 rfl ?_
  by_cases c1 : m ≤ k
  · refine x_cmpT i_251_4 (by unfold i32 iLO iHI; omega) (by unfold i32 iLO iHI; omega) rfl (by simp only [zC, cR]; omega) ?_
    refine x0 (r := (23, [some (.ref 143), some (.ref 164), some (.int (zI m)), some (.int (zI k))], [.int (zI m)], es)) i_251_22 rfl ?_
    refine x_ret (v := some (.int (zI m))) i_251_23 rfl (fun _ => rfl) rfl rfl rfl ?_
    exact K1 c1
  · refine x_cmpF i_251_4 (by unfold i32 iLO iHI; omega) (by unfold i32 iLO iHI; omega) rfl (by simp only [zC, cR]; omega) ?_
    refine x0 (r := (8, [some (.ref 143), some (.ref 164), some (.int (zI m)), some (.int (zI k))], [.ref 164], es)) i_251_7 rfl ?_
    refine x0 (r := (9, [some (.ref 143), some (.ref 164), some (.int (zI m)), some (.int (zI k))], [.int (zI k), .ref 164], es)) i_251_8 rfl ?_
    refine x0 (r := (10, [some (.ref 143), some (.ref 164), some (.int (zI m)), some (.int (zI k))], [.ref 143, .int (zI k), .ref 164], es)) i_251_9 rfl ?_
    refine x_getr (p := 79) (k := 155) i_251_10 hs_es rfl rfl ?_
    show aW _ _ _ _ _ _ (13, [some (.ref 143), some (.ref 164), some (.int (zI m)), some (.int (zI k))], [.ref 155, .int (zI k), .ref 164], es)
    refine x0 (r := (14, [some (.ref 143), some (.ref 164), some (.int (zI m)), some (.int (zI k))], [.int (zI k), .ref 155, .int (zI k), .ref 164], es)) i_251_13 rfl ?_
    refine x_iald (p := 91) i_251_14 hs_es rfl (by unfold i32 iLO iHI; omega) (by omega) (by omega) ?_
    obtain ⟨v2, e_v2⟩ : ∃ z : Int, z = (gA es 91 k.toNat).toInt := ⟨_, rfl⟩
    rw [← e_v2]
    have r_v2 : iLO ≤ v2 ∧ v2 ≤ iHI := by rw [e_v2]; exact i32_rng _
    unfold iLO iHI at r_v2
    have b_v2 : (0 : Int) ≤ v2 ∧ v2 ≤ (1295 : Int) := by rw [e_v2]; exact gA_bd hT_es (p := 91) (k := k.toNat) rfl (by omega) (by decide)
    refine x_iast (p := 100) i_251_15 hs_es rfl (by unfold i32 iLO iHI; omega) (by omega) (by omega) ?_
    obtain ⟨es3, e_es3⟩ : ∃ z : PH, z = sA es 100 k.toNat (zI v2) := ⟨_, rfl⟩
    have hs_es3 : sh es3 := by rw [e_es3]; exact sh_sA hs_es
    have hT_es3 : hOK tT es3 := by rw [e_es3]; exact hOK_sA hT_es (p := 100) (n := 30) rfl (fun _ => by rw [zI_toInt (by unfold i32 iLO iHI; omega)]; exact ⟨by show (0 : Int) ≤ v2; omega, by show v2 ≤ (1295 : Int); omega⟩)
    rw [← e_es3]
    refine x_iinc (x := k) i_251_16 rfl (by show 3 < 4; decide) ?_
    show aW _ _ _ _ _ _ (19, [some (.ref 143), some (.ref 164), some (.int (zI m)), some (.int (zI (k + 1)))], [], es3)
    refine x0 (r := (2, [some (.ref 143), some (.ref 164), some (.int (zI m)), some (.int (zI (k + 1)))], [], es3)) i_251_19 rfl ?_
    exact K2 c1 v2 e_v2 es3 e_es3
