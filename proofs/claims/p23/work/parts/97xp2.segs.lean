theorem i_29_0 : iRow 29 0 = some (.aload_n 0, 0, 0, 0, none) := rfl
theorem i_29_1 : iRow 29 1 = some (.dup, 0, 0, 0, none) := rfl
theorem i_29_2 : iRow 29 2 = some (.getfield 74, 125, 7, 16, none) := rfl
theorem i_29_5 : iRow 29 5 = some (.iconst 1, 0, 0, 0, none) := rfl
theorem i_29_6 : iRow 29 6 = some (.iadd, 0, 0, 0, none) := rfl
theorem i_29_7 : iRow 29 7 = some (.putfield 74, 125, 7, 16, none) := rfl
theorem i_29_10 : iRow 29 10 = some (.aload_n 0, 0, 0, 0, none) := rfl
theorem i_29_11 : iRow 29 11 = some (.aload_n 0, 0, 0, 0, none) := rfl
theorem i_29_12 : iRow 29 12 = some (.getfield 98, 126, 7, 17, none) := rfl
theorem i_29_15 : iRow 29 15 = some (.iload_n 1, 0, 0, 0, none) := rfl
theorem i_29_16 : iRow 29 16 = some (.invokestatic 119, 37, 30, 0, none) := rfl
theorem i_29_19 : iRow 29 19 = some (.putfield 98, 126, 7, 17, none) := rfl
theorem i_29_22 : iRow 29 22 = some (.aload_n 0, 0, 0, 0, none) := rfl
theorem i_29_23 : iRow 29 23 = some (.invokevirtual 88, 38, 31, 1, none) := rfl
theorem i_29_26 : iRow 29 26 = some (.ifCond .ne 22, 0, 0, 0, none) := rfl
theorem i_29_29 : iRow 29 29 = some (.aload_n 0, 0, 0, 0, none) := rfl
theorem i_29_30 : iRow 29 30 = some (.getfield 12, 99, 7, 2, none) := rfl
theorem i_29_33 : iRow 29 33 = some (.aload_n 0, 0, 0, 0, none) := rfl
theorem i_29_34 : iRow 29 34 = some (.getfield 45, 97, 7, 0, none) := rfl
theorem i_29_37 : iRow 29 37 = some (.aload_n 0, 0, 0, 0, none) := rfl
theorem i_29_38 : iRow 29 38 = some (.getfield 54, 98, 7, 1, none) := rfl
theorem i_29_41 : iRow 29 41 = some (.iload_n 1, 0, 0, 0, none) := rfl
theorem i_29_42 : iRow 29 42 = some (.invokevirtual 125, 39, 32, 1, none) := rfl
theorem i_29_45 : iRow 29 45 = some (.ifCond .eq 4, 0, 0, 0, none) := rfl
theorem i_29_48 : iRow 29 48 = some (.return_, 0, 0, 0, none) := rfl
theorem i_29_49 : iRow 29 49 = some (.aload_n 0, 0, 0, 0, none) := rfl
theorem i_29_50 : iRow 29 50 = some (.iload_n 1, 0, 0, 0, none) := rfl
theorem i_29_51 : iRow 29 51 = some (.invokevirtual 129, 40, 33, 1, none) := rfl
theorem i_29_54 : iRow 29 54 = some (.iload_n 1, 0, 0, 0, none) := rfl
theorem i_29_55 : iRow 29 55 = some (.bipush 30, 0, 0, 0, none) := rfl
theorem i_29_57 : iRow 29 57 = some (.if_icmp .ge 18, 0, 0, 0, none) := rfl
theorem i_29_60 : iRow 29 60 = some (.iload_n 1, 0, 0, 0, none) := rfl
theorem i_29_61 : iRow 29 61 = some (.aload_n 0, 0, 0, 0, none) := rfl
theorem i_29_62 : iRow 29 62 = some (.getfield 12, 99, 7, 2, none) := rfl
theorem i_29_65 : iRow 29 65 = some (.aload_n 0, 0, 0, 0, none) := rfl
theorem i_29_66 : iRow 29 66 = some (.getfield 45, 97, 7, 0, none) := rfl
theorem i_29_69 : iRow 29 69 = some (.invokevirtual 132, 47, 40, 1, none) := rfl
theorem i_29_72 : iRow 29 72 = some (.if_icmp .lt 7, 0, 0, 0, none) := rfl
theorem i_29_79 : iRow 29 79 = some (.iconst 0, 0, 0, 0, none) := rfl
theorem i_29_80 : iRow 29 80 = some (.istore_n 2, 0, 0, 0, none) := rfl
theorem i_29_81 : iRow 29 81 = some (.iload_n 2, 0, 0, 0, none) := rfl
theorem i_29_82 : iRow 29 82 = some (.ifCond .eq 7, 0, 0, 0, none) := rfl
theorem i_29_89 : iRow 29 89 = some (.aload_n 0, 0, 0, 0, none) := rfl
theorem i_29_90 : iRow 29 90 = some (.getfield 63, 101, 7, 3, none) := rfl
theorem i_29_93 : iRow 29 93 = some (.iload_n 1, 0, 0, 0, none) := rfl
theorem i_29_94 : iRow 29 94 = some (.invokevirtual 136, 48, 41, 1, none) := rfl
theorem i_29_97 : iRow 29 97 = some (.lstore_n 3, 0, 0, 0, none) := rfl
theorem i_29_98 : iRow 29 98 = some (.iconst 0, 0, 0, 0, none) := rfl
theorem i_29_99 : iRow 29 99 = some (.istore 5, 0, 0, 0, none) := rfl
theorem i_29_101 : iRow 29 101 = some (.iload 5, 0, 0, 0, none) := rfl
theorem i_29_103 : iRow 29 103 = some (.bipush 36, 0, 0, 0, none) := rfl
theorem i_29_105 : iRow 29 105 = some (.if_icmp .ge 221, 0, 0, 0, none) := rfl
theorem i_29_108 : iRow 29 108 = some (.lload_n 3, 0, 0, 0, none) := rfl
theorem i_29_109 : iRow 29 109 = some (.lconst 0, 0, 0, 0, none) := rfl
theorem i_29_110 : iRow 29 110 = some (.lcmp, 0, 0, 0, none) := rfl
theorem i_29_111 : iRow 29 111 = some (.ifCond .eq 215, 0, 0, 0, none) := rfl
theorem i_29_114 : iRow 29 114 = some (.aload_n 0, 0, 0, 0, none) := rfl
theorem i_29_115 : iRow 29 115 = some (.invokevirtual 88, 38, 31, 1, none) := rfl
theorem i_29_118 : iRow 29 118 = some (.ifCond .ne 208, 0, 0, 0, none) := rfl
theorem i_29_121 : iRow 29 121 = some (.aload_n 0, 0, 0, 0, none) := rfl
theorem i_29_122 : iRow 29 122 = some (.getfield 54, 98, 7, 1, none) := rfl
theorem i_29_125 : iRow 29 125 = some (.iload 5, 0, 0, 0, none) := rfl
theorem i_29_127 : iRow 29 127 = some (.iload_n 1, 0, 0, 0, none) := rfl
theorem i_29_128 : iRow 29 128 = some (.iconst 1, 0, 0, 0, none) := rfl
theorem i_29_129 : iRow 29 129 = some (.iand, 0, 0, 0, none) := rfl
theorem i_29_130 : iRow 29 130 = some (.invokevirtual 140, 53, 47, 1, none) := rfl
theorem i_29_133 : iRow 29 133 = some (.lload_n 3, 0, 0, 0, none) := rfl
theorem i_29_134 : iRow 29 134 = some (.land, 0, 0, 0, none) := rfl
theorem i_29_135 : iRow 29 135 = some (.lstore 6, 0, 0, 0, none) := rfl
theorem i_29_137 : iRow 29 137 = some (.aload_n 0, 0, 0, 0, none) := rfl
theorem i_29_138 : iRow 29 138 = some (.getfield 54, 98, 7, 1, none) := rfl
theorem i_29_141 : iRow 29 141 = some (.getfield 144, 59, 0, 1, none) := rfl
theorem i_29_144 : iRow 29 144 = some (.iload 5, 0, 0, 0, none) := rfl
theorem i_29_146 : iRow 29 146 = some (.invokestatic 147, 12, 28, 3, none) := rfl
theorem i_29_149 : iRow 29 149 = some (.invokestatic 151, 19, 49, 3, none) := rfl
theorem i_29_152 : iRow 29 152 = some (.istore 8, 0, 0, 0, none) := rfl
theorem i_29_154 : iRow 29 154 = some (.iconst 0, 0, 0, 0, none) := rfl
theorem i_29_155 : iRow 29 155 = some (.istore 9, 0, 0, 0, none) := rfl
theorem i_29_157 : iRow 29 157 = some (.iload 9, 0, 0, 0, none) := rfl
theorem i_29_159 : iRow 29 159 = some (.bipush 36, 0, 0, 0, none) := rfl
theorem i_29_161 : iRow 29 161 = some (.if_icmp .ge 159, 0, 0, 0, none) := rfl
theorem i_29_164 : iRow 29 164 = some (.lload 6, 0, 0, 0, none) := rfl
theorem i_29_166 : iRow 29 166 = some (.lconst 0, 0, 0, 0, none) := rfl
theorem i_29_167 : iRow 29 167 = some (.lcmp, 0, 0, 0, none) := rfl
theorem i_29_168 : iRow 29 168 = some (.ifCond .eq 152, 0, 0, 0, none) := rfl
theorem i_29_171 : iRow 29 171 = some (.aload_n 0, 0, 0, 0, none) := rfl
theorem i_29_172 : iRow 29 172 = some (.invokevirtual 88, 38, 31, 1, none) := rfl
theorem i_29_175 : iRow 29 175 = some (.ifCond .ne 145, 0, 0, 0, none) := rfl
theorem i_29_178 : iRow 29 178 = some (.bipush 36, 0, 0, 0, none) := rfl
theorem i_29_180 : iRow 29 180 = some (.iload 5, 0, 0, 0, none) := rfl
theorem i_29_182 : iRow 29 182 = some (.imul, 0, 0, 0, none) := rfl
theorem i_29_183 : iRow 29 183 = some (.iload 9, 0, 0, 0, none) := rfl
theorem i_29_185 : iRow 29 185 = some (.iadd, 0, 0, 0, none) := rfl
theorem i_29_186 : iRow 29 186 = some (.istore 10, 0, 0, 0, none) := rfl
theorem i_29_188 : iRow 29 188 = some (.lload 6, 0, 0, 0, none) := rfl
theorem i_29_190 : iRow 29 190 = some (.iload 9, 0, 0, 0, none) := rfl
theorem i_29_192 : iRow 29 192 = some (.lushr, 0, 0, 0, none) := rfl
theorem i_29_193 : iRow 29 193 = some (.lconst 1, 0, 0, 0, none) := rfl
theorem i_29_194 : iRow 29 194 = some (.land, 0, 0, 0, none) := rfl
theorem i_29_195 : iRow 29 195 = some (.lconst 0, 0, 0, 0, none) := rfl
theorem i_29_196 : iRow 29 196 = some (.lcmp, 0, 0, 0, none) := rfl
theorem i_29_197 : iRow 29 197 = some (.ifCond .eq 117, 0, 0, 0, none) := rfl
theorem i_29_200 : iRow 29 200 = some (.aload_n 0, 0, 0, 0, none) := rfl
theorem i_29_201 : iRow 29 201 = some (.getfield 63, 101, 7, 3, none) := rfl
theorem i_29_204 : iRow 29 204 = some (.iload_n 1, 0, 0, 0, none) := rfl
theorem i_29_205 : iRow 29 205 = some (.iload 8, 0, 0, 0, none) := rfl
theorem i_29_207 : iRow 29 207 = some (.iload 10, 0, 0, 0, none) := rfl
theorem i_29_209 : iRow 29 209 = some (.invokevirtual 155, 57, 53, 1, none) := rfl
theorem i_29_212 : iRow 29 212 = some (.aload_n 0, 0, 0, 0, none) := rfl
theorem i_29_213 : iRow 29 213 = some (.getfield 63, 101, 7, 3, none) := rfl
theorem i_29_216 : iRow 29 216 = some (.getfield 159, 92, 4, 2, none) := rfl
theorem i_29_219 : iRow 29 219 = some (.if_icmp .gt 95, 0, 0, 0, none) := rfl
theorem i_29_222 : iRow 29 222 = some (.aload_n 0, 0, 0, 0, none) := rfl
theorem i_29_223 : iRow 29 223 = some (.getfield 54, 98, 7, 1, none) := rfl
theorem i_29_226 : iRow 29 226 = some (.iload 10, 0, 0, 0, none) := rfl
theorem i_29_228 : iRow 29 228 = some (.invokevirtual 162, 62, 58, 1, none) := rfl
theorem i_29_231 : iRow 29 231 = some (.istore 11, 0, 0, 0, none) := rfl
theorem i_29_233 : iRow 29 233 = some (.aload_n 0, 0, 0, 0, none) := rfl
theorem i_29_234 : iRow 29 234 = some (.getfield 38, 122, 7, 13, none) := rfl
theorem i_29_237 : iRow 29 237 = some (.iload_n 1, 0, 0, 0, none) := rfl
theorem i_29_238 : iRow 29 238 = some (.iload 10, 0, 0, 0, none) := rfl
theorem i_29_240 : iRow 29 240 = some (.invokestatic 165, 21, 14, 3, none) := rfl
set_option maxRecDepth 20000 in
theorem i_29_243 : iRow 29 243 = some (.aload_n 0, 0, 0, 0, none) := rfl
set_option maxRecDepth 20000 in
theorem i_29_244 : iRow 29 244 = some (.getfield 111, 124, 7, 15, none) := rfl
set_option maxRecDepth 20000 in
theorem i_29_247 : iRow 29 247 = some (.iconst 1, 0, 0, 0, none) := rfl
set_option maxRecDepth 20000 in
theorem i_29_248 : iRow 29 248 = some (.if_icmp .ne 48, 0, 0, 0, none) := rfl
set_option maxRecDepth 20000 in
theorem i_29_296 : iRow 29 296 = some (.aload_n 0, 0, 0, 0, none) := rfl
set_option maxRecDepth 20000 in
theorem i_29_297 : iRow 29 297 = some (.iload_n 1, 0, 0, 0, none) := rfl
set_option maxRecDepth 20000 in
theorem i_29_298 : iRow 29 298 = some (.iconst 1, 0, 0, 0, none) := rfl
set_option maxRecDepth 20000 in
theorem i_29_299 : iRow 29 299 = some (.iadd, 0, 0, 0, none) := rfl
set_option maxRecDepth 20000 in
theorem i_29_300 : iRow 29 300 = some (.invokevirtual 84, 36, 29, 1, none) := rfl
set_option maxRecDepth 20000 in
theorem i_29_303 : iRow 29 303 = some (.aload_n 0, 0, 0, 0, none) := rfl
set_option maxRecDepth 20000 in
theorem i_29_304 : iRow 29 304 = some (.getfield 54, 98, 7, 1, none) := rfl
set_option maxRecDepth 20000 in
theorem i_29_307 : iRow 29 307 = some (.iload 10, 0, 0, 0, none) := rfl
set_option maxRecDepth 20000 in
theorem i_29_309 : iRow 29 309 = some (.iload 11, 0, 0, 0, none) := rfl
set_option maxRecDepth 20000 in
theorem i_29_311 : iRow 29 311 = some (.invokevirtual 173, 71, 66, 1, none) := rfl
set_option maxRecDepth 20000 in
theorem i_29_314 : iRow 29 314 = some (.iinc 9 1, 0, 0, 0, none) := rfl
set_option maxRecDepth 20000 in
theorem i_29_317 : iRow 29 317 = some (.goto (-160), 0, 0, 0, none) := rfl
set_option maxRecDepth 20000 in
theorem i_29_320 : iRow 29 320 = some (.iinc 5 1, 0, 0, 0, none) := rfl
set_option maxRecDepth 20000 in
theorem i_29_323 : iRow 29 323 = some (.goto (-222), 0, 0, 0, none) := rfl
set_option maxRecDepth 20000 in
theorem i_29_326 : iRow 29 326 = some (.return_, 0, 0, 0, none) := rfl
theorem i_31_0 : iRow 31 0 = some (.aload_n 0, 0, 0, 0, (some (Jvm.ClassFile.FieldType.boolean))) := rfl
theorem i_31_1 : iRow 31 1 = some (.getfield 74, 125, 7, 16, (some (Jvm.ClassFile.FieldType.boolean))) := rfl
theorem i_31_4 : iRow 31 4 = some (.sipush 8000, 0, 0, 0, (some (Jvm.ClassFile.FieldType.boolean))) := rfl
theorem i_31_7 : iRow 31 7 = some (.if_icmp .le 7, 0, 0, 0, (some (Jvm.ClassFile.FieldType.boolean))) := rfl
theorem i_31_10 : iRow 31 10 = some (.iconst 1, 0, 0, 0, (some (Jvm.ClassFile.FieldType.boolean))) := rfl
theorem i_31_11 : iRow 31 11 = some (.goto 4, 0, 0, 0, (some (Jvm.ClassFile.FieldType.boolean))) := rfl
theorem i_31_14 : iRow 31 14 = some (.iconst 0, 0, 0, 0, (some (Jvm.ClassFile.FieldType.boolean))) := rfl
theorem i_31_15 : iRow 31 15 = some (.ireturn, 0, 0, 0, (some (Jvm.ClassFile.FieldType.boolean))) := rfl
theorem i_32_0 : iRow 32 0 = some (.iconst 0, 0, 0, 0, (some (Jvm.ClassFile.FieldType.boolean))) := rfl
theorem i_32_1 : iRow 32 1 = some (.istore 4, 0, 0, 0, (some (Jvm.ClassFile.FieldType.boolean))) := rfl
theorem i_32_3 : iRow 32 3 = some (.aload_n 0, 0, 0, 0, (some (Jvm.ClassFile.FieldType.boolean))) := rfl
theorem i_32_4 : iRow 32 4 = some (.getfield 30, 64, 5, 2, (some (Jvm.ClassFile.FieldType.boolean))) := rfl
theorem i_32_7 : iRow 32 7 = some (.ifCond .eq 71, 0, 0, 0, (some (Jvm.ClassFile.FieldType.boolean))) := rfl
theorem i_32_78 : iRow 32 78 = some (.iconst 0, 0, 0, 0, (some (Jvm.ClassFile.FieldType.boolean))) := rfl
theorem i_32_79 : iRow 32 79 = some (.ireturn, 0, 0, 0, (some (Jvm.ClassFile.FieldType.boolean))) := rfl
theorem i_40_0 : iRow 40 0 = some (.aload_n 0, 0, 0, 0, (some (Jvm.ClassFile.FieldType.int))) := rfl
theorem i_40_1 : iRow 40 1 = some (.getfield 30, 64, 5, 2, (some (Jvm.ClassFile.FieldType.int))) := rfl
theorem i_40_4 : iRow 40 4 = some (.ifCond .eq 18, 0, 0, 0, (some (Jvm.ClassFile.FieldType.int))) := rfl
theorem i_40_22 : iRow 40 22 = some (.bipush 30, 0, 0, 0, (some (Jvm.ClassFile.FieldType.int))) := rfl
theorem i_40_24 : iRow 40 24 = some (.ireturn, 0, 0, 0, (some (Jvm.ClassFile.FieldType.int))) := rfl
theorem i_66_0 : iRow 66 0 = some (.iload_n 1, 0, 0, 0, none) := rfl
theorem i_66_1 : iRow 66 1 = some (.bipush 36, 0, 0, 0, none) := rfl
theorem i_66_3 : iRow 66 3 = some (.idiv, 0, 0, 0, none) := rfl
theorem i_66_4 : iRow 66 4 = some (.istore_n 3, 0, 0, 0, none) := rfl
theorem i_66_5 : iRow 66 5 = some (.iload_n 1, 0, 0, 0, none) := rfl
theorem i_66_6 : iRow 66 6 = some (.bipush 36, 0, 0, 0, none) := rfl
theorem i_66_8 : iRow 66 8 = some (.irem, 0, 0, 0, none) := rfl
theorem i_66_9 : iRow 66 9 = some (.istore 4, 0, 0, 0, none) := rfl
theorem i_66_11 : iRow 66 11 = some (.aload_n 0, 0, 0, 0, none) := rfl
theorem i_66_12 : iRow 66 12 = some (.getfield 9, 54, 0, 1, none) := rfl
theorem i_66_15 : iRow 66 15 = some (.iload_n 3, 0, 0, 0, none) := rfl
theorem i_66_16 : iRow 66 16 = some (.aload_n 0, 0, 0, 0, none) := rfl
theorem i_66_17 : iRow 66 17 = some (.getfield 9, 54, 0, 1, none) := rfl
theorem i_66_20 : iRow 66 20 = some (.iload 4, 0, 0, 0, none) := rfl
theorem i_66_22 : iRow 66 22 = some (.invokestatic 28, 16, 28, 3, none) := rfl
theorem i_66_25 : iRow 66 25 = some (.invokestatic 32, 20, 14, 3, none) := rfl
theorem i_66_28 : iRow 66 28 = some (.aload_n 0, 0, 0, 0, none) := rfl
theorem i_66_29 : iRow 66 29 = some (.getfield 9, 54, 0, 1, none) := rfl
theorem i_66_32 : iRow 66 32 = some (.iload 4, 0, 0, 0, none) := rfl
theorem i_66_34 : iRow 66 34 = some (.iload_n 2, 0, 0, 0, none) := rfl
theorem i_66_35 : iRow 66 35 = some (.invokestatic 32, 20, 14, 3, none) := rfl
theorem i_66_38 : iRow 66 38 = some (.return_, 0, 0, 0, none) := rfl
theorem s_lo0 {O : pOut} {d kc ks : Nat} {Q : pRes → Prop} {es : PH} {m : Int} (hs_es : sh es) (hm : 0 ≤ m ∧ m ≤ 24) (hq2 : (gI es 53 2).toInt = 0)
    (K1 : ∀ v1 : Int, v1 = (gI es 52 16).toInt → ∀ es2 : PH, es2 = sI es 52 16 (.int (zI (v1 + 1))) → ∀ v3 : Int, v3 = (gI es2 52 17).toInt → ∀ v4 : Int, v4 = max v3 m → ∀ es5 : PH, es5 = sI es2 52 17 (.int (zI v4)) → ∀ v6 : Int, v6 = (gI es5 52 16).toInt → v6 ≤ 8000 → aW O (d + 1) 29 kc ks Q (51, [some (.ref 116), some (.int (zI m)), none, none, none, none, none, none, none, none, none, none, none], [.int (zI m), .ref 116], es5))
    (K2 : ∀ v1 : Int, v1 = (gI es 52 16).toInt → ∀ es2 : PH, es2 = sI es 52 16 (.int (zI (v1 + 1))) → ∀ v3 : Int, v3 = (gI es2 52 17).toInt → ∀ v4 : Int, v4 = max v3 m → ∀ es5 : PH, es5 = sI es2 52 17 (.int (zI v4)) → ∀ v6 : Int, v6 = (gI es5 52 16).toInt → ¬ (v6 ≤ 8000) → Q (.inl (none), es5, kc, ks)) :
    aW O (d + 1) 29 kc ks Q (0, [some (.ref 116), some (.int (zI m)), none, none, none, none, none, none, none, none, none, none, none], [], es) := by
  refine x0 (r := (1, [some (.ref 116), some (.int (zI m)), none, none, none, none, none, none, none, none, none, none, none], [.ref 116], es)) i_29_0 rfl ?_
  refine x0 (r := (2, [some (.ref 116), some (.int (zI m)), none, none, none, none, none, none, none, none, none, none, none], [.ref 116, .ref 116], es)) i_29_1 rfl ?_
  refine x_geti (p := 52) i_29_2 hs_es rfl rfl ?_
  obtain ⟨v1, e_v1⟩ : ∃ z : Int, z = (gI es 52 16).toInt := ⟨_, rfl⟩
  rw [← e_v1]
  have r_v1 : iLO ≤ v1 ∧ v1 ≤ iHI := by rw [e_v1]; exact i32_rng _
  unfold iLO iHI at r_v1
  refine x0 (r := (6, [some (.ref 116), some (.int (zI m)), none, none, none, none, none, none, none, none, none, none, none], [.int (zI 1), .int (zI v1), .ref 116], es)) i_29_5 (by rfl) ?_
  refine x_iadd i_29_6 ?_
  refine x_puti (p := 52) (ty := .int) i_29_7 hs_es rfl rfl rfl (Or.inl rfl) ?_
  obtain ⟨es2, e_es2⟩ : ∃ z : PH, z = sI es 52 16 (.int (zI (v1 + 1))) := ⟨_, rfl⟩
  have hs_es2 : sh es2 := by rw [e_es2]; exact sh_sI hs_es (p := 52) (b := 16) rfl rfl
  rw [← e_es2]
  refine x0 (r := (11, [some (.ref 116), some (.int (zI m)), none, none, none, none, none, none, none, none, none, none, none], [.ref 116], es2)) i_29_10 rfl ?_
  refine x0 (r := (12, [some (.ref 116), some (.int (zI m)), none, none, none, none, none, none, none, none, none, none, none], [.ref 116, .ref 116], es2)) i_29_11 rfl ?_
  refine x_geti (p := 52) i_29_12 hs_es2 rfl rfl ?_
  obtain ⟨v3, e_v3⟩ : ∃ z : Int, z = (gI es2 52 17).toInt := ⟨_, rfl⟩
  rw [← e_v3]
  have r_v3 : iLO ≤ v3 ∧ v3 ≤ iHI := by rw [e_v3]; exact i32_rng _
  unfold iLO iHI at r_v3
  refine x0 (r := (16, [some (.ref 116), some (.int (zI m)), none, none, none, none, none, none, none, none, none, none, none], [.int (zI m), .int (zI v3), .ref 116], es2)) i_29_15 rfl ?_
  refine x_max i_29_16 (by unfold i32 iLO iHI; omega) (by unfold i32 iLO iHI; omega) (Nat.le_of_ble_eq_true rfl) ?_
  obtain ⟨v4, e_v4⟩ : ∃ z : Int, z = max v3 m := ⟨_, rfl⟩
  rw [← e_v4]
  refine x_puti (p := 52) (ty := .int) i_29_19 hs_es2 rfl rfl rfl (Or.inl rfl) ?_
  obtain ⟨es5, e_es5⟩ : ∃ z : PH, z = sI es2 52 17 (.int (zI v4)) := ⟨_, rfl⟩
  have hs_es5 : sh es5 := by rw [e_es5]; exact sh_sI hs_es2 (p := 52) (b := 17) rfl rfl
  rw [← e_es5]
  refine x0 (r := (23, [some (.ref 116), some (.int (zI m)), none, none, none, none, none, none, none, none, none, none, none], [.ref 116], es5)) i_29_22 rfl ?_
  refine x_call (vs := [.ref 116]) (rs := []) i_29_23 rfl (fun _ => rfl) rfl rfl rfl rfl rfl (pCall_v (p := 52) hs_es5 rfl rfl rfl rfl rfl (by decide) rfl rfl rfl rfl rfl) ?_
  show aW _ _ _ _ _ _ (0, [some (.ref 116)], [], es5)
  refine x0 (r := (1, [some (.ref 116)], [.ref 116], es5)) i_31_0 rfl ?_
  refine x_geti (p := 52) i_31_1 hs_es5 rfl rfl ?_
  obtain ⟨v6, e_v6⟩ : ∃ z : Int, z = (gI es5 52 16).toInt := ⟨_, rfl⟩
  rw [← e_v6]
  have r_v6 : iLO ≤ v6 ∧ v6 ≤ iHI := by rw [e_v6]; exact i32_rng _
  unfold iLO iHI at r_v6
  refine x0 (r := (7, [some (.ref 116)], [.int (zI 8000), .int (zI v6)], es5)) i_31_4 (by rfl) ?_
  by_cases c7 : v6 ≤ 8000
  · refine x_cmpT i_31_7 (by unfold i32 iLO iHI; omega) (by unfold i32 iLO iHI; omega) rfl (by simp only [zC, cR]; omega) ?_
    refine x0 (r := (15, [some (.ref 116)], [.int (zI 0)], es5)) i_31_14 (by rfl) ?_
    refine x_ret (v := some (.int (zI 0))) i_31_15 rfl (fun _ => rfl) rfl rfl (pFin_b (by omega)) ?_
    show aW _ _ _ _ _ _ (26, [some (.ref 116), some (.int (zI m)), none, none, none, none, none, none, none, none, none, none, none], [.int (zI 0)], es5)
    refine x_ifF i_29_26 (by unfold i32 iLO iHI; omega) rfl (by simp only [zC, cR]; omega) ?_
    refine x0 (r := (30, [some (.ref 116), some (.int (zI m)), none, none, none, none, none, none, none, none, none, none, none], [.ref 116], es5)) i_29_29 rfl ?_
    refine x_getr (p := 52) (k := 117) i_29_30 hs_es5 rfl rfl ?_
    show aW _ _ _ _ _ _ (33, [some (.ref 116), some (.int (zI m)), none, none, none, none, none, none, none, none, none, none, none], [.ref 117], es5)
    refine x0 (r := (34, [some (.ref 116), some (.int (zI m)), none, none, none, none, none, none, none, none, none, none, none], [.ref 116, .ref 117], es5)) i_29_33 rfl ?_
    refine x_getr (p := 52) (k := 71) i_29_34 hs_es5 rfl rfl ?_
    show aW _ _ _ _ _ _ (37, [some (.ref 116), some (.int (zI m)), none, none, none, none, none, none, none, none, none, none, none], [.ref 71, .ref 117], es5)
    refine x0 (r := (38, [some (.ref 116), some (.int (zI m)), none, none, none, none, none, none, none, none, none, none, none], [.ref 116, .ref 71, .ref 117], es5)) i_29_37 rfl ?_
    refine x_getr (p := 52) (k := 130) i_29_38 hs_es5 rfl rfl ?_
    show aW _ _ _ _ _ _ (41, [some (.ref 116), some (.int (zI m)), none, none, none, none, none, none, none, none, none, none, none], [.ref 130, .ref 71, .ref 117], es5)
    refine x0 (r := (42, [some (.ref 116), some (.int (zI m)), none, none, none, none, none, none, none, none, none, none, none], [.int (zI m), .ref 130, .ref 71, .ref 117], es5)) i_29_41 rfl ?_
    refine x_call (vs := [.ref 117, .ref 71, .ref 130, .int (zI m)]) (rs := []) i_29_42 rfl (fun _ => rfl) rfl rfl rfl rfl rfl (pCall_v (p := 53) hs_es5 rfl rfl rfl rfl rfl (by decide) rfl rfl rfl rfl rfl) ?_
    show aW _ _ _ _ _ _ (0, [some (.ref 117), some (.ref 71), some (.ref 130), some (.int (zI m)), none, none], [], es5)
    refine x0 (r := (1, [some (.ref 117), some (.ref 71), some (.ref 130), some (.int (zI m)), none, none], [.int (zI 0)], es5)) i_32_0 (by rfl) ?_
    refine x0 (r := (3, [some (.ref 117), some (.ref 71), some (.ref 130), some (.int (zI m)), some (.int (zI 0)), none], [], es5)) i_32_1 rfl ?_
    refine x0 (r := (4, [some (.ref 117), some (.ref 71), some (.ref 130), some (.int (zI m)), some (.int (zI 0)), none], [.ref 117], es5)) i_32_3 rfl ?_
    refine x_geti (p := 53) i_32_4 hs_es5 rfl rfl ?_
    rw [show (gI es5 53 2).toInt = 0 from by rw [e_es5, gI_sI_ne (Or.inl (by decide)), e_es2, gI_sI_ne (Or.inl (by decide))]; exact hq2]
    refine x_ifT i_32_7 (by unfold i32 iLO iHI; omega) rfl (by simp only [zC, cR]; omega) ?_
    refine x0 (r := (79, [some (.ref 117), some (.ref 71), some (.ref 130), some (.int (zI m)), some (.int (zI 0)), none], [.int (zI 0)], es5)) i_32_78 (by rfl) ?_
    refine x_ret (v := some (.int (zI 0))) i_32_79 rfl (fun _ => rfl) rfl rfl (pFin_b (by omega)) ?_
    show aW _ _ _ _ _ _ (45, [some (.ref 116), some (.int (zI m)), none, none, none, none, none, none, none, none, none, none, none], [.int (zI 0)], es5)
    refine x_ifT i_29_45 (by unfold i32 iLO iHI; omega) rfl (by simp only [zC, cR]; omega) ?_
    refine x0 (r := (50, [some (.ref 116), some (.int (zI m)), none, none, none, none, none, none, none, none, none, none, none], [.ref 116], es5)) i_29_49 rfl ?_
    refine x0 (r := (51, [some (.ref 116), some (.int (zI m)), none, none, none, none, none, none, none, none, none, none, none], [.int (zI m), .ref 116], es5)) i_29_50 rfl ?_
    exact K1 v1 e_v1 es2 e_es2 v3 e_v3 v4 e_v4 es5 e_es5 v6 e_v6 c7
  · refine x_cmpF i_31_7 (by unfold i32 iLO iHI; omega) (by unfold i32 iLO iHI; omega) rfl (by simp only [zC, cR]; omega) ?_
    refine x0 (r := (11, [some (.ref 116)], [.int (zI 1)], es5)) i_31_10 (by rfl) ?_
    refine x0 (r := (15, [some (.ref 116)], [.int (zI 1)], es5)) i_31_11 rfl ?_
    refine x_ret (v := some (.int (zI 1))) i_31_15 rfl (fun _ => rfl) rfl rfl (pFin_b (by omega)) ?_
    show aW _ _ _ _ _ _ (26, [some (.ref 116), some (.int (zI m)), none, none, none, none, none, none, none, none, none, none, none], [.int (zI 1)], es5)
    refine x_ifT i_29_26 (by unfold i32 iLO iHI; omega) rfl (by simp only [zC, cR]; omega) ?_
    refine x_ret (v := none) i_29_48 rfl (fun _ => rfl) rfl rfl rfl ?_
    exact K2 v1 e_v1 es2 e_es2 v3 e_v3 v4 e_v4 es5 e_es5 v6 e_v6 c7
theorem s_lo54 {O : pOut} {d kc ks : Nat} {Q : pRes → Prop} {es : PH} {m bk nb wy : Int} (hs_es : sh es) (hb : 0 ≤ bk ∧ bk ≤ 2) (hm : 0 ≤ m ∧ m ≤ 24) (hm2 : m ≤ nb) (hn : nb ≤ 24) (hq0 : (gI es 53 0).toInt = bk) (hq1 : (gI es 53 1).toInt = (bk + 1)) (hq2 : (gI es 53 2).toInt = 0) (hpo : ∀ i, i < 8 → (gA es 55 i).toInt = 0) (hli : (gI es 68 2).toInt = 0) (hnb : (gA es 13 bk.toNat).toInt = nb) (hwy : (gA es 54 bk.toNat).toInt = wy) (hf : (gA es 70 ((m * 3) + bk).toNat).toInt = m) (hl : (gA es 71 ((m * 3) + bk).toNat).toInt = m) (hle : (gA es 72 ((m * 3) + bk).toNat).toInt = 0) (hce : (gA es 69 ((((m * 3) + bk) * 25) + m).toNat).toInt = 0) (h23 : m + 1 ≤ nb → (-20 ≤ (gA es 14 ((((bk * 24) + m) * 4) + 2).toNat).toInt ∧ (gA es 14 ((((bk * 24) + m) * 4) + 2).toNat).toInt ≤ 20) ∧ (-20 ≤ (gA es 14 ((((bk * 24) + m) * 4) + 3).toNat).toInt ∧ (gA es 14 ((((bk * 24) + m) * 4) + 3).toNat).toInt ≤ 20))
    (K1 : ∀ w1 : Int64, hopP bk nb m es w1 → aW O (d + 4) 29 kc ks Q (101, [some (.ref 116), some (.int (zI m)), some (.int (zI 0)), some (.long w1), none, some (.int (zI 0)), none, none, none, none, none, none, none], [], es)) :
    aW O (d + 4) 29 kc ks Q (54, [some (.ref 116), some (.int (zI m)), none, none, none, none, none, none, none, none, none, none, none], [], es) := by
  refine x0 (r := (55, [some (.ref 116), some (.int (zI m)), none, none, none, none, none, none, none, none, none, none, none], [.int (zI m)], es)) i_29_54 rfl ?_
  refine x0 (r := (57, [some (.ref 116), some (.int (zI m)), none, none, none, none, none, none, none, none, none, none, none], [.int (zI 30), .int (zI m)], es)) i_29_55 (by rfl) ?_
  refine x_cmpF i_29_57 (by unfold i32 iLO iHI; omega) (by unfold i32 iLO iHI; omega) rfl (by simp only [zC, cR]; omega) ?_
  refine x0 (r := (61, [some (.ref 116), some (.int (zI m)), none, none, none, none, none, none, none, none, none, none, none], [.int (zI m)], es)) i_29_60 rfl ?_
  refine x0 (r := (62, [some (.ref 116), some (.int (zI m)), none, none, none, none, none, none, none, none, none, none, none], [.ref 116, .int (zI m)], es)) i_29_61 rfl ?_
  refine x_getr (p := 52) (k := 117) i_29_62 hs_es rfl rfl ?_
  show aW _ _ _ _ _ _ (65, [some (.ref 116), some (.int (zI m)), none, none, none, none, none, none, none, none, none, none, none], [.ref 117, .int (zI m)], es)
  refine x0 (r := (66, [some (.ref 116), some (.int (zI m)), none, none, none, none, none, none, none, none, none, none, none], [.ref 116, .ref 117, .int (zI m)], es)) i_29_65 rfl ?_
  refine x_getr (p := 52) (k := 71) i_29_66 hs_es rfl rfl ?_
  show aW _ _ _ _ _ _ (69, [some (.ref 116), some (.int (zI m)), none, none, none, none, none, none, none, none, none, none, none], [.ref 71, .ref 117, .int (zI m)], es)
  refine x_call (vs := [.ref 117, .ref 71]) (rs := [.int (zI m)]) i_29_69 rfl (fun _ => rfl) rfl rfl rfl rfl rfl (pCall_v (p := 53) hs_es rfl rfl rfl rfl rfl (by decide) rfl rfl rfl rfl rfl) ?_
  show aW _ _ _ _ _ _ (0, [some (.ref 117), some (.ref 71)], [], es)
  refine x0 (r := (1, [some (.ref 117), some (.ref 71)], [.ref 117], es)) i_40_0 rfl ?_
  refine x_geti (p := 53) i_40_1 hs_es rfl rfl ?_
  rw [show (gI es 53 2).toInt = 0 from by exact hq2]
  refine x_ifT i_40_4 (by unfold i32 iLO iHI; omega) rfl (by simp only [zC, cR]; omega) ?_
  refine x0 (r := (24, [some (.ref 117), some (.ref 71)], [.int (zI 30)], es)) i_40_22 (by rfl) ?_
  refine x_ret (v := some (.int (zI 30))) i_40_24 rfl (fun _ => rfl) rfl rfl rfl ?_
  show aW _ _ _ _ _ _ (72, [some (.ref 116), some (.int (zI m)), none, none, none, none, none, none, none, none, none, none, none], [.int (zI 30), .int (zI m)], es)
  refine x_cmpT i_29_72 (by unfold i32 iLO iHI; omega) (by unfold i32 iLO iHI; omega) rfl (by simp only [zC, cR]; omega) ?_
  refine x0 (r := (80, [some (.ref 116), some (.int (zI m)), none, none, none, none, none, none, none, none, none, none, none], [.int (zI 0)], es)) i_29_79 (by rfl) ?_
  refine x0 (r := (81, [some (.ref 116), some (.int (zI m)), some (.int (zI 0)), none, none, none, none, none, none, none, none, none, none], [], es)) i_29_80 rfl ?_
  refine x0 (r := (82, [some (.ref 116), some (.int (zI m)), some (.int (zI 0)), none, none, none, none, none, none, none, none, none, none], [.int (zI 0)], es)) i_29_81 rfl ?_
  refine x_ifT i_29_82 (by unfold i32 iLO iHI; omega) rfl (by simp only [zC, cR]; omega) ?_
  refine x0 (r := (90, [some (.ref 116), some (.int (zI m)), some (.int (zI 0)), none, none, none, none, none, none, none, none, none, none], [.ref 116], es)) i_29_89 rfl ?_
  refine x_getr (p := 52) (k := 132) i_29_90 hs_es rfl rfl ?_
  show aW _ _ _ _ _ _ (93, [some (.ref 116), some (.int (zI m)), some (.int (zI 0)), none, none, none, none, none, none, none, none, none, none], [.ref 132], es)
  refine x0 (r := (94, [some (.ref 116), some (.int (zI m)), some (.int (zI 0)), none, none, none, none, none, none, none, none, none, none], [.int (zI m), .ref 132], es)) i_29_93 rfl ?_
  refine x_call (vs := [.ref 132, .int (zI m)]) (rs := []) i_29_94 rfl (fun _ => rfl) rfl rfl rfl rfl rfl (pCall_v (p := 68) hs_es rfl rfl rfl rfl rfl (by decide) rfl rfl rfl rfl rfl) ?_
  show aW _ _ _ _ _ _ (0, [some (.ref 132), some (.int (zI m)), none, none, none, none, none, none, none, none, none], [], es)
  refine hp_sp hs_es hb ⟨hm.1, hm2⟩ hn hq0 hq1 hq2 hpo hli hnb hwy hf hl hle hce h23 (fun w1 p_w1 => ?_)
  show aW _ _ _ _ _ _ (97, [some (.ref 116), some (.int (zI m)), some (.int (zI 0)), none, none, none, none, none, none, none, none, none, none], [.long w1], es)
  refine x0 (r := (98, [some (.ref 116), some (.int (zI m)), some (.int (zI 0)), some (.long w1), none, none, none, none, none, none, none, none, none], [], es)) i_29_97 rfl ?_
  refine x0 (r := (99, [some (.ref 116), some (.int (zI m)), some (.int (zI 0)), some (.long w1), none, none, none, none, none, none, none, none, none], [.int (zI 0)], es)) i_29_98 (by rfl) ?_
  refine x0 (r := (101, [some (.ref 116), some (.int (zI m)), some (.int (zI 0)), some (.long w1), none, some (.int (zI 0)), none, none, none, none, none, none, none], [], es)) i_29_99 rfl ?_
  exact K1 w1 p_w1
theorem s_lo101 {O : pOut} {d kc ks : Nat} {Q : pRes → Prop} {es : PH} {ho : Int64} {m fr : Int} {x6 x7 x8 x9 x10 x11 x12 : Option Value} (hs_es : sh es) (hm : 0 ≤ m ∧ m ≤ 24) (h1 : 0 ≤ fr ∧ fr ≤ 36)
    (K1 : 36 ≤ fr → Q (.inl (none), es, kc, ks))
    (K2 : ¬ (36 ≤ fr) → ∀ v2 : Int, v2 = sgn (ho.toInt - (Int64.ofNat 0).toInt) → v2 = 0 → Q (.inl (none), es, kc, ks))
    (K3 : ¬ (36 ≤ fr) → ∀ v2 : Int, v2 = sgn (ho.toInt - (Int64.ofNat 0).toInt) → ¬ (v2 = 0) → ∀ v4 : Int, v4 = (gI es 52 16).toInt → v4 ≤ 8000 → ∀ v6 : Int, v6 = (zI m &&& zI 1).toInt → aW O (d + 1) 29 kc ks Q (130, [some (.ref 116), some (.int (zI m)), some (.int (zI 0)), some (.long ho), none, some (.int (zI fr)), x6, x7, x8, x9, x10, x11, x12], [.int (zI v6), .int (zI fr), .ref 130], es))
    (K4 : ¬ (36 ≤ fr) → ∀ v2 : Int, v2 = sgn (ho.toInt - (Int64.ofNat 0).toInt) → ¬ (v2 = 0) → ∀ v4 : Int, v4 = (gI es 52 16).toInt → ¬ (v4 ≤ 8000) → Q (.inl (none), es, kc, ks)) :
    aW O (d + 1) 29 kc ks Q (101, [some (.ref 116), some (.int (zI m)), some (.int (zI 0)), some (.long ho), none, some (.int (zI fr)), x6, x7, x8, x9, x10, x11, x12], [], es) := by
  refine x0 (r := (103, [some (.ref 116), some (.int (zI m)), some (.int (zI 0)), some (.long ho), none, some (.int (zI fr)), x6, x7, x8, x9, x10, x11, x12], [.int (zI fr)], es)) i_29_101 rfl ?_
  refine x0 (r := (105, [some (.ref 116), some (.int (zI m)), some (.int (zI 0)), some (.long ho), none, some (.int (zI fr)), x6, x7, x8, x9, x10, x11, x12], [.int (zI 36), .int (zI fr)], es)) i_29_103 (by rfl) ?_
  by_cases c1 : 36 ≤ fr
  · refine x_cmpT i_29_105 (by unfold i32 iLO iHI; omega) (by unfold i32 iLO iHI; omega) rfl (by simp only [zC, cR]; omega) ?_
    refine x_ret (v := none) i_29_326 rfl (fun _ => rfl) rfl rfl rfl ?_
    exact K1 c1
  · refine x_cmpF i_29_105 (by unfold i32 iLO iHI; omega) (by unfold i32 iLO iHI; omega) rfl (by simp only [zC, cR]; omega) ?_
    refine x0 (r := (109, [some (.ref 116), some (.int (zI m)), some (.int (zI 0)), some (.long ho), none, some (.int (zI fr)), x6, x7, x8, x9, x10, x11, x12], [.long ho], es)) i_29_108 rfl ?_
    refine x0 (r := (110, [some (.ref 116), some (.int (zI m)), some (.int (zI 0)), some (.long ho), none, some (.int (zI fr)), x6, x7, x8, x9, x10, x11, x12], [.long (Int64.ofNat 0), .long ho], es)) i_29_109 rfl ?_
    refine x_lcmp i_29_110 ?_
    obtain ⟨v2, e_v2⟩ : ∃ z : Int, z = sgn (ho.toInt - (Int64.ofNat 0).toInt) := ⟨_, rfl⟩
    rw [← e_v2]
    have r_v2 : iLO ≤ v2 ∧ v2 ≤ iHI := by rw [e_v2]; exact sgn_i32
    unfold iLO iHI at r_v2
    by_cases c3 : v2 = 0
    · refine x_ifT i_29_111 (by unfold i32 iLO iHI; omega) rfl (by simp only [zC, cR]; omega) ?_
      refine x_ret (v := none) i_29_326 rfl (fun _ => rfl) rfl rfl rfl ?_
      exact K2 c1 v2 e_v2 c3
    · refine x_ifF i_29_111 (by unfold i32 iLO iHI; omega) rfl (by simp only [zC, cR]; omega) ?_
      refine x0 (r := (115, [some (.ref 116), some (.int (zI m)), some (.int (zI 0)), some (.long ho), none, some (.int (zI fr)), x6, x7, x8, x9, x10, x11, x12], [.ref 116], es)) i_29_114 rfl ?_
      refine x_call (vs := [.ref 116]) (rs := []) i_29_115 rfl (fun _ => rfl) rfl rfl rfl rfl rfl (pCall_v (p := 52) hs_es rfl rfl rfl rfl rfl (by decide) rfl rfl rfl rfl rfl) ?_
      show aW _ _ _ _ _ _ (0, [some (.ref 116)], [], es)
      refine x0 (r := (1, [some (.ref 116)], [.ref 116], es)) i_31_0 rfl ?_
      refine x_geti (p := 52) i_31_1 hs_es rfl rfl ?_
      obtain ⟨v4, e_v4⟩ : ∃ z : Int, z = (gI es 52 16).toInt := ⟨_, rfl⟩
      rw [← e_v4]
      have r_v4 : iLO ≤ v4 ∧ v4 ≤ iHI := by rw [e_v4]; exact i32_rng _
      unfold iLO iHI at r_v4
      refine x0 (r := (7, [some (.ref 116)], [.int (zI 8000), .int (zI v4)], es)) i_31_4 (by rfl) ?_
      by_cases c5 : v4 ≤ 8000
      · refine x_cmpT i_31_7 (by unfold i32 iLO iHI; omega) (by unfold i32 iLO iHI; omega) rfl (by simp only [zC, cR]; omega) ?_
        refine x0 (r := (15, [some (.ref 116)], [.int (zI 0)], es)) i_31_14 (by rfl) ?_
        refine x_ret (v := some (.int (zI 0))) i_31_15 rfl (fun _ => rfl) rfl rfl (pFin_b (by omega)) ?_
        show aW _ _ _ _ _ _ (118, [some (.ref 116), some (.int (zI m)), some (.int (zI 0)), some (.long ho), none, some (.int (zI fr)), x6, x7, x8, x9, x10, x11, x12], [.int (zI 0)], es)
        refine x_ifF i_29_118 (by unfold i32 iLO iHI; omega) rfl (by simp only [zC, cR]; omega) ?_
        refine x0 (r := (122, [some (.ref 116), some (.int (zI m)), some (.int (zI 0)), some (.long ho), none, some (.int (zI fr)), x6, x7, x8, x9, x10, x11, x12], [.ref 116], es)) i_29_121 rfl ?_
        refine x_getr (p := 52) (k := 130) i_29_122 hs_es rfl rfl ?_
        show aW _ _ _ _ _ _ (125, [some (.ref 116), some (.int (zI m)), some (.int (zI 0)), some (.long ho), none, some (.int (zI fr)), x6, x7, x8, x9, x10, x11, x12], [.ref 130], es)
        refine x0 (r := (127, [some (.ref 116), some (.int (zI m)), some (.int (zI 0)), some (.long ho), none, some (.int (zI fr)), x6, x7, x8, x9, x10, x11, x12], [.int (zI fr), .ref 130], es)) i_29_125 rfl ?_
        refine x0 (r := (128, [some (.ref 116), some (.int (zI m)), some (.int (zI 0)), some (.long ho), none, some (.int (zI fr)), x6, x7, x8, x9, x10, x11, x12], [.int (zI m), .int (zI fr), .ref 130], es)) i_29_127 rfl ?_
        refine x0 (r := (129, [some (.ref 116), some (.int (zI m)), some (.int (zI 0)), some (.long ho), none, some (.int (zI fr)), x6, x7, x8, x9, x10, x11, x12], [.int (zI 1), .int (zI m), .int (zI fr), .ref 130], es)) i_29_128 (by rfl) ?_
        refine x_op i_29_129 (w := (zI m &&& zI 1)) rfl rfl ?_
        obtain ⟨v6, e_v6⟩ : ∃ z : Int, z = (zI m &&& zI 1).toInt := ⟨_, rfl⟩
        rw [← e_v6]
        have r_v6 : iLO ≤ v6 ∧ v6 ≤ iHI := by rw [e_v6]; exact i32_rng _
        unfold iLO iHI at r_v6
        exact K3 c1 v2 e_v2 c3 v4 e_v4 c5 v6 e_v6
      · refine x_cmpF i_31_7 (by unfold i32 iLO iHI; omega) (by unfold i32 iLO iHI; omega) rfl (by simp only [zC, cR]; omega) ?_
        refine x0 (r := (11, [some (.ref 116)], [.int (zI 1)], es)) i_31_10 (by rfl) ?_
        refine x0 (r := (15, [some (.ref 116)], [.int (zI 1)], es)) i_31_11 rfl ?_
        refine x_ret (v := some (.int (zI 1))) i_31_15 rfl (fun _ => rfl) rfl rfl (pFin_b (by omega)) ?_
        show aW _ _ _ _ _ _ (118, [some (.ref 116), some (.int (zI m)), some (.int (zI 0)), some (.long ho), none, some (.int (zI fr)), x6, x7, x8, x9, x10, x11, x12], [.int (zI 1)], es)
        refine x_ifT i_29_118 (by unfold i32 iLO iHI; omega) rfl (by simp only [zC, cR]; omega) ?_
        refine x_ret (v := none) i_29_326 rfl (fun _ => rfl) rfl rfl rfl ?_
        exact K4 c1 v2 e_v2 c3 v4 e_v4 c5
theorem s_lo133 {O : pOut} {d kc ks : Nat} {Q : pRes → Prop} {es : PH} {ho re : Int64} {m fr : Int} {x6 x7 x8 x9 x10 x11 x12 : Option Value} (hs_es : sh es) (hm : 0 ≤ m ∧ m ≤ 24) (h1 : 0 ≤ fr ∧ fr ≤ 35)
    (K1 : ∀ w1 : Int64, w1 = re &&& ho → ∀ v2 : Int, v2 = (gA es 67 fr.toNat).toInt → ∀ v3 : Int, v3 = (zI (v2 - 1) >>> (zI 1 &&& 31)).toInt → aW O (d + 1) 29 kc ks Q (157, [some (.ref 116), some (.int (zI m)), some (.int (zI 0)), some (.long ho), none, some (.int (zI fr)), some (.long w1), none, some (.int (zI v3)), some (.int (zI 0)), x10, x11, x12], [], es)) :
    aW O (d + 1) 29 kc ks Q (133, [some (.ref 116), some (.int (zI m)), some (.int (zI 0)), some (.long ho), none, some (.int (zI fr)), x6, x7, x8, x9, x10, x11, x12], [.long re], es) := by
  refine x0 (r := (134, [some (.ref 116), some (.int (zI m)), some (.int (zI 0)), some (.long ho), none, some (.int (zI fr)), x6, x7, x8, x9, x10, x11, x12], [.long ho, .long re], es)) i_29_133 rfl ?_
  refine x0 (r := (135, [some (.ref 116), some (.int (zI m)), some (.int (zI 0)), some (.long ho), none, some (.int (zI fr)), x6, x7, x8, x9, x10, x11, x12], [.long (re &&& ho)], es)) i_29_134 rfl ?_
  obtain ⟨w1, e_w1⟩ : ∃ z : Int64, z = re &&& ho := ⟨_, rfl⟩
  rw [← e_w1]
  refine x0 (r := (137, [some (.ref 116), some (.int (zI m)), some (.int (zI 0)), some (.long ho), none, some (.int (zI fr)), some (.long w1), none, x8, x9, x10, x11, x12], [], es)) i_29_135 rfl ?_
  refine x0 (r := (138, [some (.ref 116), some (.int (zI m)), some (.int (zI 0)), some (.long ho), none, some (.int (zI fr)), some (.long w1), none, x8, x9, x10, x11, x12], [.ref 116], es)) i_29_137 rfl ?_
  refine x_getr (p := 52) (k := 130) i_29_138 hs_es rfl rfl ?_
  show aW _ _ _ _ _ _ (141, [some (.ref 116), some (.int (zI m)), some (.int (zI 0)), some (.long ho), none, some (.int (zI fr)), some (.long w1), none, x8, x9, x10, x11, x12], [.ref 130], es)
  refine x_getr (p := 66) (k := 131) i_29_141 hs_es rfl rfl ?_
  show aW _ _ _ _ _ _ (144, [some (.ref 116), some (.int (zI m)), some (.int (zI 0)), some (.long ho), none, some (.int (zI fr)), some (.long w1), none, x8, x9, x10, x11, x12], [.ref 131], es)
  refine x0 (r := (146, [some (.ref 116), some (.int (zI m)), some (.int (zI 0)), some (.long ho), none, some (.int (zI fr)), some (.long w1), none, x8, x9, x10, x11, x12], [.int (zI fr), .ref 131], es)) i_29_144 rfl ?_
  refine x_call (vs := [.ref 131, .int (zI fr)]) (rs := []) i_29_146 rfl (fun _ => rfl) rfl rfl rfl rfl rfl rfl ?_
  show aW _ _ _ _ _ _ (0, [some (.ref 131), some (.int (zI fr))], [], es)
  refine x0 (r := (1, [some (.ref 131), some (.int (zI fr))], [.int (zI fr)], es)) i_28_0 rfl ?_
  refine x_ifF i_28_1 (by unfold i32 iLO iHI; omega) rfl (by simp only [zC, cR]; omega) ?_
  refine x0 (r := (5, [some (.ref 131), some (.int (zI fr))], [.int (zI fr)], es)) i_28_4 rfl ?_
  refine x0 (r := (6, [some (.ref 131), some (.int (zI fr))], [.ref 131, .int (zI fr)], es)) i_28_5 rfl ?_
  refine x_alen (p := 67) (n := 36) i_28_6 hs_es rfl ?_
  refine x_cmpF i_28_7 (by unfold i32 iLO iHI; omega) (by unfold i32 iLO iHI; omega) rfl (by simp only [zC, cR]; omega) ?_
  refine x0 (r := (11, [some (.ref 131), some (.int (zI fr))], [.ref 131], es)) i_28_10 rfl ?_
  refine x0 (r := (12, [some (.ref 131), some (.int (zI fr))], [.int (zI fr), .ref 131], es)) i_28_11 rfl ?_
  refine x_iald (p := 67) i_28_12 hs_es rfl (by unfold i32 iLO iHI; omega) (by omega) (by omega) ?_
  obtain ⟨v2, e_v2⟩ : ∃ z : Int, z = (gA es 67 fr.toNat).toInt := ⟨_, rfl⟩
  rw [← e_v2]
  have r_v2 : iLO ≤ v2 ∧ v2 ≤ iHI := by rw [e_v2]; exact i32_rng _
  unfold iLO iHI at r_v2
  refine x0 (r := (17, [some (.ref 131), some (.int (zI fr))], [.int (zI v2)], es)) i_28_13 rfl ?_
  refine x_ret (v := some (.int (zI v2))) i_28_17 rfl (fun _ => rfl) rfl rfl rfl ?_
  show aW _ _ _ _ _ _ (149, [some (.ref 116), some (.int (zI m)), some (.int (zI 0)), some (.long ho), none, some (.int (zI fr)), some (.long w1), none, x8, x9, x10, x11, x12], [.int (zI v2)], es)
  refine x_call (vs := [.int (zI v2)]) (rs := []) i_29_149 rfl (fun _ => rfl) rfl rfl rfl rfl rfl rfl ?_
  show aW _ _ _ _ _ _ (0, [some (.int (zI v2))], [], es)
  refine x0 (r := (1, [some (.int (zI v2))], [.int (zI v2)], es)) i_49_0 rfl ?_
  refine x0 (r := (2, [some (.int (zI v2))], [.int (zI 1), .int (zI v2)], es)) i_49_1 (by rfl) ?_
  refine x_isub i_49_2 ?_
  refine x0 (r := (4, [some (.int (zI v2))], [.int (zI 1), .int (zI (v2 - 1))], es)) i_49_3 (by rfl) ?_
  refine x_op i_49_4 (w := (zI (v2 - 1) >>> (zI 1 &&& 31))) rfl rfl ?_
  obtain ⟨v3, e_v3⟩ : ∃ z : Int, z = (zI (v2 - 1) >>> (zI 1 &&& 31)).toInt := ⟨_, rfl⟩
  rw [← e_v3]
  have r_v3 : iLO ≤ v3 ∧ v3 ≤ iHI := by rw [e_v3]; exact i32_rng _
  unfold iLO iHI at r_v3
  refine x_ret (v := some (.int (zI v3))) i_49_5 rfl (fun _ => rfl) rfl rfl rfl ?_
  show aW _ _ _ _ _ _ (152, [some (.ref 116), some (.int (zI m)), some (.int (zI 0)), some (.long ho), none, some (.int (zI fr)), some (.long w1), none, x8, x9, x10, x11, x12], [.int (zI v3)], es)
  refine x0 (r := (154, [some (.ref 116), some (.int (zI m)), some (.int (zI 0)), some (.long ho), none, some (.int (zI fr)), some (.long w1), none, some (.int (zI v3)), x9, x10, x11, x12], [], es)) i_29_152 rfl ?_
  refine x0 (r := (155, [some (.ref 116), some (.int (zI m)), some (.int (zI 0)), some (.long ho), none, some (.int (zI fr)), some (.long w1), none, some (.int (zI v3)), x9, x10, x11, x12], [.int (zI 0)], es)) i_29_154 (by rfl) ?_
  refine x0 (r := (157, [some (.ref 116), some (.int (zI m)), some (.int (zI 0)), some (.long ho), none, some (.int (zI fr)), some (.long w1), none, some (.int (zI v3)), some (.int (zI 0)), x10, x11, x12], [], es)) i_29_155 rfl ?_
  exact K1 w1 e_w1 v2 e_v2 v3 e_v3
theorem s_lo157 {O : pOut} {d kc ks : Nat} {Q : pRes → Prop} {es : PH} {ho ta : Int64} {m fr kd to : Int} {x10 x11 x12 : Option Value} (hs_es : sh es) (hm : 0 ≤ m ∧ m ≤ 24) (h1 : 0 ≤ fr ∧ fr ≤ 35) (h2 : 0 ≤ to ∧ to ≤ 36)
    (K1 : 36 ≤ to → aW O (d + 1) 29 kc ks Q (101, [some (.ref 116), some (.int (zI m)), some (.int (zI 0)), some (.long ho), none, some (.int (zI (fr + 1))), some (.long ta), none, some (.int (zI kd)), some (.int (zI to)), x10, x11, x12], [], es))
    (K2 : ¬ (36 ≤ to) → ∀ v2 : Int, v2 = sgn (ta.toInt - (Int64.ofNat 0).toInt) → v2 = 0 → aW O (d + 1) 29 kc ks Q (101, [some (.ref 116), some (.int (zI m)), some (.int (zI 0)), some (.long ho), none, some (.int (zI (fr + 1))), some (.long ta), none, some (.int (zI kd)), some (.int (zI to)), x10, x11, x12], [], es))
    (K3 : ¬ (36 ≤ to) → ∀ v2 : Int, v2 = sgn (ta.toInt - (Int64.ofNat 0).toInt) → ¬ (v2 = 0) → ∀ v4 : Int, v4 = (gI es 52 16).toInt → v4 ≤ 8000 → ∀ w6 : Int64, w6 = (ta.toUInt64 >>> ((zI to).toInt64.toUInt64 &&& Int64.toUInt64 63)).toInt64 → ∀ w7 : Int64, w7 = w6 &&& (Int64.ofNat 1) → ∀ v8 : Int, v8 = sgn (w7.toInt - (Int64.ofNat 0).toInt) → v8 = 0 → aW O (d + 1) 29 kc ks Q (157, [some (.ref 116), some (.int (zI m)), some (.int (zI 0)), some (.long ho), none, some (.int (zI fr)), some (.long ta), none, some (.int (zI kd)), some (.int (zI (to + 1))), some (.int (zI ((36 * fr) + to))), x11, x12], [], es))
    (K4 : ¬ (36 ≤ to) → ∀ v2 : Int, v2 = sgn (ta.toInt - (Int64.ofNat 0).toInt) → ¬ (v2 = 0) → ∀ v4 : Int, v4 = (gI es 52 16).toInt → v4 ≤ 8000 → ∀ w6 : Int64, w6 = (ta.toUInt64 >>> ((zI to).toInt64.toUInt64 &&& Int64.toUInt64 63)).toInt64 → ∀ w7 : Int64, w7 = w6 &&& (Int64.ofNat 1) → ∀ v8 : Int, v8 = sgn (w7.toInt - (Int64.ofNat 0).toInt) → ¬ (v8 = 0) → aW O (d + 1) 29 kc ks Q (209, [some (.ref 116), some (.int (zI m)), some (.int (zI 0)), some (.long ho), none, some (.int (zI fr)), some (.long ta), none, some (.int (zI kd)), some (.int (zI to)), some (.int (zI ((36 * fr) + to))), x11, x12], [.int (zI ((36 * fr) + to)), .int (zI kd), .int (zI m), .ref 132], es))
    (K5 : ¬ (36 ≤ to) → ∀ v2 : Int, v2 = sgn (ta.toInt - (Int64.ofNat 0).toInt) → ¬ (v2 = 0) → ∀ v4 : Int, v4 = (gI es 52 16).toInt → ¬ (v4 ≤ 8000) → aW O (d + 1) 29 kc ks Q (101, [some (.ref 116), some (.int (zI m)), some (.int (zI 0)), some (.long ho), none, some (.int (zI (fr + 1))), some (.long ta), none, some (.int (zI kd)), some (.int (zI to)), x10, x11, x12], [], es)) :
    aW O (d + 1) 29 kc ks Q (157, [some (.ref 116), some (.int (zI m)), some (.int (zI 0)), some (.long ho), none, some (.int (zI fr)), some (.long ta), none, some (.int (zI kd)), some (.int (zI to)), x10, x11, x12], [], es) := by
  refine x0 (r := (159, [some (.ref 116), some (.int (zI m)), some (.int (zI 0)), some (.long ho), none, some (.int (zI fr)), some (.long ta), none, some (.int (zI kd)), some (.int (zI to)), x10, x11, x12], [.int (zI to)], es)) i_29_157 rfl ?_
  refine x0 (r := (161, [some (.ref 116), some (.int (zI m)), some (.int (zI 0)), some (.long ho), none, some (.int (zI fr)), some (.long ta), none, some (.int (zI kd)), some (.int (zI to)), x10, x11, x12], [.int (zI 36), .int (zI to)], es)) i_29_159 (by rfl) ?_
  by_cases c1 : 36 ≤ to
  · refine x_cmpT i_29_161 (by unfold i32 iLO iHI; omega) (by unfold i32 iLO iHI; omega) rfl (by simp only [zC, cR]; omega) ?_
    refine x_iinc (x := fr) i_29_320 rfl (by show 5 < 13; decide) ?_
    show aW _ _ _ _ _ _ (323, [some (.ref 116), some (.int (zI m)), some (.int (zI 0)), some (.long ho), none, some (.int (zI (fr + 1))), some (.long ta), none, some (.int (zI kd)), some (.int (zI to)), x10, x11, x12], [], es)
    refine x0 (r := (101, [some (.ref 116), some (.int (zI m)), some (.int (zI 0)), some (.long ho), none, some (.int (zI (fr + 1))), some (.long ta), none, some (.int (zI kd)), some (.int (zI to)), x10, x11, x12], [], es)) i_29_323 rfl ?_
    exact K1 c1
  · refine x_cmpF i_29_161 (by unfold i32 iLO iHI; omega) (by unfold i32 iLO iHI; omega) rfl (by simp only [zC, cR]; omega) ?_
    refine x0 (r := (166, [some (.ref 116), some (.int (zI m)), some (.int (zI 0)), some (.long ho), none, some (.int (zI fr)), some (.long ta), none, some (.int (zI kd)), some (.int (zI to)), x10, x11, x12], [.long ta], es)) i_29_164 rfl ?_
    refine x0 (r := (167, [some (.ref 116), some (.int (zI m)), some (.int (zI 0)), some (.long ho), none, some (.int (zI fr)), some (.long ta), none, some (.int (zI kd)), some (.int (zI to)), x10, x11, x12], [.long (Int64.ofNat 0), .long ta], es)) i_29_166 rfl ?_
    refine x_lcmp i_29_167 ?_
    obtain ⟨v2, e_v2⟩ : ∃ z : Int, z = sgn (ta.toInt - (Int64.ofNat 0).toInt) := ⟨_, rfl⟩
    rw [← e_v2]
    have r_v2 : iLO ≤ v2 ∧ v2 ≤ iHI := by rw [e_v2]; exact sgn_i32
    unfold iLO iHI at r_v2
    by_cases c3 : v2 = 0
    · refine x_ifT i_29_168 (by unfold i32 iLO iHI; omega) rfl (by simp only [zC, cR]; omega) ?_
      refine x_iinc (x := fr) i_29_320 rfl (by show 5 < 13; decide) ?_
      show aW _ _ _ _ _ _ (323, [some (.ref 116), some (.int (zI m)), some (.int (zI 0)), some (.long ho), none, some (.int (zI (fr + 1))), some (.long ta), none, some (.int (zI kd)), some (.int (zI to)), x10, x11, x12], [], es)
      refine x0 (r := (101, [some (.ref 116), some (.int (zI m)), some (.int (zI 0)), some (.long ho), none, some (.int (zI (fr + 1))), some (.long ta), none, some (.int (zI kd)), some (.int (zI to)), x10, x11, x12], [], es)) i_29_323 rfl ?_
      exact K2 c1 v2 e_v2 c3
    · refine x_ifF i_29_168 (by unfold i32 iLO iHI; omega) rfl (by simp only [zC, cR]; omega) ?_
      refine x0 (r := (172, [some (.ref 116), some (.int (zI m)), some (.int (zI 0)), some (.long ho), none, some (.int (zI fr)), some (.long ta), none, some (.int (zI kd)), some (.int (zI to)), x10, x11, x12], [.ref 116], es)) i_29_171 rfl ?_
      refine x_call (vs := [.ref 116]) (rs := []) i_29_172 rfl (fun _ => rfl) rfl rfl rfl rfl rfl (pCall_v (p := 52) hs_es rfl rfl rfl rfl rfl (by decide) rfl rfl rfl rfl rfl) ?_
      show aW _ _ _ _ _ _ (0, [some (.ref 116)], [], es)
      refine x0 (r := (1, [some (.ref 116)], [.ref 116], es)) i_31_0 rfl ?_
      refine x_geti (p := 52) i_31_1 hs_es rfl rfl ?_
      obtain ⟨v4, e_v4⟩ : ∃ z : Int, z = (gI es 52 16).toInt := ⟨_, rfl⟩
      rw [← e_v4]
      have r_v4 : iLO ≤ v4 ∧ v4 ≤ iHI := by rw [e_v4]; exact i32_rng _
      unfold iLO iHI at r_v4
      refine x0 (r := (7, [some (.ref 116)], [.int (zI 8000), .int (zI v4)], es)) i_31_4 (by rfl) ?_
      by_cases c5 : v4 ≤ 8000
      · refine x_cmpT i_31_7 (by unfold i32 iLO iHI; omega) (by unfold i32 iLO iHI; omega) rfl (by simp only [zC, cR]; omega) ?_
        refine x0 (r := (15, [some (.ref 116)], [.int (zI 0)], es)) i_31_14 (by rfl) ?_
        refine x_ret (v := some (.int (zI 0))) i_31_15 rfl (fun _ => rfl) rfl rfl (pFin_b (by omega)) ?_
        show aW _ _ _ _ _ _ (175, [some (.ref 116), some (.int (zI m)), some (.int (zI 0)), some (.long ho), none, some (.int (zI fr)), some (.long ta), none, some (.int (zI kd)), some (.int (zI to)), x10, x11, x12], [.int (zI 0)], es)
        refine x_ifF i_29_175 (by unfold i32 iLO iHI; omega) rfl (by simp only [zC, cR]; omega) ?_
        refine x0 (r := (180, [some (.ref 116), some (.int (zI m)), some (.int (zI 0)), some (.long ho), none, some (.int (zI fr)), some (.long ta), none, some (.int (zI kd)), some (.int (zI to)), x10, x11, x12], [.int (zI 36)], es)) i_29_178 (by rfl) ?_
        refine x0 (r := (182, [some (.ref 116), some (.int (zI m)), some (.int (zI 0)), some (.long ho), none, some (.int (zI fr)), some (.long ta), none, some (.int (zI kd)), some (.int (zI to)), x10, x11, x12], [.int (zI fr), .int (zI 36)], es)) i_29_180 rfl ?_
        refine x_imul i_29_182 ?_
        refine x0 (r := (185, [some (.ref 116), some (.int (zI m)), some (.int (zI 0)), some (.long ho), none, some (.int (zI fr)), some (.long ta), none, some (.int (zI kd)), some (.int (zI to)), x10, x11, x12], [.int (zI to), .int (zI (36 * fr))], es)) i_29_183 rfl ?_
        refine x_iadd i_29_185 ?_
        refine x0 (r := (188, [some (.ref 116), some (.int (zI m)), some (.int (zI 0)), some (.long ho), none, some (.int (zI fr)), some (.long ta), none, some (.int (zI kd)), some (.int (zI to)), some (.int (zI ((36 * fr) + to))), x11, x12], [], es)) i_29_186 rfl ?_
        refine x0 (r := (190, [some (.ref 116), some (.int (zI m)), some (.int (zI 0)), some (.long ho), none, some (.int (zI fr)), some (.long ta), none, some (.int (zI kd)), some (.int (zI to)), some (.int (zI ((36 * fr) + to))), x11, x12], [.long ta], es)) i_29_188 rfl ?_
        refine x0 (r := (192, [some (.ref 116), some (.int (zI m)), some (.int (zI 0)), some (.long ho), none, some (.int (zI fr)), some (.long ta), none, some (.int (zI kd)), some (.int (zI to)), some (.int (zI ((36 * fr) + to))), x11, x12], [.int (zI to), .long ta], es)) i_29_190 rfl ?_
        refine x0 (r := (193, [some (.ref 116), some (.int (zI m)), some (.int (zI 0)), some (.long ho), none, some (.int (zI fr)), some (.long ta), none, some (.int (zI kd)), some (.int (zI to)), some (.int (zI ((36 * fr) + to))), x11, x12], [.long ((ta.toUInt64 >>> ((zI to).toInt64.toUInt64 &&& Int64.toUInt64 63)).toInt64)], es)) i_29_192 rfl ?_
        obtain ⟨w6, e_w6⟩ : ∃ z : Int64, z = (ta.toUInt64 >>> ((zI to).toInt64.toUInt64 &&& Int64.toUInt64 63)).toInt64 := ⟨_, rfl⟩
        rw [← e_w6]
        refine x0 (r := (194, [some (.ref 116), some (.int (zI m)), some (.int (zI 0)), some (.long ho), none, some (.int (zI fr)), some (.long ta), none, some (.int (zI kd)), some (.int (zI to)), some (.int (zI ((36 * fr) + to))), x11, x12], [.long (Int64.ofNat 1), .long w6], es)) i_29_193 rfl ?_
        refine x0 (r := (195, [some (.ref 116), some (.int (zI m)), some (.int (zI 0)), some (.long ho), none, some (.int (zI fr)), some (.long ta), none, some (.int (zI kd)), some (.int (zI to)), some (.int (zI ((36 * fr) + to))), x11, x12], [.long (w6 &&& (Int64.ofNat 1))], es)) i_29_194 rfl ?_
        obtain ⟨w7, e_w7⟩ : ∃ z : Int64, z = w6 &&& (Int64.ofNat 1) := ⟨_, rfl⟩
        rw [← e_w7]
        refine x0 (r := (196, [some (.ref 116), some (.int (zI m)), some (.int (zI 0)), some (.long ho), none, some (.int (zI fr)), some (.long ta), none, some (.int (zI kd)), some (.int (zI to)), some (.int (zI ((36 * fr) + to))), x11, x12], [.long (Int64.ofNat 0), .long w7], es)) i_29_195 rfl ?_
        refine x_lcmp i_29_196 ?_
        obtain ⟨v8, e_v8⟩ : ∃ z : Int, z = sgn (w7.toInt - (Int64.ofNat 0).toInt) := ⟨_, rfl⟩
        rw [← e_v8]
        have r_v8 : iLO ≤ v8 ∧ v8 ≤ iHI := by rw [e_v8]; exact sgn_i32
        unfold iLO iHI at r_v8
        by_cases c9 : v8 = 0
        · refine x_ifT i_29_197 (by unfold i32 iLO iHI; omega) rfl (by simp only [zC, cR]; omega) ?_
          refine x_iinc (x := to) i_29_314 rfl (by show 9 < 13; decide) ?_
          show aW _ _ _ _ _ _ (317, [some (.ref 116), some (.int (zI m)), some (.int (zI 0)), some (.long ho), none, some (.int (zI fr)), some (.long ta), none, some (.int (zI kd)), some (.int (zI (to + 1))), some (.int (zI ((36 * fr) + to))), x11, x12], [], es)
          refine x0 (r := (157, [some (.ref 116), some (.int (zI m)), some (.int (zI 0)), some (.long ho), none, some (.int (zI fr)), some (.long ta), none, some (.int (zI kd)), some (.int (zI (to + 1))), some (.int (zI ((36 * fr) + to))), x11, x12], [], es)) i_29_317 rfl ?_
          exact K3 c1 v2 e_v2 c3 v4 e_v4 c5 w6 e_w6 w7 e_w7 v8 e_v8 c9
        · refine x_ifF i_29_197 (by unfold i32 iLO iHI; omega) rfl (by simp only [zC, cR]; omega) ?_
          refine x0 (r := (201, [some (.ref 116), some (.int (zI m)), some (.int (zI 0)), some (.long ho), none, some (.int (zI fr)), some (.long ta), none, some (.int (zI kd)), some (.int (zI to)), some (.int (zI ((36 * fr) + to))), x11, x12], [.ref 116], es)) i_29_200 rfl ?_
          refine x_getr (p := 52) (k := 132) i_29_201 hs_es rfl rfl ?_
          show aW _ _ _ _ _ _ (204, [some (.ref 116), some (.int (zI m)), some (.int (zI 0)), some (.long ho), none, some (.int (zI fr)), some (.long ta), none, some (.int (zI kd)), some (.int (zI to)), some (.int (zI ((36 * fr) + to))), x11, x12], [.ref 132], es)
          refine x0 (r := (205, [some (.ref 116), some (.int (zI m)), some (.int (zI 0)), some (.long ho), none, some (.int (zI fr)), some (.long ta), none, some (.int (zI kd)), some (.int (zI to)), some (.int (zI ((36 * fr) + to))), x11, x12], [.int (zI m), .ref 132], es)) i_29_204 rfl ?_
          refine x0 (r := (207, [some (.ref 116), some (.int (zI m)), some (.int (zI 0)), some (.long ho), none, some (.int (zI fr)), some (.long ta), none, some (.int (zI kd)), some (.int (zI to)), some (.int (zI ((36 * fr) + to))), x11, x12], [.int (zI kd), .int (zI m), .ref 132], es)) i_29_205 rfl ?_
          refine x0 (r := (209, [some (.ref 116), some (.int (zI m)), some (.int (zI 0)), some (.long ho), none, some (.int (zI fr)), some (.long ta), none, some (.int (zI kd)), some (.int (zI to)), some (.int (zI ((36 * fr) + to))), x11, x12], [.int (zI ((36 * fr) + to)), .int (zI kd), .int (zI m), .ref 132], es)) i_29_207 rfl ?_
          exact K4 c1 v2 e_v2 c3 v4 e_v4 c5 w6 e_w6 w7 e_w7 v8 e_v8 c9
      · refine x_cmpF i_31_7 (by unfold i32 iLO iHI; omega) (by unfold i32 iLO iHI; omega) rfl (by simp only [zC, cR]; omega) ?_
        refine x0 (r := (11, [some (.ref 116)], [.int (zI 1)], es)) i_31_10 (by rfl) ?_
        refine x0 (r := (15, [some (.ref 116)], [.int (zI 1)], es)) i_31_11 rfl ?_
        refine x_ret (v := some (.int (zI 1))) i_31_15 rfl (fun _ => rfl) rfl rfl (pFin_b (by omega)) ?_
        show aW _ _ _ _ _ _ (175, [some (.ref 116), some (.int (zI m)), some (.int (zI 0)), some (.long ho), none, some (.int (zI fr)), some (.long ta), none, some (.int (zI kd)), some (.int (zI to)), x10, x11, x12], [.int (zI 1)], es)
        refine x_ifT i_29_175 (by unfold i32 iLO iHI; omega) rfl (by simp only [zC, cR]; omega) ?_
        refine x_iinc (x := fr) i_29_320 rfl (by show 5 < 13; decide) ?_
        show aW _ _ _ _ _ _ (323, [some (.ref 116), some (.int (zI m)), some (.int (zI 0)), some (.long ho), none, some (.int (zI (fr + 1))), some (.long ta), none, some (.int (zI kd)), some (.int (zI to)), x10, x11, x12], [], es)
        refine x0 (r := (101, [some (.ref 116), some (.int (zI m)), some (.int (zI 0)), some (.long ho), none, some (.int (zI (fr + 1))), some (.long ta), none, some (.int (zI kd)), some (.int (zI to)), x10, x11, x12], [], es)) i_29_323 rfl ?_
        exact K5 c1 v2 e_v2 c3 v4 e_v4 c5
theorem s_lo212 {O : pOut} {d kc ks : Nat} {Q : pRes → Prop} {es : PH} {ho ta : Int64} {m fr kd to mo v : Int} {x11 x12 : Option Value} (hs_es : sh es) (hm : 0 ≤ m ∧ m ≤ 23) (h1 : 0 ≤ fr ∧ fr ≤ 35) (h2 : 0 ≤ to ∧ to ≤ 35) (h3 : 0 ≤ mo ∧ mo ≤ 1295) (h4 : 0 ≤ v ∧ v ≤ 1000) (hli : (gI es 68 2).toInt = 0) (hpu : (gI es 52 15).toInt = 0)
    (K1 : 0 < v → aW O (d + 2) 29 kc ks Q (157, [some (.ref 116), some (.int (zI m)), some (.int (zI 0)), some (.long ho), none, some (.int (zI fr)), some (.long ta), none, some (.int (zI kd)), some (.int (zI (to + 1))), some (.int (zI mo)), x11, x12], [], es))
    (K2 : ¬ (0 < v) → ∀ v2 : Int, v2 = (gA es 67 (mo % 36).toNat).toInt → ∀ v3 : Int, v3 = (gA es 67 (mo / 36).toNat).toInt → ∀ es4 : PH, es4 = sA es 67 (mo % 36).toNat (zI v3) → ∀ es5 : PH, es5 = sA es4 67 (mo / 36).toNat (zI 0) → ∀ es6 : PH, es6 = sA es5 64 m.toNat (zI mo) → aW O (d + 2) 29 kc ks Q (300, [some (.ref 116), some (.int (zI m)), some (.int (zI 0)), some (.long ho), none, some (.int (zI fr)), some (.long ta), none, some (.int (zI kd)), some (.int (zI to)), some (.int (zI mo)), some (.int (zI v2)), x12], [.int (zI (m + 1)), .ref 116], es6)) :
    aW O (d + 2) 29 kc ks Q (212, [some (.ref 116), some (.int (zI m)), some (.int (zI 0)), some (.long ho), none, some (.int (zI fr)), some (.long ta), none, some (.int (zI kd)), some (.int (zI to)), some (.int (zI mo)), x11, x12], [.int (zI v)], es) := by
  refine x0 (r := (213, [some (.ref 116), some (.int (zI m)), some (.int (zI 0)), some (.long ho), none, some (.int (zI fr)), some (.long ta), none, some (.int (zI kd)), some (.int (zI to)), some (.int (zI mo)), x11, x12], [.ref 116, .int (zI v)], es)) i_29_212 rfl ?_
  refine x_getr (p := 52) (k := 132) i_29_213 hs_es rfl rfl ?_
  show aW _ _ _ _ _ _ (216, [some (.ref 116), some (.int (zI m)), some (.int (zI 0)), some (.long ho), none, some (.int (zI fr)), some (.long ta), none, some (.int (zI kd)), some (.int (zI to)), some (.int (zI mo)), x11, x12], [.ref 132, .int (zI v)], es)
  refine x_geti (p := 68) i_29_216 hs_es rfl rfl ?_
  rw [show (gI es 68 2).toInt = 0 from by exact hli]
  by_cases c1 : 0 < v
  · refine x_cmpT i_29_219 (by unfold i32 iLO iHI; omega) (by unfold i32 iLO iHI; omega) rfl (by simp only [zC, cR]; omega) ?_
    refine x_iinc (x := to) i_29_314 rfl (by show 9 < 13; decide) ?_
    show aW _ _ _ _ _ _ (317, [some (.ref 116), some (.int (zI m)), some (.int (zI 0)), some (.long ho), none, some (.int (zI fr)), some (.long ta), none, some (.int (zI kd)), some (.int (zI (to + 1))), some (.int (zI mo)), x11, x12], [], es)
    refine x0 (r := (157, [some (.ref 116), some (.int (zI m)), some (.int (zI 0)), some (.long ho), none, some (.int (zI fr)), some (.long ta), none, some (.int (zI kd)), some (.int (zI (to + 1))), some (.int (zI mo)), x11, x12], [], es)) i_29_317 rfl ?_
    exact K1 c1
  · refine x_cmpF i_29_219 (by unfold i32 iLO iHI; omega) (by unfold i32 iLO iHI; omega) rfl (by simp only [zC, cR]; omega) ?_
    refine x0 (r := (223, [some (.ref 116), some (.int (zI m)), some (.int (zI 0)), some (.long ho), none, some (.int (zI fr)), some (.long ta), none, some (.int (zI kd)), some (.int (zI to)), some (.int (zI mo)), x11, x12], [.ref 116], es)) i_29_222 rfl ?_
    refine x_getr (p := 52) (k := 130) i_29_223 hs_es rfl rfl ?_
    show aW _ _ _ _ _ _ (226, [some (.ref 116), some (.int (zI m)), some (.int (zI 0)), some (.long ho), none, some (.int (zI fr)), some (.long ta), none, some (.int (zI kd)), some (.int (zI to)), some (.int (zI mo)), x11, x12], [.ref 130], es)
    refine x0 (r := (228, [some (.ref 116), some (.int (zI m)), some (.int (zI 0)), some (.long ho), none, some (.int (zI fr)), some (.long ta), none, some (.int (zI kd)), some (.int (zI to)), some (.int (zI mo)), x11, x12], [.int (zI mo), .ref 130], es)) i_29_226 rfl ?_
    refine x_call (vs := [.ref 130, .int (zI mo)]) (rs := []) i_29_228 rfl (fun _ => rfl) rfl rfl rfl rfl rfl (pCall_v (p := 66) hs_es rfl rfl rfl rfl rfl (by decide) rfl rfl rfl rfl rfl) ?_
    show aW _ _ _ _ _ _ (0, [some (.ref 130), some (.int (zI mo)), none, none, none], [], es)
    refine x0 (r := (1, [some (.ref 130), some (.int (zI mo)), none, none, none], [.int (zI mo)], es)) i_58_0 rfl ?_
    refine x0 (r := (3, [some (.ref 130), some (.int (zI mo)), none, none, none], [.int (zI 36), .int (zI mo)], es)) i_58_1 (by rfl) ?_
    refine x_idivn i_58_3 (by omega) (by unfold i32 iLO iHI; omega) (by unfold i32 iLO iHI; omega) (by omega) ?_
    refine x0 (r := (5, [some (.ref 130), some (.int (zI mo)), some (.int (zI (mo / 36))), none, none], [], es)) i_58_4 rfl ?_
    refine x0 (r := (6, [some (.ref 130), some (.int (zI mo)), some (.int (zI (mo / 36))), none, none], [.int (zI mo)], es)) i_58_5 rfl ?_
    refine x0 (r := (8, [some (.ref 130), some (.int (zI mo)), some (.int (zI (mo / 36))), none, none], [.int (zI 36), .int (zI mo)], es)) i_58_6 (by rfl) ?_
    refine x_iremn i_58_8 (by omega) (by unfold i32 iLO iHI; omega) (by unfold i32 iLO iHI; omega) (by omega) ?_
    refine x0 (r := (10, [some (.ref 130), some (.int (zI mo)), some (.int (zI (mo / 36))), some (.int (zI (mo % 36))), none], [], es)) i_58_9 rfl ?_
    refine x0 (r := (11, [some (.ref 130), some (.int (zI mo)), some (.int (zI (mo / 36))), some (.int (zI (mo % 36))), none], [.ref 130], es)) i_58_10 rfl ?_
    refine x_getr (p := 66) (k := 131) i_58_11 hs_es rfl rfl ?_
    show aW _ _ _ _ _ _ (14, [some (.ref 130), some (.int (zI mo)), some (.int (zI (mo / 36))), some (.int (zI (mo % 36))), none], [.ref 131], es)
    refine x0 (r := (15, [some (.ref 130), some (.int (zI mo)), some (.int (zI (mo / 36))), some (.int (zI (mo % 36))), none], [.int (zI (mo % 36)), .ref 131], es)) i_58_14 rfl ?_
    refine x_call (vs := [.ref 131, .int (zI (mo % 36))]) (rs := []) i_58_15 rfl (fun _ => rfl) rfl rfl rfl rfl rfl rfl ?_
    show aW _ _ _ _ _ _ (0, [some (.ref 131), some (.int (zI (mo % 36)))], [], es)
    refine x0 (r := (1, [some (.ref 131), some (.int (zI (mo % 36)))], [.int (zI (mo % 36))], es)) i_28_0 rfl ?_
    refine x_ifF i_28_1 (by unfold i32 iLO iHI; omega) rfl (by simp only [zC, cR]; omega) ?_
    refine x0 (r := (5, [some (.ref 131), some (.int (zI (mo % 36)))], [.int (zI (mo % 36))], es)) i_28_4 rfl ?_
    refine x0 (r := (6, [some (.ref 131), some (.int (zI (mo % 36)))], [.ref 131, .int (zI (mo % 36))], es)) i_28_5 rfl ?_
    refine x_alen (p := 67) (n := 36) i_28_6 hs_es rfl ?_
    refine x_cmpF i_28_7 (by unfold i32 iLO iHI; omega) (by unfold i32 iLO iHI; omega) rfl (by simp only [zC, cR]; omega) ?_
    refine x0 (r := (11, [some (.ref 131), some (.int (zI (mo % 36)))], [.ref 131], es)) i_28_10 rfl ?_
    refine x0 (r := (12, [some (.ref 131), some (.int (zI (mo % 36)))], [.int (zI (mo % 36)), .ref 131], es)) i_28_11 rfl ?_
    refine x_iald (p := 67) i_28_12 hs_es rfl (by unfold i32 iLO iHI; omega) (by omega) (by omega) ?_
    obtain ⟨v2, e_v2⟩ : ∃ z : Int, z = (gA es 67 (mo % 36).toNat).toInt := ⟨_, rfl⟩
    rw [← e_v2]
    have r_v2 : iLO ≤ v2 ∧ v2 ≤ iHI := by rw [e_v2]; exact i32_rng _
    unfold iLO iHI at r_v2
    refine x0 (r := (17, [some (.ref 131), some (.int (zI (mo % 36)))], [.int (zI v2)], es)) i_28_13 rfl ?_
    refine x_ret (v := some (.int (zI v2))) i_28_17 rfl (fun _ => rfl) rfl rfl rfl ?_
    show aW _ _ _ _ _ _ (18, [some (.ref 130), some (.int (zI mo)), some (.int (zI (mo / 36))), some (.int (zI (mo % 36))), none], [.int (zI v2)], es)
    refine x0 (r := (20, [some (.ref 130), some (.int (zI mo)), some (.int (zI (mo / 36))), some (.int (zI (mo % 36))), some (.int (zI v2))], [], es)) i_58_18 rfl ?_
    refine x0 (r := (21, [some (.ref 130), some (.int (zI mo)), some (.int (zI (mo / 36))), some (.int (zI (mo % 36))), some (.int (zI v2))], [.ref 130], es)) i_58_20 rfl ?_
    refine x_getr (p := 66) (k := 131) i_58_21 hs_es rfl rfl ?_
    show aW _ _ _ _ _ _ (24, [some (.ref 130), some (.int (zI mo)), some (.int (zI (mo / 36))), some (.int (zI (mo % 36))), some (.int (zI v2))], [.ref 131], es)
    refine x0 (r := (25, [some (.ref 130), some (.int (zI mo)), some (.int (zI (mo / 36))), some (.int (zI (mo % 36))), some (.int (zI v2))], [.int (zI (mo % 36)), .ref 131], es)) i_58_24 rfl ?_
    refine x0 (r := (26, [some (.ref 130), some (.int (zI mo)), some (.int (zI (mo / 36))), some (.int (zI (mo % 36))), some (.int (zI v2))], [.ref 130, .int (zI (mo % 36)), .ref 131], es)) i_58_25 rfl ?_
    refine x_getr (p := 66) (k := 131) i_58_26 hs_es rfl rfl ?_
    show aW _ _ _ _ _ _ (29, [some (.ref 130), some (.int (zI mo)), some (.int (zI (mo / 36))), some (.int (zI (mo % 36))), some (.int (zI v2))], [.ref 131, .int (zI (mo % 36)), .ref 131], es)
    refine x0 (r := (30, [some (.ref 130), some (.int (zI mo)), some (.int (zI (mo / 36))), some (.int (zI (mo % 36))), some (.int (zI v2))], [.int (zI (mo / 36)), .ref 131, .int (zI (mo % 36)), .ref 131], es)) i_58_29 rfl ?_
    refine x_call (vs := [.ref 131, .int (zI (mo / 36))]) (rs := [.int (zI (mo % 36)), .ref 131]) i_58_30 rfl (fun _ => rfl) rfl rfl rfl rfl rfl rfl ?_
    show aW _ _ _ _ _ _ (0, [some (.ref 131), some (.int (zI (mo / 36)))], [], es)
    refine x0 (r := (1, [some (.ref 131), some (.int (zI (mo / 36)))], [.int (zI (mo / 36))], es)) i_28_0 rfl ?_
    refine x_ifF i_28_1 (by unfold i32 iLO iHI; omega) rfl (by simp only [zC, cR]; omega) ?_
    refine x0 (r := (5, [some (.ref 131), some (.int (zI (mo / 36)))], [.int (zI (mo / 36))], es)) i_28_4 rfl ?_
    refine x0 (r := (6, [some (.ref 131), some (.int (zI (mo / 36)))], [.ref 131, .int (zI (mo / 36))], es)) i_28_5 rfl ?_
    refine x_alen (p := 67) (n := 36) i_28_6 hs_es rfl ?_
    refine x_cmpF i_28_7 (by unfold i32 iLO iHI; omega) (by unfold i32 iLO iHI; omega) rfl (by simp only [zC, cR]; omega) ?_
    refine x0 (r := (11, [some (.ref 131), some (.int (zI (mo / 36)))], [.ref 131], es)) i_28_10 rfl ?_
    refine x0 (r := (12, [some (.ref 131), some (.int (zI (mo / 36)))], [.int (zI (mo / 36)), .ref 131], es)) i_28_11 rfl ?_
    refine x_iald (p := 67) i_28_12 hs_es rfl (by unfold i32 iLO iHI; omega) (by omega) (by omega) ?_
    obtain ⟨v3, e_v3⟩ : ∃ z : Int, z = (gA es 67 (mo / 36).toNat).toInt := ⟨_, rfl⟩
    rw [← e_v3]
    have r_v3 : iLO ≤ v3 ∧ v3 ≤ iHI := by rw [e_v3]; exact i32_rng _
    unfold iLO iHI at r_v3
    refine x0 (r := (17, [some (.ref 131), some (.int (zI (mo / 36)))], [.int (zI v3)], es)) i_28_13 rfl ?_
    refine x_ret (v := some (.int (zI v3))) i_28_17 rfl (fun _ => rfl) rfl rfl rfl ?_
    show aW _ _ _ _ _ _ (33, [some (.ref 130), some (.int (zI mo)), some (.int (zI (mo / 36))), some (.int (zI (mo % 36))), some (.int (zI v2))], [.int (zI v3), .int (zI (mo % 36)), .ref 131], es)
    refine x_call (vs := [.ref 131, .int (zI (mo % 36)), .int (zI v3)]) (rs := []) i_58_33 rfl (fun _ => rfl) rfl rfl rfl rfl rfl rfl ?_
    show aW _ _ _ _ _ _ (0, [some (.ref 131), some (.int (zI (mo % 36))), some (.int (zI v3))], [], es)
    refine x0 (r := (1, [some (.ref 131), some (.int (zI (mo % 36))), some (.int (zI v3))], [.int (zI (mo % 36))], es)) i_14_0 rfl ?_
    refine x_ifF i_14_1 (by unfold i32 iLO iHI; omega) rfl (by simp only [zC, cR]; omega) ?_
    refine x0 (r := (5, [some (.ref 131), some (.int (zI (mo % 36))), some (.int (zI v3))], [.int (zI (mo % 36))], es)) i_14_4 rfl ?_
    refine x0 (r := (6, [some (.ref 131), some (.int (zI (mo % 36))), some (.int (zI v3))], [.ref 131, .int (zI (mo % 36))], es)) i_14_5 rfl ?_
    refine x_alen (p := 67) (n := 36) i_14_6 hs_es rfl ?_
    refine x_cmpF i_14_7 (by unfold i32 iLO iHI; omega) (by unfold i32 iLO iHI; omega) rfl (by simp only [zC, cR]; omega) ?_
    refine x0 (r := (11, [some (.ref 131), some (.int (zI (mo % 36))), some (.int (zI v3))], [.ref 131], es)) i_14_10 rfl ?_
    refine x0 (r := (12, [some (.ref 131), some (.int (zI (mo % 36))), some (.int (zI v3))], [.int (zI (mo % 36)), .ref 131], es)) i_14_11 rfl ?_
    refine x0 (r := (13, [some (.ref 131), some (.int (zI (mo % 36))), some (.int (zI v3))], [.int (zI v3), .int (zI (mo % 36)), .ref 131], es)) i_14_12 rfl ?_
    refine x_iast (p := 67) i_14_13 hs_es rfl (by unfold i32 iLO iHI; omega) (by omega) (by omega) ?_
    obtain ⟨es4, e_es4⟩ : ∃ z : PH, z = sA es 67 (mo % 36).toNat (zI v3) := ⟨_, rfl⟩
    have hs_es4 : sh es4 := by rw [e_es4]; exact sh_sA hs_es
    rw [← e_es4]
    refine x_ret (v := none) i_14_14 rfl (fun _ => rfl) rfl rfl rfl ?_
    show aW _ _ _ _ _ _ (36, [some (.ref 130), some (.int (zI mo)), some (.int (zI (mo / 36))), some (.int (zI (mo % 36))), some (.int (zI v2))], [], es4)
    refine x0 (r := (37, [some (.ref 130), some (.int (zI mo)), some (.int (zI (mo / 36))), some (.int (zI (mo % 36))), some (.int (zI v2))], [.ref 130], es4)) i_58_36 rfl ?_
    refine x_getr (p := 66) (k := 131) i_58_37 hs_es4 rfl rfl ?_
    show aW _ _ _ _ _ _ (40, [some (.ref 130), some (.int (zI mo)), some (.int (zI (mo / 36))), some (.int (zI (mo % 36))), some (.int (zI v2))], [.ref 131], es4)
    refine x0 (r := (41, [some (.ref 130), some (.int (zI mo)), some (.int (zI (mo / 36))), some (.int (zI (mo % 36))), some (.int (zI v2))], [.int (zI (mo / 36)), .ref 131], es4)) i_58_40 rfl ?_
    refine x0 (r := (42, [some (.ref 130), some (.int (zI mo)), some (.int (zI (mo / 36))), some (.int (zI (mo % 36))), some (.int (zI v2))], [.int (zI 0), .int (zI (mo / 36)), .ref 131], es4)) i_58_41 (by rfl) ?_
    refine x_call (vs := [.ref 131, .int (zI (mo / 36)), .int (zI 0)]) (rs := []) i_58_42 rfl (fun _ => rfl) rfl rfl rfl rfl rfl rfl ?_
    show aW _ _ _ _ _ _ (0, [some (.ref 131), some (.int (zI (mo / 36))), some (.int (zI 0))], [], es4)
    refine x0 (r := (1, [some (.ref 131), some (.int (zI (mo / 36))), some (.int (zI 0))], [.int (zI (mo / 36))], es4)) i_14_0 rfl ?_
    refine x_ifF i_14_1 (by unfold i32 iLO iHI; omega) rfl (by simp only [zC, cR]; omega) ?_
    refine x0 (r := (5, [some (.ref 131), some (.int (zI (mo / 36))), some (.int (zI 0))], [.int (zI (mo / 36))], es4)) i_14_4 rfl ?_
    refine x0 (r := (6, [some (.ref 131), some (.int (zI (mo / 36))), some (.int (zI 0))], [.ref 131, .int (zI (mo / 36))], es4)) i_14_5 rfl ?_
    refine x_alen (p := 67) (n := 36) i_14_6 hs_es4 rfl ?_
    refine x_cmpF i_14_7 (by unfold i32 iLO iHI; omega) (by unfold i32 iLO iHI; omega) rfl (by simp only [zC, cR]; omega) ?_
    refine x0 (r := (11, [some (.ref 131), some (.int (zI (mo / 36))), some (.int (zI 0))], [.ref 131], es4)) i_14_10 rfl ?_
    refine x0 (r := (12, [some (.ref 131), some (.int (zI (mo / 36))), some (.int (zI 0))], [.int (zI (mo / 36)), .ref 131], es4)) i_14_11 rfl ?_
    refine x0 (r := (13, [some (.ref 131), some (.int (zI (mo / 36))), some (.int (zI 0))], [.int (zI 0), .int (zI (mo / 36)), .ref 131], es4)) i_14_12 rfl ?_
    refine x_iast (p := 67) i_14_13 hs_es4 rfl (by unfold i32 iLO iHI; omega) (by omega) (by omega) ?_
    obtain ⟨es5, e_es5⟩ : ∃ z : PH, z = sA es4 67 (mo / 36).toNat (zI 0) := ⟨_, rfl⟩
    have hs_es5 : sh es5 := by rw [e_es5]; exact sh_sA hs_es4
    rw [← e_es5]
    refine x_ret (v := none) i_14_14 rfl (fun _ => rfl) rfl rfl rfl ?_
    show aW _ _ _ _ _ _ (45, [some (.ref 130), some (.int (zI mo)), some (.int (zI (mo / 36))), some (.int (zI (mo % 36))), some (.int (zI v2))], [], es5)
    refine x0 (r := (47, [some (.ref 130), some (.int (zI mo)), some (.int (zI (mo / 36))), some (.int (zI (mo % 36))), some (.int (zI v2))], [.int (zI v2)], es5)) i_58_45 rfl ?_
    refine x_ret (v := some (.int (zI v2))) i_58_47 rfl (fun _ => rfl) rfl rfl rfl ?_
    show aW _ _ _ _ _ _ (231, [some (.ref 116), some (.int (zI m)), some (.int (zI 0)), some (.long ho), none, some (.int (zI fr)), some (.long ta), none, some (.int (zI kd)), some (.int (zI to)), some (.int (zI mo)), x11, x12], [.int (zI v2)], es5)
    refine x0 (r := (233, [some (.ref 116), some (.int (zI m)), some (.int (zI 0)), some (.long ho), none, some (.int (zI fr)), some (.long ta), none, some (.int (zI kd)), some (.int (zI to)), some (.int (zI mo)), some (.int (zI v2)), x12], [], es5)) i_29_231 rfl ?_
    refine x0 (r := (234, [some (.ref 116), some (.int (zI m)), some (.int (zI 0)), some (.long ho), none, some (.int (zI fr)), some (.long ta), none, some (.int (zI kd)), some (.int (zI to)), some (.int (zI mo)), some (.int (zI v2)), x12], [.ref 116], es5)) i_29_233 rfl ?_
    refine x_getr (p := 52) (k := 128) i_29_234 hs_es5 rfl rfl ?_
    show aW _ _ _ _ _ _ (237, [some (.ref 116), some (.int (zI m)), some (.int (zI 0)), some (.long ho), none, some (.int (zI fr)), some (.long ta), none, some (.int (zI kd)), some (.int (zI to)), some (.int (zI mo)), some (.int (zI v2)), x12], [.ref 128], es5)
    refine x0 (r := (238, [some (.ref 116), some (.int (zI m)), some (.int (zI 0)), some (.long ho), none, some (.int (zI fr)), some (.long ta), none, some (.int (zI kd)), some (.int (zI to)), some (.int (zI mo)), some (.int (zI v2)), x12], [.int (zI m), .ref 128], es5)) i_29_237 rfl ?_
    refine x0 (r := (240, [some (.ref 116), some (.int (zI m)), some (.int (zI 0)), some (.long ho), none, some (.int (zI fr)), some (.long ta), none, some (.int (zI kd)), some (.int (zI to)), some (.int (zI mo)), some (.int (zI v2)), x12], [.int (zI mo), .int (zI m), .ref 128], es5)) i_29_238 rfl ?_
    refine x_call (vs := [.ref 128, .int (zI m), .int (zI mo)]) (rs := []) i_29_240 rfl (fun _ => rfl) rfl rfl rfl rfl rfl rfl ?_
    show aW _ _ _ _ _ _ (0, [some (.ref 128), some (.int (zI m)), some (.int (zI mo))], [], es5)
    refine x0 (r := (1, [some (.ref 128), some (.int (zI m)), some (.int (zI mo))], [.int (zI m)], es5)) i_14_0 rfl ?_
    refine x_ifF i_14_1 (by unfold i32 iLO iHI; omega) rfl (by simp only [zC, cR]; omega) ?_
    refine x0 (r := (5, [some (.ref 128), some (.int (zI m)), some (.int (zI mo))], [.int (zI m)], es5)) i_14_4 rfl ?_
    refine x0 (r := (6, [some (.ref 128), some (.int (zI m)), some (.int (zI mo))], [.ref 128, .int (zI m)], es5)) i_14_5 rfl ?_
    refine x_alen (p := 64) (n := 30) i_14_6 hs_es5 rfl ?_
    refine x_cmpF i_14_7 (by unfold i32 iLO iHI; omega) (by unfold i32 iLO iHI; omega) rfl (by simp only [zC, cR]; omega) ?_
    refine x0 (r := (11, [some (.ref 128), some (.int (zI m)), some (.int (zI mo))], [.ref 128], es5)) i_14_10 rfl ?_
    refine x0 (r := (12, [some (.ref 128), some (.int (zI m)), some (.int (zI mo))], [.int (zI m), .ref 128], es5)) i_14_11 rfl ?_
    refine x0 (r := (13, [some (.ref 128), some (.int (zI m)), some (.int (zI mo))], [.int (zI mo), .int (zI m), .ref 128], es5)) i_14_12 rfl ?_
    refine x_iast (p := 64) i_14_13 hs_es5 rfl (by unfold i32 iLO iHI; omega) (by omega) (by omega) ?_
    obtain ⟨es6, e_es6⟩ : ∃ z : PH, z = sA es5 64 m.toNat (zI mo) := ⟨_, rfl⟩
    have hs_es6 : sh es6 := by rw [e_es6]; exact sh_sA hs_es5
    rw [← e_es6]
    refine x_ret (v := none) i_14_14 rfl (fun _ => rfl) rfl rfl rfl ?_
    show aW _ _ _ _ _ _ (243, [some (.ref 116), some (.int (zI m)), some (.int (zI 0)), some (.long ho), none, some (.int (zI fr)), some (.long ta), none, some (.int (zI kd)), some (.int (zI to)), some (.int (zI mo)), some (.int (zI v2)), x12], [], es6)
    refine x0 (r := (244, [some (.ref 116), some (.int (zI m)), some (.int (zI 0)), some (.long ho), none, some (.int (zI fr)), some (.long ta), none, some (.int (zI kd)), some (.int (zI to)), some (.int (zI mo)), some (.int (zI v2)), x12], [.ref 116], es6)) i_29_243 rfl ?_
    refine x_geti (p := 52) i_29_244 hs_es6 rfl rfl ?_
    rw [show (gI es6 52 15).toInt = 0 from by rw [e_es6, gI_sA, e_es5, gI_sA, e_es4, gI_sA]; exact hpu]
    refine x0 (r := (248, [some (.ref 116), some (.int (zI m)), some (.int (zI 0)), some (.long ho), none, some (.int (zI fr)), some (.long ta), none, some (.int (zI kd)), some (.int (zI to)), some (.int (zI mo)), some (.int (zI v2)), x12], [.int (zI 1), .int (zI 0)], es6)) i_29_247 (by rfl) ?_
    refine x_cmpT i_29_248 (by unfold i32 iLO iHI; omega) (by unfold i32 iLO iHI; omega) rfl (by simp only [zC, cR]; omega) ?_
    refine x0 (r := (297, [some (.ref 116), some (.int (zI m)), some (.int (zI 0)), some (.long ho), none, some (.int (zI fr)), some (.long ta), none, some (.int (zI kd)), some (.int (zI to)), some (.int (zI mo)), some (.int (zI v2)), x12], [.ref 116], es6)) i_29_296 rfl ?_
    refine x0 (r := (298, [some (.ref 116), some (.int (zI m)), some (.int (zI 0)), some (.long ho), none, some (.int (zI fr)), some (.long ta), none, some (.int (zI kd)), some (.int (zI to)), some (.int (zI mo)), some (.int (zI v2)), x12], [.int (zI m), .ref 116], es6)) i_29_297 rfl ?_
    refine x0 (r := (299, [some (.ref 116), some (.int (zI m)), some (.int (zI 0)), some (.long ho), none, some (.int (zI fr)), some (.long ta), none, some (.int (zI kd)), some (.int (zI to)), some (.int (zI mo)), some (.int (zI v2)), x12], [.int (zI 1), .int (zI m), .ref 116], es6)) i_29_298 (by rfl) ?_
    refine x_iadd i_29_299 ?_
    exact K2 c1 v2 e_v2 v3 e_v3 es4 e_es4 es5 e_es5 es6 e_es6
theorem s_lo303 {O : pOut} {d kc ks : Nat} {Q : pRes → Prop} {es : PH} {ho ta : Int64} {m fr kd to mo tk : Int} {x12 : Option Value} (hs_es : sh es) (hm : 0 ≤ m ∧ m ≤ 23) (h1 : 0 ≤ fr ∧ fr ≤ 35) (h2 : 0 ≤ to ∧ to ≤ 35) (h3 : 0 ≤ mo ∧ mo ≤ 1295)
    (K1 : ∀ v1 : Int, v1 = (gA es 67 (mo % 36).toNat).toInt → ∀ es2 : PH, es2 = sA es 67 (mo / 36).toNat (zI v1) → ∀ es3 : PH, es3 = sA es2 67 (mo % 36).toNat (zI tk) → aW O (d + 2) 29 kc ks Q (157, [some (.ref 116), some (.int (zI m)), some (.int (zI 0)), some (.long ho), none, some (.int (zI fr)), some (.long ta), none, some (.int (zI kd)), some (.int (zI (to + 1))), some (.int (zI mo)), some (.int (zI tk)), x12], [], es3)) :
    aW O (d + 2) 29 kc ks Q (303, [some (.ref 116), some (.int (zI m)), some (.int (zI 0)), some (.long ho), none, some (.int (zI fr)), some (.long ta), none, some (.int (zI kd)), some (.int (zI to)), some (.int (zI mo)), some (.int (zI tk)), x12], [], es) := by
  refine x0 (r := (304, [some (.ref 116), some (.int (zI m)), some (.int (zI 0)), some (.long ho), none, some (.int (zI fr)), some (.long ta), none, some (.int (zI kd)), some (.int (zI to)), some (.int (zI mo)), some (.int (zI tk)), x12], [.ref 116], es)) i_29_303 rfl ?_
  refine x_getr (p := 52) (k := 130) i_29_304 hs_es rfl rfl ?_
  show aW _ _ _ _ _ _ (307, [some (.ref 116), some (.int (zI m)), some (.int (zI 0)), some (.long ho), none, some (.int (zI fr)), some (.long ta), none, some (.int (zI kd)), some (.int (zI to)), some (.int (zI mo)), some (.int (zI tk)), x12], [.ref 130], es)
  refine x0 (r := (309, [some (.ref 116), some (.int (zI m)), some (.int (zI 0)), some (.long ho), none, some (.int (zI fr)), some (.long ta), none, some (.int (zI kd)), some (.int (zI to)), some (.int (zI mo)), some (.int (zI tk)), x12], [.int (zI mo), .ref 130], es)) i_29_307 rfl ?_
  refine x0 (r := (311, [some (.ref 116), some (.int (zI m)), some (.int (zI 0)), some (.long ho), none, some (.int (zI fr)), some (.long ta), none, some (.int (zI kd)), some (.int (zI to)), some (.int (zI mo)), some (.int (zI tk)), x12], [.int (zI tk), .int (zI mo), .ref 130], es)) i_29_309 rfl ?_
  refine x_call (vs := [.ref 130, .int (zI mo), .int (zI tk)]) (rs := []) i_29_311 rfl (fun _ => rfl) rfl rfl rfl rfl rfl (pCall_v (p := 66) hs_es rfl rfl rfl rfl rfl (by decide) rfl rfl rfl rfl rfl) ?_
  show aW _ _ _ _ _ _ (0, [some (.ref 130), some (.int (zI mo)), some (.int (zI tk)), none, none], [], es)
  refine x0 (r := (1, [some (.ref 130), some (.int (zI mo)), some (.int (zI tk)), none, none], [.int (zI mo)], es)) i_66_0 rfl ?_
  refine x0 (r := (3, [some (.ref 130), some (.int (zI mo)), some (.int (zI tk)), none, none], [.int (zI 36), .int (zI mo)], es)) i_66_1 (by rfl) ?_
  refine x_idivn i_66_3 (by omega) (by unfold i32 iLO iHI; omega) (by unfold i32 iLO iHI; omega) (by omega) ?_
  refine x0 (r := (5, [some (.ref 130), some (.int (zI mo)), some (.int (zI tk)), some (.int (zI (mo / 36))), none], [], es)) i_66_4 rfl ?_
  refine x0 (r := (6, [some (.ref 130), some (.int (zI mo)), some (.int (zI tk)), some (.int (zI (mo / 36))), none], [.int (zI mo)], es)) i_66_5 rfl ?_
  refine x0 (r := (8, [some (.ref 130), some (.int (zI mo)), some (.int (zI tk)), some (.int (zI (mo / 36))), none], [.int (zI 36), .int (zI mo)], es)) i_66_6 (by rfl) ?_
  refine x_iremn i_66_8 (by omega) (by unfold i32 iLO iHI; omega) (by unfold i32 iLO iHI; omega) (by omega) ?_
  refine x0 (r := (11, [some (.ref 130), some (.int (zI mo)), some (.int (zI tk)), some (.int (zI (mo / 36))), some (.int (zI (mo % 36)))], [], es)) i_66_9 rfl ?_
  refine x0 (r := (12, [some (.ref 130), some (.int (zI mo)), some (.int (zI tk)), some (.int (zI (mo / 36))), some (.int (zI (mo % 36)))], [.ref 130], es)) i_66_11 rfl ?_
  refine x_getr (p := 66) (k := 131) i_66_12 hs_es rfl rfl ?_
  show aW _ _ _ _ _ _ (15, [some (.ref 130), some (.int (zI mo)), some (.int (zI tk)), some (.int (zI (mo / 36))), some (.int (zI (mo % 36)))], [.ref 131], es)
  refine x0 (r := (16, [some (.ref 130), some (.int (zI mo)), some (.int (zI tk)), some (.int (zI (mo / 36))), some (.int (zI (mo % 36)))], [.int (zI (mo / 36)), .ref 131], es)) i_66_15 rfl ?_
  refine x0 (r := (17, [some (.ref 130), some (.int (zI mo)), some (.int (zI tk)), some (.int (zI (mo / 36))), some (.int (zI (mo % 36)))], [.ref 130, .int (zI (mo / 36)), .ref 131], es)) i_66_16 rfl ?_
  refine x_getr (p := 66) (k := 131) i_66_17 hs_es rfl rfl ?_
  show aW _ _ _ _ _ _ (20, [some (.ref 130), some (.int (zI mo)), some (.int (zI tk)), some (.int (zI (mo / 36))), some (.int (zI (mo % 36)))], [.ref 131, .int (zI (mo / 36)), .ref 131], es)
  refine x0 (r := (22, [some (.ref 130), some (.int (zI mo)), some (.int (zI tk)), some (.int (zI (mo / 36))), some (.int (zI (mo % 36)))], [.int (zI (mo % 36)), .ref 131, .int (zI (mo / 36)), .ref 131], es)) i_66_20 rfl ?_
  refine x_call (vs := [.ref 131, .int (zI (mo % 36))]) (rs := [.int (zI (mo / 36)), .ref 131]) i_66_22 rfl (fun _ => rfl) rfl rfl rfl rfl rfl rfl ?_
  show aW _ _ _ _ _ _ (0, [some (.ref 131), some (.int (zI (mo % 36)))], [], es)
  refine x0 (r := (1, [some (.ref 131), some (.int (zI (mo % 36)))], [.int (zI (mo % 36))], es)) i_28_0 rfl ?_
  refine x_ifF i_28_1 (by unfold i32 iLO iHI; omega) rfl (by simp only [zC, cR]; omega) ?_
  refine x0 (r := (5, [some (.ref 131), some (.int (zI (mo % 36)))], [.int (zI (mo % 36))], es)) i_28_4 rfl ?_
  refine x0 (r := (6, [some (.ref 131), some (.int (zI (mo % 36)))], [.ref 131, .int (zI (mo % 36))], es)) i_28_5 rfl ?_
  refine x_alen (p := 67) (n := 36) i_28_6 hs_es rfl ?_
  refine x_cmpF i_28_7 (by unfold i32 iLO iHI; omega) (by unfold i32 iLO iHI; omega) rfl (by simp only [zC, cR]; omega) ?_
  refine x0 (r := (11, [some (.ref 131), some (.int (zI (mo % 36)))], [.ref 131], es)) i_28_10 rfl ?_
  refine x0 (r := (12, [some (.ref 131), some (.int (zI (mo % 36)))], [.int (zI (mo % 36)), .ref 131], es)) i_28_11 rfl ?_
  refine x_iald (p := 67) i_28_12 hs_es rfl (by unfold i32 iLO iHI; omega) (by omega) (by omega) ?_
  obtain ⟨v1, e_v1⟩ : ∃ z : Int, z = (gA es 67 (mo % 36).toNat).toInt := ⟨_, rfl⟩
  rw [← e_v1]
  have r_v1 : iLO ≤ v1 ∧ v1 ≤ iHI := by rw [e_v1]; exact i32_rng _
  unfold iLO iHI at r_v1
  refine x0 (r := (17, [some (.ref 131), some (.int (zI (mo % 36)))], [.int (zI v1)], es)) i_28_13 rfl ?_
  refine x_ret (v := some (.int (zI v1))) i_28_17 rfl (fun _ => rfl) rfl rfl rfl ?_
  show aW _ _ _ _ _ _ (25, [some (.ref 130), some (.int (zI mo)), some (.int (zI tk)), some (.int (zI (mo / 36))), some (.int (zI (mo % 36)))], [.int (zI v1), .int (zI (mo / 36)), .ref 131], es)
  refine x_call (vs := [.ref 131, .int (zI (mo / 36)), .int (zI v1)]) (rs := []) i_66_25 rfl (fun _ => rfl) rfl rfl rfl rfl rfl rfl ?_
  show aW _ _ _ _ _ _ (0, [some (.ref 131), some (.int (zI (mo / 36))), some (.int (zI v1))], [], es)
  refine x0 (r := (1, [some (.ref 131), some (.int (zI (mo / 36))), some (.int (zI v1))], [.int (zI (mo / 36))], es)) i_14_0 rfl ?_
  refine x_ifF i_14_1 (by unfold i32 iLO iHI; omega) rfl (by simp only [zC, cR]; omega) ?_
  refine x0 (r := (5, [some (.ref 131), some (.int (zI (mo / 36))), some (.int (zI v1))], [.int (zI (mo / 36))], es)) i_14_4 rfl ?_
  refine x0 (r := (6, [some (.ref 131), some (.int (zI (mo / 36))), some (.int (zI v1))], [.ref 131, .int (zI (mo / 36))], es)) i_14_5 rfl ?_
  refine x_alen (p := 67) (n := 36) i_14_6 hs_es rfl ?_
  refine x_cmpF i_14_7 (by unfold i32 iLO iHI; omega) (by unfold i32 iLO iHI; omega) rfl (by simp only [zC, cR]; omega) ?_
  refine x0 (r := (11, [some (.ref 131), some (.int (zI (mo / 36))), some (.int (zI v1))], [.ref 131], es)) i_14_10 rfl ?_
  refine x0 (r := (12, [some (.ref 131), some (.int (zI (mo / 36))), some (.int (zI v1))], [.int (zI (mo / 36)), .ref 131], es)) i_14_11 rfl ?_
  refine x0 (r := (13, [some (.ref 131), some (.int (zI (mo / 36))), some (.int (zI v1))], [.int (zI v1), .int (zI (mo / 36)), .ref 131], es)) i_14_12 rfl ?_
  refine x_iast (p := 67) i_14_13 hs_es rfl (by unfold i32 iLO iHI; omega) (by omega) (by omega) ?_
  obtain ⟨es2, e_es2⟩ : ∃ z : PH, z = sA es 67 (mo / 36).toNat (zI v1) := ⟨_, rfl⟩
  have hs_es2 : sh es2 := by rw [e_es2]; exact sh_sA hs_es
  rw [← e_es2]
  refine x_ret (v := none) i_14_14 rfl (fun _ => rfl) rfl rfl rfl ?_
  show aW _ _ _ _ _ _ (28, [some (.ref 130), some (.int (zI mo)), some (.int (zI tk)), some (.int (zI (mo / 36))), some (.int (zI (mo % 36)))], [], es2)
  refine x0 (r := (29, [some (.ref 130), some (.int (zI mo)), some (.int (zI tk)), some (.int (zI (mo / 36))), some (.int (zI (mo % 36)))], [.ref 130], es2)) i_66_28 rfl ?_
  refine x_getr (p := 66) (k := 131) i_66_29 hs_es2 rfl rfl ?_
  show aW _ _ _ _ _ _ (32, [some (.ref 130), some (.int (zI mo)), some (.int (zI tk)), some (.int (zI (mo / 36))), some (.int (zI (mo % 36)))], [.ref 131], es2)
  refine x0 (r := (34, [some (.ref 130), some (.int (zI mo)), some (.int (zI tk)), some (.int (zI (mo / 36))), some (.int (zI (mo % 36)))], [.int (zI (mo % 36)), .ref 131], es2)) i_66_32 rfl ?_
  refine x0 (r := (35, [some (.ref 130), some (.int (zI mo)), some (.int (zI tk)), some (.int (zI (mo / 36))), some (.int (zI (mo % 36)))], [.int (zI tk), .int (zI (mo % 36)), .ref 131], es2)) i_66_34 rfl ?_
  refine x_call (vs := [.ref 131, .int (zI (mo % 36)), .int (zI tk)]) (rs := []) i_66_35 rfl (fun _ => rfl) rfl rfl rfl rfl rfl rfl ?_
  show aW _ _ _ _ _ _ (0, [some (.ref 131), some (.int (zI (mo % 36))), some (.int (zI tk))], [], es2)
  refine x0 (r := (1, [some (.ref 131), some (.int (zI (mo % 36))), some (.int (zI tk))], [.int (zI (mo % 36))], es2)) i_14_0 rfl ?_
  refine x_ifF i_14_1 (by unfold i32 iLO iHI; omega) rfl (by simp only [zC, cR]; omega) ?_
  refine x0 (r := (5, [some (.ref 131), some (.int (zI (mo % 36))), some (.int (zI tk))], [.int (zI (mo % 36))], es2)) i_14_4 rfl ?_
  refine x0 (r := (6, [some (.ref 131), some (.int (zI (mo % 36))), some (.int (zI tk))], [.ref 131, .int (zI (mo % 36))], es2)) i_14_5 rfl ?_
  refine x_alen (p := 67) (n := 36) i_14_6 hs_es2 rfl ?_
  refine x_cmpF i_14_7 (by unfold i32 iLO iHI; omega) (by unfold i32 iLO iHI; omega) rfl (by simp only [zC, cR]; omega) ?_
  refine x0 (r := (11, [some (.ref 131), some (.int (zI (mo % 36))), some (.int (zI tk))], [.ref 131], es2)) i_14_10 rfl ?_
  refine x0 (r := (12, [some (.ref 131), some (.int (zI (mo % 36))), some (.int (zI tk))], [.int (zI (mo % 36)), .ref 131], es2)) i_14_11 rfl ?_
  refine x0 (r := (13, [some (.ref 131), some (.int (zI (mo % 36))), some (.int (zI tk))], [.int (zI tk), .int (zI (mo % 36)), .ref 131], es2)) i_14_12 rfl ?_
  refine x_iast (p := 67) i_14_13 hs_es2 rfl (by unfold i32 iLO iHI; omega) (by omega) (by omega) ?_
  obtain ⟨es3, e_es3⟩ : ∃ z : PH, z = sA es2 67 (mo % 36).toNat (zI tk) := ⟨_, rfl⟩
  have hs_es3 : sh es3 := by rw [e_es3]; exact sh_sA hs_es2
  rw [← e_es3]
  refine x_ret (v := none) i_14_14 rfl (fun _ => rfl) rfl rfl rfl ?_
  show aW _ _ _ _ _ _ (38, [some (.ref 130), some (.int (zI mo)), some (.int (zI tk)), some (.int (zI (mo / 36))), some (.int (zI (mo % 36)))], [], es3)
  refine x_ret (v := none) i_66_38 rfl (fun _ => rfl) rfl rfl rfl ?_
  show aW _ _ _ _ _ _ (314, [some (.ref 116), some (.int (zI m)), some (.int (zI 0)), some (.long ho), none, some (.int (zI fr)), some (.long ta), none, some (.int (zI kd)), some (.int (zI to)), some (.int (zI mo)), some (.int (zI tk)), x12], [], es3)
  refine x_iinc (x := to) i_29_314 rfl (by show 9 < 13; decide) ?_
  show aW _ _ _ _ _ _ (317, [some (.ref 116), some (.int (zI m)), some (.int (zI 0)), some (.long ho), none, some (.int (zI fr)), some (.long ta), none, some (.int (zI kd)), some (.int (zI (to + 1))), some (.int (zI mo)), some (.int (zI tk)), x12], [], es3)
  refine x0 (r := (157, [some (.ref 116), some (.int (zI m)), some (.int (zI 0)), some (.long ho), none, some (.int (zI fr)), some (.long ta), none, some (.int (zI kd)), some (.int (zI (to + 1))), some (.int (zI mo)), some (.int (zI tk)), x12], [], es3)) i_29_317 rfl ?_
  exact K1 v1 e_v1 es2 e_es2 es3 e_es3
theorem s_rbA42 {O : pOut} {d kc ks : Nat} {Q : pRes → Prop} {es : PH} {al : Int64} {go : Nat → Int32} {sr fa fr sd i rk fi be n : Int} {so ln : Nat} (hs_es : sh es) (ho64 : so < 64) (ho : O so = some (ln, go)) (hg : ∀ j, -2 ≤ (go j).toInt ∧ (go j).toInt ≤ 2) (h1 : -16 ≤ sr ∧ sr ≤ -12) (h2 : 0 ≤ fa ∧ fa ≤ 5) (h3 : 0 ≤ fr ∧ fr ≤ 35) (h4 : 0 ≤ sd ∧ sd ≤ 1) (h5 : 0 ≤ i ∧ i ≤ 20) (hi1 : i + 1 < (ln : Int)) (h6 : -2 ≤ rk ∧ rk ≤ 7) (h7 : -2 ≤ fi ∧ fi ≤ 7) (h8 : 0 ≤ be ∧ be ≤ 10) (h9 : 0 ≤ n ∧ n ≤ 5) (hT_es : hOK tT es)
    (K1 : fa ≤ n → aW O (d + 1) 51 kc ks Q (172, [some (.ref 130), some (.int (zI sr)), some (.int (zI fa)), some (.int (zI fr)), some (.int (zI sd)), some (.ref so), some (.long al), none, some (.int (zI i)), some (.int (zI rk)), some (.int (zI fi)), some (.int (zI be)), some (.int (zI n))], [], es))
    (K2 : ¬ (fa ≤ n) → be ≠ 0 → aW O (d + 1) 51 kc ks Q (172, [some (.ref 130), some (.int (zI sr)), some (.int (zI fa)), some (.int (zI fr)), some (.int (zI sd)), some (.ref so), some (.long al), none, some (.int (zI i)), some (.int (zI rk)), some (.int (zI fi)), some (.int (zI be)), some (.int (zI n))], [], es))
    (K3 : ¬ (fa ≤ n) → ¬ (be ≠ 0) → ∀ v3 : Int, v3 = (go i.toNat).toInt → ∀ v4 : Int, v4 = (go (i + 1).toNat).toInt → (rk + v3) < 0 → aW O (d + 1) 51 kc ks Q (172, [some (.ref 130), some (.int (zI sr)), some (.int (zI fa)), some (.int (zI fr)), some (.int (zI sd)), some (.ref so), some (.long al), none, some (.int (zI i)), some (.int (zI (rk + v3))), some (.int (zI (fi + v4))), some (.int (zI be)), some (.int (zI n))], [], es))
    (K4 : ¬ (fa ≤ n) → ¬ (be ≠ 0) → ∀ v3 : Int, v3 = (go i.toNat).toInt → ∀ v4 : Int, v4 = (go (i + 1).toNat).toInt → ¬ ((rk + v3) < 0) → 6 ≤ (rk + v3) → aW O (d + 1) 51 kc ks Q (172, [some (.ref 130), some (.int (zI sr)), some (.int (zI fa)), some (.int (zI fr)), some (.int (zI sd)), some (.ref so), some (.long al), none, some (.int (zI i)), some (.int (zI (rk + v3))), some (.int (zI (fi + v4))), some (.int (zI be)), some (.int (zI n))], [], es))
    (K5 : ¬ (fa ≤ n) → ¬ (be ≠ 0) → ∀ v3 : Int, v3 = (go i.toNat).toInt → ∀ v4 : Int, v4 = (go (i + 1).toNat).toInt → ¬ ((rk + v3) < 0) → ¬ (6 ≤ (rk + v3)) → (fi + v4) < 0 → aW O (d + 1) 51 kc ks Q (172, [some (.ref 130), some (.int (zI sr)), some (.int (zI fa)), some (.int (zI fr)), some (.int (zI sd)), some (.ref so), some (.long al), none, some (.int (zI i)), some (.int (zI (rk + v3))), some (.int (zI (fi + v4))), some (.int (zI be)), some (.int (zI n))], [], es))
    (K6 : ¬ (fa ≤ n) → ¬ (be ≠ 0) → ∀ v3 : Int, v3 = (go i.toNat).toInt → ∀ v4 : Int, v4 = (go (i + 1).toNat).toInt → ¬ ((rk + v3) < 0) → ¬ (6 ≤ (rk + v3)) → ¬ ((fi + v4) < 0) → (fi + v4) < 6 → ∀ v9 : Int, atP 67 ((6 * (rk + v3)) + (fi + v4)) es v9 → v9 ≠ 0 → sr = (-14) → aW O (d + 1) 51 kc ks Q (42, [some (.ref 130), some (.int (zI sr)), some (.int (zI fa)), some (.int (zI fr)), some (.int (zI sd)), some (.ref so), some (.long al), none, some (.int (zI i)), some (.int (zI (rk + v3))), some (.int (zI (fi + v4))), some (.int (zI v9)), some (.int (zI (n + 1)))], [], es))
    (K7 : ¬ (fa ≤ n) → ¬ (be ≠ 0) → ∀ v3 : Int, v3 = (go i.toNat).toInt → ∀ v4 : Int, v4 = (go (i + 1).toNat).toInt → ¬ ((rk + v3) < 0) → ¬ (6 ≤ (rk + v3)) → ¬ ((fi + v4) < 0) → (fi + v4) < 6 → ∀ v9 : Int, atP 67 ((6 * (rk + v3)) + (fi + v4)) es v9 → v9 ≠ 0 → ¬ (sr = (-14)) → v9 ≤ 0 → aW O (d + 1) 51 kc ks Q (42, [some (.ref 130), some (.int (zI sr)), some (.int (zI fa)), some (.int (zI fr)), some (.int (zI sd)), some (.ref so), some (.long al), none, some (.int (zI i)), some (.int (zI (rk + v3))), some (.int (zI (fi + v4))), some (.int (zI v9)), some (.int (zI (n + 1)))], [], es))
    (K8 : ¬ (fa ≤ n) → ¬ (be ≠ 0) → ∀ v3 : Int, v3 = (go i.toNat).toInt → ∀ v4 : Int, v4 = (go (i + 1).toNat).toInt → ¬ ((rk + v3) < 0) → ¬ (6 ≤ (rk + v3)) → ¬ ((fi + v4) < 0) → (fi + v4) < 6 → ∀ v9 : Int, atP 67 ((6 * (rk + v3)) + (fi + v4)) es v9 → v9 ≠ 0 → ¬ (sr = (-14)) → ¬ (v9 ≤ 0) → ∀ v13 : Int, v13 = (zI (v9 - 1) &&& zI 1).toInt → v13 ≠ (1 - sd) → aW O (d + 1) 51 kc ks Q (42, [some (.ref 130), some (.int (zI sr)), some (.int (zI fa)), some (.int (zI fr)), some (.int (zI sd)), some (.ref so), some (.long al), none, some (.int (zI i)), some (.int (zI (rk + v3))), some (.int (zI (fi + v4))), some (.int (zI v9)), some (.int (zI (n + 1)))], [], es))
    (K9 : ¬ (fa ≤ n) → ¬ (be ≠ 0) → ∀ v3 : Int, v3 = (go i.toNat).toInt → ∀ v4 : Int, v4 = (go (i + 1).toNat).toInt → ¬ ((rk + v3) < 0) → ¬ (6 ≤ (rk + v3)) → ¬ ((fi + v4) < 0) → (fi + v4) < 6 → ∀ v9 : Int, atP 67 ((6 * (rk + v3)) + (fi + v4)) es v9 → v9 ≠ 0 → ¬ (sr = (-14)) → ¬ (v9 ≤ 0) → ∀ v13 : Int, v13 = (zI (v9 - 1) &&& zI 1).toInt → ¬ (v13 ≠ (1 - sd)) → ∀ w15 : Int64, w15 = (Int64.ofNat 1) <<< ((zI ((6 * (rk + v3)) + (fi + v4))).toInt64 &&& 63) → ∀ w16 : Int64, w16 = al ||| w15 → aW O (d + 1) 51 kc ks Q (42, [some (.ref 130), some (.int (zI sr)), some (.int (zI fa)), some (.int (zI fr)), some (.int (zI sd)), some (.ref so), some (.long w16), none, some (.int (zI i)), some (.int (zI (rk + v3))), some (.int (zI (fi + v4))), some (.int (zI v9)), some (.int (zI (n + 1)))], [], es))
    (K10 : ¬ (fa ≤ n) → ¬ (be ≠ 0) → ∀ v3 : Int, v3 = (go i.toNat).toInt → ∀ v4 : Int, v4 = (go (i + 1).toNat).toInt → ¬ ((rk + v3) < 0) → ¬ (6 ≤ (rk + v3)) → ¬ ((fi + v4) < 0) → (fi + v4) < 6 → ∀ v9 : Int, atP 67 ((6 * (rk + v3)) + (fi + v4)) es v9 → ¬ (v9 ≠ 0) → sr = (-16) → aW O (d + 1) 51 kc ks Q (42, [some (.ref 130), some (.int (zI sr)), some (.int (zI fa)), some (.int (zI fr)), some (.int (zI sd)), some (.ref so), some (.long al), none, some (.int (zI i)), some (.int (zI (rk + v3))), some (.int (zI (fi + v4))), some (.int (zI v9)), some (.int (zI (n + 1)))], [], es))
    (K11 : ¬ (fa ≤ n) → ¬ (be ≠ 0) → ∀ v3 : Int, v3 = (go i.toNat).toInt → ∀ v4 : Int, v4 = (go (i + 1).toNat).toInt → ¬ ((rk + v3) < 0) → ¬ (6 ≤ (rk + v3)) → ¬ ((fi + v4) < 0) → (fi + v4) < 6 → ∀ v9 : Int, atP 67 ((6 * (rk + v3)) + (fi + v4)) es v9 → ¬ (v9 ≠ 0) → ¬ (sr = (-16)) → ∀ w18 : Int64, w18 = (Int64.ofNat 1) <<< ((zI ((6 * (rk + v3)) + (fi + v4))).toInt64 &&& 63) → ∀ w19 : Int64, w19 = al ||| w18 → aW O (d + 1) 51 kc ks Q (42, [some (.ref 130), some (.int (zI sr)), some (.int (zI fa)), some (.int (zI fr)), some (.int (zI sd)), some (.ref so), some (.long w19), none, some (.int (zI i)), some (.int (zI (rk + v3))), some (.int (zI (fi + v4))), some (.int (zI v9)), some (.int (zI (n + 1)))], [], es))
    (K12 : ¬ (fa ≤ n) → ¬ (be ≠ 0) → ∀ v3 : Int, v3 = (go i.toNat).toInt → ∀ v4 : Int, v4 = (go (i + 1).toNat).toInt → ¬ ((rk + v3) < 0) → ¬ (6 ≤ (rk + v3)) → ¬ ((fi + v4) < 0) → ¬ ((fi + v4) < 6) → aW O (d + 1) 51 kc ks Q (172, [some (.ref 130), some (.int (zI sr)), some (.int (zI fa)), some (.int (zI fr)), some (.int (zI sd)), some (.ref so), some (.long al), none, some (.int (zI i)), some (.int (zI (rk + v3))), some (.int (zI (fi + v4))), some (.int (zI be)), some (.int (zI n))], [], es)) :
    aW O (d + 1) 51 kc ks Q (42, [some (.ref 130), some (.int (zI sr)), some (.int (zI fa)), some (.int (zI fr)), some (.int (zI sd)), some (.ref so), some (.long al), none, some (.int (zI i)), some (.int (zI rk)), some (.int (zI fi)), some (.int (zI be)), some (.int (zI n))], [], es) := by
  refine x0 (r := (44, [some (.ref 130), some (.int (zI sr)), some (.int (zI fa)), some (.int (zI fr)), some (.int (zI sd)), some (.ref so), some (.long al), none, some (.int (zI i)), some (.int (zI rk)), some (.int (zI fi)), some (.int (zI be)), some (.int (zI n))], [.int (zI n)], es)) i_51_42 rfl ?_
  refine x0 (r := (45, [some (.ref 130), some (.int (zI sr)), some (.int (zI fa)), some (.int (zI fr)), some (.int (zI sd)), some (.ref so), some (.long al), none, some (.int (zI i)), some (.int (zI rk)), some (.int (zI fi)), some (.int (zI be)), some (.int (zI n))], [.int (zI fa), .int (zI n)], es)) i_51_44 rfl ?_
  by_cases c1 : fa ≤ n
  · refine x_cmpT i_51_45 (by unfold i32 iLO iHI; omega) (by unfold i32 iLO iHI; omega) rfl (by simp only [zC, cR]; omega) ?_
    exact K1 c1
  · refine x_cmpF i_51_45 (by unfold i32 iLO iHI; omega) (by unfold i32 iLO iHI; omega) rfl (by simp only [zC, cR]; omega) ?_
    refine x0 (r := (50, [some (.ref 130), some (.int (zI sr)), some (.int (zI fa)), some (.int (zI fr)), some (.int (zI sd)), some (.ref so), some (.long al), none, some (.int (zI i)), some (.int (zI rk)), some (.int (zI fi)), some (.int (zI be)), some (.int (zI n))], [.int (zI be)], es)) i_51_48 rfl ?_
    by_cases c2 : be ≠ 0
    · refine x_ifT i_51_50 (by unfold i32 iLO iHI; omega) rfl (by simp only [zC, cR]; omega) ?_
      exact K2 c1 c2
    · refine x_ifF i_51_50 (by unfold i32 iLO iHI; omega) rfl (by simp only [zC, cR]; omega) ?_
      refine x0 (r := (55, [some (.ref 130), some (.int (zI sr)), some (.int (zI fa)), some (.int (zI fr)), some (.int (zI sd)), some (.ref so), some (.long al), none, some (.int (zI i)), some (.int (zI rk)), some (.int (zI fi)), some (.int (zI be)), some (.int (zI n))], [.int (zI rk)], es)) i_51_53 rfl ?_
      refine x0 (r := (57, [some (.ref 130), some (.int (zI sr)), some (.int (zI fa)), some (.int (zI fr)), some (.int (zI sd)), some (.ref so), some (.long al), none, some (.int (zI i)), some (.int (zI rk)), some (.int (zI fi)), some (.int (zI be)), some (.int (zI n))], [.ref so, .int (zI rk)], es)) i_51_55 rfl ?_
      refine x0 (r := (59, [some (.ref 130), some (.int (zI sr)), some (.int (zI fa)), some (.int (zI fr)), some (.int (zI sd)), some (.ref so), some (.long al), none, some (.int (zI i)), some (.int (zI rk)), some (.int (zI fi)), some (.int (zI be)), some (.int (zI n))], [.int (zI i), .ref so, .int (zI rk)], es)) i_51_57 rfl ?_
      refine x_oal i_51_59 ho64 ho (by unfold i32 iLO iHI; omega) (by omega) (by omega) ?_
      obtain ⟨v3, e_v3⟩ : ∃ z : Int, z = (go i.toNat).toInt := ⟨_, rfl⟩
      rw [← e_v3]
      have r_v3 : iLO ≤ v3 ∧ v3 ≤ iHI := by rw [e_v3]; exact i32_rng _
      unfold iLO iHI at r_v3
      have g_v3 := hg i.toNat
      rw [← e_v3] at g_v3
      refine x_iadd i_51_60 ?_
      refine x0 (r := (63, [some (.ref 130), some (.int (zI sr)), some (.int (zI fa)), some (.int (zI fr)), some (.int (zI sd)), some (.ref so), some (.long al), none, some (.int (zI i)), some (.int (zI (rk + v3))), some (.int (zI fi)), some (.int (zI be)), some (.int (zI n))], [], es)) i_51_61 rfl ?_
      refine x0 (r := (65, [some (.ref 130), some (.int (zI sr)), some (.int (zI fa)), some (.int (zI fr)), some (.int (zI sd)), some (.ref so), some (.long al), none, some (.int (zI i)), some (.int (zI (rk + v3))), some (.int (zI fi)), some (.int (zI be)), some (.int (zI n))], [.int (zI fi)], es)) i_51_63 rfl ?_
      refine x0 (r := (67, [some (.ref 130), some (.int (zI sr)), some (.int (zI fa)), some (.int (zI fr)), some (.int (zI sd)), some (.ref so), some (.long al), none, some (.int (zI i)), some (.int (zI (rk + v3))), some (.int (zI fi)), some (.int (zI be)), some (.int (zI n))], [.ref so, .int (zI fi)], es)) i_51_65 rfl ?_
      refine x0 (r := (69, [some (.ref 130), some (.int (zI sr)), some (.int (zI fa)), some (.int (zI fr)), some (.int (zI sd)), some (.ref so), some (.long al), none, some (.int (zI i)), some (.int (zI (rk + v3))), some (.int (zI fi)), some (.int (zI be)), some (.int (zI n))], [.int (zI i), .ref so, .int (zI fi)], es)) i_51_67 rfl ?_
      refine x0 (r := (70, [some (.ref 130), some (.int (zI sr)), some (.int (zI fa)), some (.int (zI fr)), some (.int (zI sd)), some (.ref so), some (.long al), none, some (.int (zI i)), some (.int (zI (rk + v3))), some (.int (zI fi)), some (.int (zI be)), some (.int (zI n))], [.int (zI 1), .int (zI i), .ref so, .int (zI fi)], es)) i_51_69 (by rfl) ?_
      refine x_iadd i_51_70 ?_
      refine x_oal i_51_71 ho64 ho (by unfold i32 iLO iHI; omega) (by omega) (by omega) ?_
      obtain ⟨v4, e_v4⟩ : ∃ z : Int, z = (go (i + 1).toNat).toInt := ⟨_, rfl⟩
      rw [← e_v4]
      have r_v4 : iLO ≤ v4 ∧ v4 ≤ iHI := by rw [e_v4]; exact i32_rng _
      unfold iLO iHI at r_v4
      have g_v4 := hg (i + 1).toNat
      rw [← e_v4] at g_v4
      refine x_iadd i_51_72 ?_
      refine x0 (r := (75, [some (.ref 130), some (.int (zI sr)), some (.int (zI fa)), some (.int (zI fr)), some (.int (zI sd)), some (.ref so), some (.long al), none, some (.int (zI i)), some (.int (zI (rk + v3))), some (.int (zI (fi + v4))), some (.int (zI be)), some (.int (zI n))], [], es)) i_51_73 rfl ?_
      refine x0 (r := (77, [some (.ref 130), some (.int (zI sr)), some (.int (zI fa)), some (.int (zI fr)), some (.int (zI sd)), some (.ref so), some (.long al), none, some (.int (zI i)), some (.int (zI (rk + v3))), some (.int (zI (fi + v4))), some (.int (zI be)), some (.int (zI n))], [.int (zI (rk + v3))], es)) i_51_75 rfl ?_
      by_cases c5 : (rk + v3) < 0
      · refine x_ifT i_51_77 (by unfold i32 iLO iHI; omega) rfl (by simp only [zC, cR]; omega) ?_
        exact K3 c1 c2 v3 e_v3 v4 e_v4 c5
      · refine x_ifF i_51_77 (by unfold i32 iLO iHI; omega) rfl (by simp only [zC, cR]; omega) ?_
        refine x0 (r := (82, [some (.ref 130), some (.int (zI sr)), some (.int (zI fa)), some (.int (zI fr)), some (.int (zI sd)), some (.ref so), some (.long al), none, some (.int (zI i)), some (.int (zI (rk + v3))), some (.int (zI (fi + v4))), some (.int (zI be)), some (.int (zI n))], [.int (zI (rk + v3))], es)) i_51_80 rfl ?_
        refine x0 (r := (84, [some (.ref 130), some (.int (zI sr)), some (.int (zI fa)), some (.int (zI fr)), some (.int (zI sd)), some (.ref so), some (.long al), none, some (.int (zI i)), some (.int (zI (rk + v3))), some (.int (zI (fi + v4))), some (.int (zI be)), some (.int (zI n))], [.int (zI 6), .int (zI (rk + v3))], es)) i_51_82 (by rfl) ?_
        by_cases c6 : 6 ≤ (rk + v3)
        · refine x_cmpT i_51_84 (by unfold i32 iLO iHI; omega) (by unfold i32 iLO iHI; omega) rfl (by simp only [zC, cR]; omega) ?_
          exact K4 c1 c2 v3 e_v3 v4 e_v4 c5 c6
        · refine x_cmpF i_51_84 (by unfold i32 iLO iHI; omega) (by unfold i32 iLO iHI; omega) rfl (by simp only [zC, cR]; omega) ?_
          refine x0 (r := (89, [some (.ref 130), some (.int (zI sr)), some (.int (zI fa)), some (.int (zI fr)), some (.int (zI sd)), some (.ref so), some (.long al), none, some (.int (zI i)), some (.int (zI (rk + v3))), some (.int (zI (fi + v4))), some (.int (zI be)), some (.int (zI n))], [.int (zI (fi + v4))], es)) i_51_87 rfl ?_
          by_cases c7 : (fi + v4) < 0
          · refine x_ifT i_51_89 (by unfold i32 iLO iHI; omega) rfl (by simp only [zC, cR]; omega) ?_
            exact K5 c1 c2 v3 e_v3 v4 e_v4 c5 c6 c7
          · refine x_ifF i_51_89 (by unfold i32 iLO iHI; omega) rfl (by simp only [zC, cR]; omega) ?_
            refine x0 (r := (94, [some (.ref 130), some (.int (zI sr)), some (.int (zI fa)), some (.int (zI fr)), some (.int (zI sd)), some (.ref so), some (.long al), none, some (.int (zI i)), some (.int (zI (rk + v3))), some (.int (zI (fi + v4))), some (.int (zI be)), some (.int (zI n))], [.int (zI (fi + v4))], es)) i_51_92 rfl ?_
            refine x0 (r := (96, [some (.ref 130), some (.int (zI sr)), some (.int (zI fa)), some (.int (zI fr)), some (.int (zI sd)), some (.ref so), some (.long al), none, some (.int (zI i)), some (.int (zI (rk + v3))), some (.int (zI (fi + v4))), some (.int (zI be)), some (.int (zI n))], [.int (zI 6), .int (zI (fi + v4))], es)) i_51_94 (by rfl) ?_
            by_cases c8 : (fi + v4) < 6
            · refine x_cmpT i_51_96 (by unfold i32 iLO iHI; omega) (by unfold i32 iLO iHI; omega) rfl (by simp only [zC, cR]; omega) ?_
              refine x0 (r := (103, [some (.ref 130), some (.int (zI sr)), some (.int (zI fa)), some (.int (zI fr)), some (.int (zI sd)), some (.ref so), some (.long al), none, some (.int (zI i)), some (.int (zI (rk + v3))), some (.int (zI (fi + v4))), some (.int (zI be)), some (.int (zI n))], [.ref 130], es)) i_51_102 rfl ?_
              refine x_getr (p := 66) (k := 131) i_51_103 hs_es rfl rfl ?_
              show aW _ _ _ _ _ _ (106, [some (.ref 130), some (.int (zI sr)), some (.int (zI fa)), some (.int (zI fr)), some (.int (zI sd)), some (.ref so), some (.long al), none, some (.int (zI i)), some (.int (zI (rk + v3))), some (.int (zI (fi + v4))), some (.int (zI be)), some (.int (zI n))], [.ref 131], es)
              refine x0 (r := (108, [some (.ref 130), some (.int (zI sr)), some (.int (zI fa)), some (.int (zI fr)), some (.int (zI sd)), some (.ref so), some (.long al), none, some (.int (zI i)), some (.int (zI (rk + v3))), some (.int (zI (fi + v4))), some (.int (zI be)), some (.int (zI n))], [.int (zI 6), .ref 131], es)) i_51_106 (by rfl) ?_
              refine x0 (r := (110, [some (.ref 130), some (.int (zI sr)), some (.int (zI fa)), some (.int (zI fr)), some (.int (zI sd)), some (.ref so), some (.long al), none, some (.int (zI i)), some (.int (zI (rk + v3))), some (.int (zI (fi + v4))), some (.int (zI be)), some (.int (zI n))], [.int (zI (rk + v3)), .int (zI 6), .ref 131], es)) i_51_108 rfl ?_
              refine x_imul i_51_110 ?_
              refine x0 (r := (113, [some (.ref 130), some (.int (zI sr)), some (.int (zI fa)), some (.int (zI fr)), some (.int (zI sd)), some (.ref so), some (.long al), none, some (.int (zI i)), some (.int (zI (rk + v3))), some (.int (zI (fi + v4))), some (.int (zI be)), some (.int (zI n))], [.int (zI (fi + v4)), .int (zI (6 * (rk + v3))), .ref 131], es)) i_51_111 rfl ?_
              refine x_iadd i_51_113 ?_
              refine x_call (vs := [.ref 131, .int (zI ((6 * (rk + v3)) + (fi + v4)))]) (rs := []) i_51_114 rfl (fun _ => rfl) rfl rfl rfl rfl rfl rfl ?_
              show aW _ _ _ _ _ _ (0, [some (.ref 131), some (.int (zI ((6 * (rk + v3)) + (fi + v4))))], [], es)
              refine at_sp (p := 67) rfl hs_es (by omega) (by omega) (by decide) (fun v9 p_v9 => ?_)
              have r_v9 := atP_is p_v9
              show aW _ _ _ _ _ _ (117, [some (.ref 130), some (.int (zI sr)), some (.int (zI fa)), some (.int (zI fr)), some (.int (zI sd)), some (.ref so), some (.long al), none, some (.int (zI i)), some (.int (zI (rk + v3))), some (.int (zI (fi + v4))), some (.int (zI be)), some (.int (zI n))], [.int (zI v9)], es)
              refine x0 (r := (119, [some (.ref 130), some (.int (zI sr)), some (.int (zI fa)), some (.int (zI fr)), some (.int (zI sd)), some (.ref so), some (.long al), none, some (.int (zI i)), some (.int (zI (rk + v3))), some (.int (zI (fi + v4))), some (.int (zI v9)), some (.int (zI n))], [], es)) i_51_117 rfl ?_
              refine x0 (r := (121, [some (.ref 130), some (.int (zI sr)), some (.int (zI fa)), some (.int (zI fr)), some (.int (zI sd)), some (.ref so), some (.long al), none, some (.int (zI i)), some (.int (zI (rk + v3))), some (.int (zI (fi + v4))), some (.int (zI v9)), some (.int (zI n))], [.int (zI v9)], es)) i_51_119 rfl ?_
              by_cases c10 : v9 ≠ 0
              · refine x_ifT i_51_121 (by unfold i32 iLO iHI; omega) rfl (by simp only [zC, cR]; omega) ?_
                refine x0 (r := (134, [some (.ref 130), some (.int (zI sr)), some (.int (zI fa)), some (.int (zI fr)), some (.int (zI sd)), some (.ref so), some (.long al), none, some (.int (zI i)), some (.int (zI (rk + v3))), some (.int (zI (fi + v4))), some (.int (zI v9)), some (.int (zI n))], [.int (zI sr)], es)) i_51_133 rfl ?_
                refine x0 (r := (136, [some (.ref 130), some (.int (zI sr)), some (.int (zI fa)), some (.int (zI fr)), some (.int (zI sd)), some (.ref so), some (.long al), none, some (.int (zI i)), some (.int (zI (rk + v3))), some (.int (zI (fi + v4))), some (.int (zI v9)), some (.int (zI n))], [.int (zI (-14)), .int (zI sr)], es)) i_51_134 (by rfl) ?_
                by_cases c11 : sr = (-14)
                · refine x_cmpT i_51_136 (by unfold i32 iLO iHI; omega) (by unfold i32 iLO iHI; omega) rfl (by simp only [zC, cR]; omega) ?_
                  refine x_iinc (x := n) i_51_166 rfl (by show 12 < 13; decide) ?_
                  show aW _ _ _ _ _ _ (169, [some (.ref 130), some (.int (zI sr)), some (.int (zI fa)), some (.int (zI fr)), some (.int (zI sd)), some (.ref so), some (.long al), none, some (.int (zI i)), some (.int (zI (rk + v3))), some (.int (zI (fi + v4))), some (.int (zI v9)), some (.int (zI (n + 1)))], [], es)
                  refine x0 (r := (42, [some (.ref 130), some (.int (zI sr)), some (.int (zI fa)), some (.int (zI fr)), some (.int (zI sd)), some (.ref so), some (.long al), none, some (.int (zI i)), some (.int (zI (rk + v3))), some (.int (zI (fi + v4))), some (.int (zI v9)), some (.int (zI (n + 1)))], [], es)) i_51_169 rfl ?_
                  exact K6 c1 c2 v3 e_v3 v4 e_v4 c5 c6 c7 c8 v9 p_v9 c10 c11
                · refine x_cmpF i_51_136 (by unfold i32 iLO iHI; omega) (by unfold i32 iLO iHI; omega) rfl (by simp only [zC, cR]; omega) ?_
                  refine x0 (r := (141, [some (.ref 130), some (.int (zI sr)), some (.int (zI fa)), some (.int (zI fr)), some (.int (zI sd)), some (.ref so), some (.long al), none, some (.int (zI i)), some (.int (zI (rk + v3))), some (.int (zI (fi + v4))), some (.int (zI v9)), some (.int (zI n))], [.int (zI v9)], es)) i_51_139 rfl ?_
                  refine x0 (r := (142, [some (.ref 130), some (.int (zI sr)), some (.int (zI fa)), some (.int (zI fr)), some (.int (zI sd)), some (.ref so), some (.long al), none, some (.int (zI i)), some (.int (zI (rk + v3))), some (.int (zI (fi + v4))), some (.int (zI v9)), some (.int (zI n))], [.int (zI 1), .int (zI v9)], es)) i_51_141 (by rfl) ?_
                  refine x0 (r := (144, [some (.ref 130), some (.int (zI sr)), some (.int (zI fa)), some (.int (zI fr)), some (.int (zI sd)), some (.ref so), some (.long al), none, some (.int (zI i)), some (.int (zI (rk + v3))), some (.int (zI (fi + v4))), some (.int (zI v9)), some (.int (zI n))], [.int (zI sd), .int (zI 1), .int (zI v9)], es)) i_51_142 rfl ?_
                  refine x_isub i_51_144 ?_
                  refine x_call (vs := [.int (zI v9), .int (zI (1 - sd))]) (rs := []) i_51_145 rfl (fun _ => rfl) rfl rfl rfl rfl rfl rfl ?_
                  show aW _ _ _ _ _ _ (0, [some (.int (zI v9)), some (.int (zI (1 - sd)))], [], es)
                  refine x0 (r := (1, [some (.int (zI v9)), some (.int (zI (1 - sd)))], [.int (zI v9)], es)) i_48_0 rfl ?_
                  by_cases c12 : v9 ≤ 0
                  · refine x_ifT i_48_1 (by unfold i32 iLO iHI; omega) rfl (by simp only [zC, cR]; omega) ?_
                    refine x0 (r := (18, [some (.int (zI v9)), some (.int (zI (1 - sd)))], [.int (zI 0)], es)) i_48_17 (by rfl) ?_
                    refine x_ret (v := some (.int (zI 0))) i_48_18 rfl (fun _ => rfl) rfl rfl (pFin_b (by omega)) ?_
                    show aW _ _ _ _ _ _ (148, [some (.ref 130), some (.int (zI sr)), some (.int (zI fa)), some (.int (zI fr)), some (.int (zI sd)), some (.ref so), some (.long al), none, some (.int (zI i)), some (.int (zI (rk + v3))), some (.int (zI (fi + v4))), some (.int (zI v9)), some (.int (zI n))], [.int (zI 0)], es)
                    refine x_ifT i_51_148 (by unfold i32 iLO iHI; omega) rfl (by simp only [zC, cR]; omega) ?_
                    refine x_iinc (x := n) i_51_166 rfl (by show 12 < 13; decide) ?_
                    show aW _ _ _ _ _ _ (169, [some (.ref 130), some (.int (zI sr)), some (.int (zI fa)), some (.int (zI fr)), some (.int (zI sd)), some (.ref so), some (.long al), none, some (.int (zI i)), some (.int (zI (rk + v3))), some (.int (zI (fi + v4))), some (.int (zI v9)), some (.int (zI (n + 1)))], [], es)
                    refine x0 (r := (42, [some (.ref 130), some (.int (zI sr)), some (.int (zI fa)), some (.int (zI fr)), some (.int (zI sd)), some (.ref so), some (.long al), none, some (.int (zI i)), some (.int (zI (rk + v3))), some (.int (zI (fi + v4))), some (.int (zI v9)), some (.int (zI (n + 1)))], [], es)) i_51_169 rfl ?_
                    exact K7 c1 c2 v3 e_v3 v4 e_v4 c5 c6 c7 c8 v9 p_v9 c10 c11 c12
                  · refine x_ifF i_48_1 (by unfold i32 iLO iHI; omega) rfl (by simp only [zC, cR]; omega) ?_
                    refine x0 (r := (5, [some (.int (zI v9)), some (.int (zI (1 - sd)))], [.int (zI v9)], es)) i_48_4 rfl ?_
                    refine x0 (r := (6, [some (.int (zI v9)), some (.int (zI (1 - sd)))], [.int (zI 1), .int (zI v9)], es)) i_48_5 (by rfl) ?_
                    refine x_isub i_48_6 ?_
                    refine x0 (r := (8, [some (.int (zI v9)), some (.int (zI (1 - sd)))], [.int (zI 1), .int (zI (v9 - 1))], es)) i_48_7 (by rfl) ?_
                    refine x_op i_48_8 (w := (zI (v9 - 1) &&& zI 1)) rfl rfl ?_
                    obtain ⟨v13, e_v13⟩ : ∃ z : Int, z = (zI (v9 - 1) &&& zI 1).toInt := ⟨_, rfl⟩
                    rw [← e_v13]
                    have r_v13 : iLO ≤ v13 ∧ v13 ≤ iHI := by rw [e_v13]; exact i32_rng _
                    unfold iLO iHI at r_v13
                    refine x0 (r := (10, [some (.int (zI v9)), some (.int (zI (1 - sd)))], [.int (zI (1 - sd)), .int (zI v13)], es)) i_48_9 rfl ?_
                    by_cases c14 : v13 ≠ (1 - sd)
                    · refine x_cmpT i_48_10 (by unfold i32 iLO iHI; omega) (by unfold i32 iLO iHI; omega) rfl (by simp only [zC, cR]; omega) ?_
                      refine x0 (r := (18, [some (.int (zI v9)), some (.int (zI (1 - sd)))], [.int (zI 0)], es)) i_48_17 (by rfl) ?_
                      refine x_ret (v := some (.int (zI 0))) i_48_18 rfl (fun _ => rfl) rfl rfl (pFin_b (by omega)) ?_
                      show aW _ _ _ _ _ _ (148, [some (.ref 130), some (.int (zI sr)), some (.int (zI fa)), some (.int (zI fr)), some (.int (zI sd)), some (.ref so), some (.long al), none, some (.int (zI i)), some (.int (zI (rk + v3))), some (.int (zI (fi + v4))), some (.int (zI v9)), some (.int (zI n))], [.int (zI 0)], es)
                      refine x_ifT i_51_148 (by unfold i32 iLO iHI; omega) rfl (by simp only [zC, cR]; omega) ?_
                      refine x_iinc (x := n) i_51_166 rfl (by show 12 < 13; decide) ?_
                      show aW _ _ _ _ _ _ (169, [some (.ref 130), some (.int (zI sr)), some (.int (zI fa)), some (.int (zI fr)), some (.int (zI sd)), some (.ref so), some (.long al), none, some (.int (zI i)), some (.int (zI (rk + v3))), some (.int (zI (fi + v4))), some (.int (zI v9)), some (.int (zI (n + 1)))], [], es)
                      refine x0 (r := (42, [some (.ref 130), some (.int (zI sr)), some (.int (zI fa)), some (.int (zI fr)), some (.int (zI sd)), some (.ref so), some (.long al), none, some (.int (zI i)), some (.int (zI (rk + v3))), some (.int (zI (fi + v4))), some (.int (zI v9)), some (.int (zI (n + 1)))], [], es)) i_51_169 rfl ?_
                      exact K8 c1 c2 v3 e_v3 v4 e_v4 c5 c6 c7 c8 v9 p_v9 c10 c11 c12 v13 e_v13 c14
                    · refine x_cmpF i_48_10 (by unfold i32 iLO iHI; omega) (by unfold i32 iLO iHI; omega) rfl (by simp only [zC, cR]; omega) ?_
                      refine x0 (r := (14, [some (.int (zI v9)), some (.int (zI (1 - sd)))], [.int (zI 1)], es)) i_48_13 (by rfl) ?_
                      refine x0 (r := (18, [some (.int (zI v9)), some (.int (zI (1 - sd)))], [.int (zI 1)], es)) i_48_14 rfl ?_
                      refine x_ret (v := some (.int (zI 1))) i_48_18 rfl (fun _ => rfl) rfl rfl (pFin_b (by omega)) ?_
                      show aW _ _ _ _ _ _ (148, [some (.ref 130), some (.int (zI sr)), some (.int (zI fa)), some (.int (zI fr)), some (.int (zI sd)), some (.ref so), some (.long al), none, some (.int (zI i)), some (.int (zI (rk + v3))), some (.int (zI (fi + v4))), some (.int (zI v9)), some (.int (zI n))], [.int (zI 1)], es)
                      refine x_ifF i_51_148 (by unfold i32 iLO iHI; omega) rfl (by simp only [zC, cR]; omega) ?_
                      refine x0 (r := (153, [some (.ref 130), some (.int (zI sr)), some (.int (zI fa)), some (.int (zI fr)), some (.int (zI sd)), some (.ref so), some (.long al), none, some (.int (zI i)), some (.int (zI (rk + v3))), some (.int (zI (fi + v4))), some (.int (zI v9)), some (.int (zI n))], [.long al], es)) i_51_151 rfl ?_
                      refine x0 (r := (154, [some (.ref 130), some (.int (zI sr)), some (.int (zI fa)), some (.int (zI fr)), some (.int (zI sd)), some (.ref so), some (.long al), none, some (.int (zI i)), some (.int (zI (rk + v3))), some (.int (zI (fi + v4))), some (.int (zI v9)), some (.int (zI n))], [.long (Int64.ofNat 1), .long al], es)) i_51_153 rfl ?_
                      refine x0 (r := (156, [some (.ref 130), some (.int (zI sr)), some (.int (zI fa)), some (.int (zI fr)), some (.int (zI sd)), some (.ref so), some (.long al), none, some (.int (zI i)), some (.int (zI (rk + v3))), some (.int (zI (fi + v4))), some (.int (zI v9)), some (.int (zI n))], [.int (zI 6), .long (Int64.ofNat 1), .long al], es)) i_51_154 (by rfl) ?_
                      refine x0 (r := (158, [some (.ref 130), some (.int (zI sr)), some (.int (zI fa)), some (.int (zI fr)), some (.int (zI sd)), some (.ref so), some (.long al), none, some (.int (zI i)), some (.int (zI (rk + v3))), some (.int (zI (fi + v4))), some (.int (zI v9)), some (.int (zI n))], [.int (zI (rk + v3)), .int (zI 6), .long (Int64.ofNat 1), .long al], es)) i_51_156 rfl ?_
                      refine x_imul i_51_158 ?_
                      refine x0 (r := (161, [some (.ref 130), some (.int (zI sr)), some (.int (zI fa)), some (.int (zI fr)), some (.int (zI sd)), some (.ref so), some (.long al), none, some (.int (zI i)), some (.int (zI (rk + v3))), some (.int (zI (fi + v4))), some (.int (zI v9)), some (.int (zI n))], [.int (zI (fi + v4)), .int (zI (6 * (rk + v3))), .long (Int64.ofNat 1), .long al], es)) i_51_159 rfl ?_
                      refine x_iadd i_51_161 ?_
                      refine x0 (r := (163, [some (.ref 130), some (.int (zI sr)), some (.int (zI fa)), some (.int (zI fr)), some (.int (zI sd)), some (.ref so), some (.long al), none, some (.int (zI i)), some (.int (zI (rk + v3))), some (.int (zI (fi + v4))), some (.int (zI v9)), some (.int (zI n))], [.long ((Int64.ofNat 1) <<< ((zI ((6 * (rk + v3)) + (fi + v4))).toInt64 &&& 63)), .long al], es)) i_51_162 rfl ?_
                      obtain ⟨w15, e_w15⟩ : ∃ z : Int64, z = (Int64.ofNat 1) <<< ((zI ((6 * (rk + v3)) + (fi + v4))).toInt64 &&& 63) := ⟨_, rfl⟩
                      rw [← e_w15]
                      refine x0 (r := (164, [some (.ref 130), some (.int (zI sr)), some (.int (zI fa)), some (.int (zI fr)), some (.int (zI sd)), some (.ref so), some (.long al), none, some (.int (zI i)), some (.int (zI (rk + v3))), some (.int (zI (fi + v4))), some (.int (zI v9)), some (.int (zI n))], [.long (al ||| w15)], es)) i_51_163 rfl ?_
                      obtain ⟨w16, e_w16⟩ : ∃ z : Int64, z = al ||| w15 := ⟨_, rfl⟩
                      rw [← e_w16]
                      refine x0 (r := (166, [some (.ref 130), some (.int (zI sr)), some (.int (zI fa)), some (.int (zI fr)), some (.int (zI sd)), some (.ref so), some (.long w16), none, some (.int (zI i)), some (.int (zI (rk + v3))), some (.int (zI (fi + v4))), some (.int (zI v9)), some (.int (zI n))], [], es)) i_51_164 rfl ?_
                      refine x_iinc (x := n) i_51_166 rfl (by show 12 < 13; decide) ?_
                      show aW _ _ _ _ _ _ (169, [some (.ref 130), some (.int (zI sr)), some (.int (zI fa)), some (.int (zI fr)), some (.int (zI sd)), some (.ref so), some (.long w16), none, some (.int (zI i)), some (.int (zI (rk + v3))), some (.int (zI (fi + v4))), some (.int (zI v9)), some (.int (zI (n + 1)))], [], es)
                      refine x0 (r := (42, [some (.ref 130), some (.int (zI sr)), some (.int (zI fa)), some (.int (zI fr)), some (.int (zI sd)), some (.ref so), some (.long w16), none, some (.int (zI i)), some (.int (zI (rk + v3))), some (.int (zI (fi + v4))), some (.int (zI v9)), some (.int (zI (n + 1)))], [], es)) i_51_169 rfl ?_
                      exact K9 c1 c2 v3 e_v3 v4 e_v4 c5 c6 c7 c8 v9 p_v9 c10 c11 c12 v13 e_v13 c14 w15 e_w15 w16 e_w16
              · refine x_ifF i_51_121 (by unfold i32 iLO iHI; omega) rfl (by simp only [zC, cR]; omega) ?_
                refine x0 (r := (125, [some (.ref 130), some (.int (zI sr)), some (.int (zI fa)), some (.int (zI fr)), some (.int (zI sd)), some (.ref so), some (.long al), none, some (.int (zI i)), some (.int (zI (rk + v3))), some (.int (zI (fi + v4))), some (.int (zI v9)), some (.int (zI n))], [.int (zI sr)], es)) i_51_124 rfl ?_
                refine x0 (r := (127, [some (.ref 130), some (.int (zI sr)), some (.int (zI fa)), some (.int (zI fr)), some (.int (zI sd)), some (.ref so), some (.long al), none, some (.int (zI i)), some (.int (zI (rk + v3))), some (.int (zI (fi + v4))), some (.int (zI v9)), some (.int (zI n))], [.int (zI (-16)), .int (zI sr)], es)) i_51_125 (by rfl) ?_
                by_cases c17 : sr = (-16)
                · refine x_cmpT i_51_127 (by unfold i32 iLO iHI; omega) (by unfold i32 iLO iHI; omega) rfl (by simp only [zC, cR]; omega) ?_
                  refine x_iinc (x := n) i_51_166 rfl (by show 12 < 13; decide) ?_
                  show aW _ _ _ _ _ _ (169, [some (.ref 130), some (.int (zI sr)), some (.int (zI fa)), some (.int (zI fr)), some (.int (zI sd)), some (.ref so), some (.long al), none, some (.int (zI i)), some (.int (zI (rk + v3))), some (.int (zI (fi + v4))), some (.int (zI v9)), some (.int (zI (n + 1)))], [], es)
                  refine x0 (r := (42, [some (.ref 130), some (.int (zI sr)), some (.int (zI fa)), some (.int (zI fr)), some (.int (zI sd)), some (.ref so), some (.long al), none, some (.int (zI i)), some (.int (zI (rk + v3))), some (.int (zI (fi + v4))), some (.int (zI v9)), some (.int (zI (n + 1)))], [], es)) i_51_169 rfl ?_
                  exact K10 c1 c2 v3 e_v3 v4 e_v4 c5 c6 c7 c8 v9 p_v9 c10 c17
                · refine x_cmpF i_51_127 (by unfold i32 iLO iHI; omega) (by unfold i32 iLO iHI; omega) rfl (by simp only [zC, cR]; omega) ?_
                  refine x0 (r := (151, [some (.ref 130), some (.int (zI sr)), some (.int (zI fa)), some (.int (zI fr)), some (.int (zI sd)), some (.ref so), some (.long al), none, some (.int (zI i)), some (.int (zI (rk + v3))), some (.int (zI (fi + v4))), some (.int (zI v9)), some (.int (zI n))], [], es)) i_51_130 rfl ?_
                  refine x0 (r := (153, [some (.ref 130), some (.int (zI sr)), some (.int (zI fa)), some (.int (zI fr)), some (.int (zI sd)), some (.ref so), some (.long al), none, some (.int (zI i)), some (.int (zI (rk + v3))), some (.int (zI (fi + v4))), some (.int (zI v9)), some (.int (zI n))], [.long al], es)) i_51_151 rfl ?_
                  refine x0 (r := (154, [some (.ref 130), some (.int (zI sr)), some (.int (zI fa)), some (.int (zI fr)), some (.int (zI sd)), some (.ref so), some (.long al), none, some (.int (zI i)), some (.int (zI (rk + v3))), some (.int (zI (fi + v4))), some (.int (zI v9)), some (.int (zI n))], [.long (Int64.ofNat 1), .long al], es)) i_51_153 rfl ?_
                  refine x0 (r := (156, [some (.ref 130), some (.int (zI sr)), some (.int (zI fa)), some (.int (zI fr)), some (.int (zI sd)), some (.ref so), some (.long al), none, some (.int (zI i)), some (.int (zI (rk + v3))), some (.int (zI (fi + v4))), some (.int (zI v9)), some (.int (zI n))], [.int (zI 6), .long (Int64.ofNat 1), .long al], es)) i_51_154 (by rfl) ?_
                  refine x0 (r := (158, [some (.ref 130), some (.int (zI sr)), some (.int (zI fa)), some (.int (zI fr)), some (.int (zI sd)), some (.ref so), some (.long al), none, some (.int (zI i)), some (.int (zI (rk + v3))), some (.int (zI (fi + v4))), some (.int (zI v9)), some (.int (zI n))], [.int (zI (rk + v3)), .int (zI 6), .long (Int64.ofNat 1), .long al], es)) i_51_156 rfl ?_
                  refine x_imul i_51_158 ?_
                  refine x0 (r := (161, [some (.ref 130), some (.int (zI sr)), some (.int (zI fa)), some (.int (zI fr)), some (.int (zI sd)), some (.ref so), some (.long al), none, some (.int (zI i)), some (.int (zI (rk + v3))), some (.int (zI (fi + v4))), some (.int (zI v9)), some (.int (zI n))], [.int (zI (fi + v4)), .int (zI (6 * (rk + v3))), .long (Int64.ofNat 1), .long al], es)) i_51_159 rfl ?_
                  refine x_iadd i_51_161 ?_
                  refine x0 (r := (163, [some (.ref 130), some (.int (zI sr)), some (.int (zI fa)), some (.int (zI fr)), some (.int (zI sd)), some (.ref so), some (.long al), none, some (.int (zI i)), some (.int (zI (rk + v3))), some (.int (zI (fi + v4))), some (.int (zI v9)), some (.int (zI n))], [.long ((Int64.ofNat 1) <<< ((zI ((6 * (rk + v3)) + (fi + v4))).toInt64 &&& 63)), .long al], es)) i_51_162 rfl ?_
                  obtain ⟨w18, e_w18⟩ : ∃ z : Int64, z = (Int64.ofNat 1) <<< ((zI ((6 * (rk + v3)) + (fi + v4))).toInt64 &&& 63) := ⟨_, rfl⟩
                  rw [← e_w18]
                  refine x0 (r := (164, [some (.ref 130), some (.int (zI sr)), some (.int (zI fa)), some (.int (zI fr)), some (.int (zI sd)), some (.ref so), some (.long al), none, some (.int (zI i)), some (.int (zI (rk + v3))), some (.int (zI (fi + v4))), some (.int (zI v9)), some (.int (zI n))], [.long (al ||| w18)], es)) i_51_163 rfl ?_
                  obtain ⟨w19, e_w19⟩ : ∃ z : Int64, z = al ||| w18 := ⟨_, rfl⟩
                  rw [← e_w19]
                  refine x0 (r := (166, [some (.ref 130), some (.int (zI sr)), some (.int (zI fa)), some (.int (zI fr)), some (.int (zI sd)), some (.ref so), some (.long w19), none, some (.int (zI i)), some (.int (zI (rk + v3))), some (.int (zI (fi + v4))), some (.int (zI v9)), some (.int (zI n))], [], es)) i_51_164 rfl ?_
                  refine x_iinc (x := n) i_51_166 rfl (by show 12 < 13; decide) ?_
                  show aW _ _ _ _ _ _ (169, [some (.ref 130), some (.int (zI sr)), some (.int (zI fa)), some (.int (zI fr)), some (.int (zI sd)), some (.ref so), some (.long w19), none, some (.int (zI i)), some (.int (zI (rk + v3))), some (.int (zI (fi + v4))), some (.int (zI v9)), some (.int (zI (n + 1)))], [], es)
                  refine x0 (r := (42, [some (.ref 130), some (.int (zI sr)), some (.int (zI fa)), some (.int (zI fr)), some (.int (zI sd)), some (.ref so), some (.long w19), none, some (.int (zI i)), some (.int (zI (rk + v3))), some (.int (zI (fi + v4))), some (.int (zI v9)), some (.int (zI (n + 1)))], [], es)) i_51_169 rfl ?_
                  exact K11 c1 c2 v3 e_v3 v4 e_v4 c5 c6 c7 c8 v9 p_v9 c10 c17 w18 e_w18 w19 e_w19
            · refine x_cmpF i_51_96 (by unfold i32 iLO iHI; omega) (by unfold i32 iLO iHI; omega) rfl (by simp only [zC, cR]; omega) ?_
              refine x0 (r := (172, [some (.ref 130), some (.int (zI sr)), some (.int (zI fa)), some (.int (zI fr)), some (.int (zI sd)), some (.ref so), some (.long al), none, some (.int (zI i)), some (.int (zI (rk + v3))), some (.int (zI (fi + v4))), some (.int (zI be)), some (.int (zI n))], [], es)) i_51_99 rfl ?_
              exact K12 c1 c2 v3 e_v3 v4 e_v4 c5 c6 c7 c8
theorem s_rbA0 {O : pOut} {d kc ks : Nat} {Q : pRes → Prop} {es : PH} {sr fa fr sd : Int} (hs_es : sh es) (h1 : -16 ≤ sr ∧ sr ≤ -12) (h2 : 0 ≤ fa ∧ fa ≤ 5) (h3 : 0 ≤ fr ∧ fr ≤ 35) (h4 : 0 ≤ sd ∧ sd ≤ 1) (hT_es : hOK tT es)
    (K1 : sr = -15 → aW O (d + 1) 51 kc ks Q (14, [some (.ref 130), some (.int (zI sr)), some (.int (zI fa)), some (.int (zI fr)), some (.int (zI sd)), some (.ref 2), some (.long (Int64.ofNat 0)), none, some (.int (zI 0)), none, none, none, none], [], es))
    (K2 : ¬ (sr = -15) → sr = -14 → sd ≠ 0 → aW O (d + 1) 51 kc ks Q (14, [some (.ref 130), some (.int (zI sr)), some (.int (zI fa)), some (.int (zI fr)), some (.int (zI sd)), some (.ref 4), some (.long (Int64.ofNat 0)), none, some (.int (zI 0)), none, none, none, none], [], es))
    (K3 : ¬ (sr = -15) → sr = -14 → ¬ (sd ≠ 0) → aW O (d + 1) 51 kc ks Q (14, [some (.ref 130), some (.int (zI sr)), some (.int (zI fa)), some (.int (zI fr)), some (.int (zI sd)), some (.ref 3), some (.long (Int64.ofNat 0)), none, some (.int (zI 0)), none, none, none, none], [], es))
    (K4 : ¬ (sr = -15) → ¬ (sr = -14) → sr = -13 → aW O (d + 1) 51 kc ks Q (14, [some (.ref 130), some (.int (zI sr)), some (.int (zI fa)), some (.int (zI fr)), some (.int (zI sd)), some (.ref 1), some (.long (Int64.ofNat 0)), none, some (.int (zI 0)), none, none, none, none], [], es))
    (K5 : ¬ (sr = -15) → ¬ (sr = -14) → ¬ (sr = -13) → sr = -12 → aW O (d + 1) 51 kc ks Q (14, [some (.ref 130), some (.int (zI sr)), some (.int (zI fa)), some (.int (zI fr)), some (.int (zI sd)), some (.ref 0), some (.long (Int64.ofNat 0)), none, some (.int (zI 0)), none, none, none, none], [], es))
    (K6 : ¬ (sr = -15) → ¬ (sr = -14) → ¬ (sr = -13) → ¬ (sr = -12) → sd ≠ 0 → aW O (d + 1) 51 kc ks Q (14, [some (.ref 130), some (.int (zI sr)), some (.int (zI fa)), some (.int (zI fr)), some (.int (zI sd)), some (.ref 6), some (.long (Int64.ofNat 0)), none, some (.int (zI 0)), none, none, none, none], [], es))
    (K7 : ¬ (sr = -15) → ¬ (sr = -14) → ¬ (sr = -13) → ¬ (sr = -12) → ¬ (sd ≠ 0) → aW O (d + 1) 51 kc ks Q (14, [some (.ref 130), some (.int (zI sr)), some (.int (zI fa)), some (.int (zI fr)), some (.int (zI sd)), some (.ref 5), some (.long (Int64.ofNat 0)), none, some (.int (zI 0)), none, none, none, none], [], es)) :
    aW O (d + 1) 51 kc ks Q (0, [some (.ref 130), some (.int (zI sr)), some (.int (zI fa)), some (.int (zI fr)), some (.int (zI sd)), none, none, none, none, none, none, none, none], [], es) := by
  refine x0 (r := (1, [some (.ref 130), some (.int (zI sr)), some (.int (zI fa)), some (.int (zI fr)), some (.int (zI sd)), none, none, none, none, none, none, none, none], [.int (zI sr)], es)) i_51_0 rfl ?_
  refine x0 (r := (3, [some (.ref 130), some (.int (zI sr)), some (.int (zI fa)), some (.int (zI fr)), some (.int (zI sd)), none, none, none, none, none, none, none, none], [.int (zI sd), .int (zI sr)], es)) i_51_1 rfl ?_
  refine x_call (vs := [.int (zI sr), .int (zI sd)]) (rs := []) i_51_3 rfl (fun _ => rfl) rfl rfl rfl rfl rfl rfl ?_
  show aW _ _ _ _ _ _ (0, [some (.int (zI sr)), some (.int (zI sd))], [], es)
  refine x0 (r := (1, [some (.int (zI sr)), some (.int (zI sd))], [.int (zI sr)], es)) i_52_0 rfl ?_
  by_cases c1 : sr = -15
  · refine x_tsw (t := 40) (off := 39) i_52_1 (by unfold i32 iLO iHI; omega) (by omega) (by rw [c1]; rfl) rfl ?_
    refine x_gst i_52_40 ?_
    show aW _ _ _ _ _ _ (43, [some (.int (zI sr)), some (.int (zI sd))], [.ref 2], es)
    refine x_ret (v := some (.ref 2)) i_52_43 rfl (fun _ => rfl) rfl rfl rfl ?_
    show aW _ _ _ _ _ _ (6, [some (.ref 130), some (.int (zI sr)), some (.int (zI fa)), some (.int (zI fr)), some (.int (zI sd)), none, none, none, none, none, none, none, none], [.ref 2], es)
    refine x0 (r := (8, [some (.ref 130), some (.int (zI sr)), some (.int (zI fa)), some (.int (zI fr)), some (.int (zI sd)), some (.ref 2), none, none, none, none, none, none, none], [], es)) i_51_6 rfl ?_
    refine x0 (r := (9, [some (.ref 130), some (.int (zI sr)), some (.int (zI fa)), some (.int (zI fr)), some (.int (zI sd)), some (.ref 2), none, none, none, none, none, none, none], [.long (Int64.ofNat 0)], es)) i_51_8 rfl ?_
    refine x0 (r := (11, [some (.ref 130), some (.int (zI sr)), some (.int (zI fa)), some (.int (zI fr)), some (.int (zI sd)), some (.ref 2), some (.long (Int64.ofNat 0)), none, none, none, none, none, none], [], es)) i_51_9 rfl ?_
    refine x0 (r := (12, [some (.ref 130), some (.int (zI sr)), some (.int (zI fa)), some (.int (zI fr)), some (.int (zI sd)), some (.ref 2), some (.long (Int64.ofNat 0)), none, none, none, none, none, none], [.int (zI 0)], es)) i_51_11 (by rfl) ?_
    refine x0 (r := (14, [some (.ref 130), some (.int (zI sr)), some (.int (zI fa)), some (.int (zI fr)), some (.int (zI sd)), some (.ref 2), some (.long (Int64.ofNat 0)), none, some (.int (zI 0)), none, none, none, none], [], es)) i_51_12 rfl ?_
    exact K1 c1
  by_cases c2 : sr = -14
  · refine x_tsw (t := 44) (off := 43) i_52_1 (by unfold i32 iLO iHI; omega) (by omega) (by rw [c2]; rfl) rfl ?_
    refine x0 (r := (45, [some (.int (zI sr)), some (.int (zI sd))], [.int (zI sd)], es)) i_52_44 rfl ?_
    by_cases c3 : sd ≠ 0
    · refine x_ifT i_52_45 (by unfold i32 iLO iHI; omega) rfl (by simp only [zC, cR]; omega) ?_
      refine x_gst i_52_54 ?_
      show aW _ _ _ _ _ _ (57, [some (.int (zI sr)), some (.int (zI sd))], [.ref 4], es)
      refine x_ret (v := some (.ref 4)) i_52_57 rfl (fun _ => rfl) rfl rfl rfl ?_
      show aW _ _ _ _ _ _ (6, [some (.ref 130), some (.int (zI sr)), some (.int (zI fa)), some (.int (zI fr)), some (.int (zI sd)), none, none, none, none, none, none, none, none], [.ref 4], es)
      refine x0 (r := (8, [some (.ref 130), some (.int (zI sr)), some (.int (zI fa)), some (.int (zI fr)), some (.int (zI sd)), some (.ref 4), none, none, none, none, none, none, none], [], es)) i_51_6 rfl ?_
      refine x0 (r := (9, [some (.ref 130), some (.int (zI sr)), some (.int (zI fa)), some (.int (zI fr)), some (.int (zI sd)), some (.ref 4), none, none, none, none, none, none, none], [.long (Int64.ofNat 0)], es)) i_51_8 rfl ?_
      refine x0 (r := (11, [some (.ref 130), some (.int (zI sr)), some (.int (zI fa)), some (.int (zI fr)), some (.int (zI sd)), some (.ref 4), some (.long (Int64.ofNat 0)), none, none, none, none, none, none], [], es)) i_51_9 rfl ?_
      refine x0 (r := (12, [some (.ref 130), some (.int (zI sr)), some (.int (zI fa)), some (.int (zI fr)), some (.int (zI sd)), some (.ref 4), some (.long (Int64.ofNat 0)), none, none, none, none, none, none], [.int (zI 0)], es)) i_51_11 (by rfl) ?_
      refine x0 (r := (14, [some (.ref 130), some (.int (zI sr)), some (.int (zI fa)), some (.int (zI fr)), some (.int (zI sd)), some (.ref 4), some (.long (Int64.ofNat 0)), none, some (.int (zI 0)), none, none, none, none], [], es)) i_51_12 rfl ?_
      exact K2 c1 c2 c3
    · refine x_ifF i_52_45 (by unfold i32 iLO iHI; omega) rfl (by simp only [zC, cR]; omega) ?_
      refine x_gst i_52_48 ?_
      show aW _ _ _ _ _ _ (51, [some (.int (zI sr)), some (.int (zI sd))], [.ref 3], es)
      refine x0 (r := (57, [some (.int (zI sr)), some (.int (zI sd))], [.ref 3], es)) i_52_51 rfl ?_
      refine x_ret (v := some (.ref 3)) i_52_57 rfl (fun _ => rfl) rfl rfl rfl ?_
      show aW _ _ _ _ _ _ (6, [some (.ref 130), some (.int (zI sr)), some (.int (zI fa)), some (.int (zI fr)), some (.int (zI sd)), none, none, none, none, none, none, none, none], [.ref 3], es)
      refine x0 (r := (8, [some (.ref 130), some (.int (zI sr)), some (.int (zI fa)), some (.int (zI fr)), some (.int (zI sd)), some (.ref 3), none, none, none, none, none, none, none], [], es)) i_51_6 rfl ?_
      refine x0 (r := (9, [some (.ref 130), some (.int (zI sr)), some (.int (zI fa)), some (.int (zI fr)), some (.int (zI sd)), some (.ref 3), none, none, none, none, none, none, none], [.long (Int64.ofNat 0)], es)) i_51_8 rfl ?_
      refine x0 (r := (11, [some (.ref 130), some (.int (zI sr)), some (.int (zI fa)), some (.int (zI fr)), some (.int (zI sd)), some (.ref 3), some (.long (Int64.ofNat 0)), none, none, none, none, none, none], [], es)) i_51_9 rfl ?_
      refine x0 (r := (12, [some (.ref 130), some (.int (zI sr)), some (.int (zI fa)), some (.int (zI fr)), some (.int (zI sd)), some (.ref 3), some (.long (Int64.ofNat 0)), none, none, none, none, none, none], [.int (zI 0)], es)) i_51_11 (by rfl) ?_
      refine x0 (r := (14, [some (.ref 130), some (.int (zI sr)), some (.int (zI fa)), some (.int (zI fr)), some (.int (zI sd)), some (.ref 3), some (.long (Int64.ofNat 0)), none, some (.int (zI 0)), none, none, none, none], [], es)) i_51_12 rfl ?_
      exact K3 c1 c2 c3
  by_cases c4 : sr = -13
  · refine x_tsw (t := 36) (off := 35) i_52_1 (by unfold i32 iLO iHI; omega) (by omega) (by rw [c4]; rfl) rfl ?_
    refine x_gst i_52_36 ?_
    show aW _ _ _ _ _ _ (39, [some (.int (zI sr)), some (.int (zI sd))], [.ref 1], es)
    refine x_ret (v := some (.ref 1)) i_52_39 rfl (fun _ => rfl) rfl rfl rfl ?_
    show aW _ _ _ _ _ _ (6, [some (.ref 130), some (.int (zI sr)), some (.int (zI fa)), some (.int (zI fr)), some (.int (zI sd)), none, none, none, none, none, none, none, none], [.ref 1], es)
    refine x0 (r := (8, [some (.ref 130), some (.int (zI sr)), some (.int (zI fa)), some (.int (zI fr)), some (.int (zI sd)), some (.ref 1), none, none, none, none, none, none, none], [], es)) i_51_6 rfl ?_
    refine x0 (r := (9, [some (.ref 130), some (.int (zI sr)), some (.int (zI fa)), some (.int (zI fr)), some (.int (zI sd)), some (.ref 1), none, none, none, none, none, none, none], [.long (Int64.ofNat 0)], es)) i_51_8 rfl ?_
    refine x0 (r := (11, [some (.ref 130), some (.int (zI sr)), some (.int (zI fa)), some (.int (zI fr)), some (.int (zI sd)), some (.ref 1), some (.long (Int64.ofNat 0)), none, none, none, none, none, none], [], es)) i_51_9 rfl ?_
    refine x0 (r := (12, [some (.ref 130), some (.int (zI sr)), some (.int (zI fa)), some (.int (zI fr)), some (.int (zI sd)), some (.ref 1), some (.long (Int64.ofNat 0)), none, none, none, none, none, none], [.int (zI 0)], es)) i_51_11 (by rfl) ?_
    refine x0 (r := (14, [some (.ref 130), some (.int (zI sr)), some (.int (zI fa)), some (.int (zI fr)), some (.int (zI sd)), some (.ref 1), some (.long (Int64.ofNat 0)), none, some (.int (zI 0)), none, none, none, none], [], es)) i_51_12 rfl ?_
    exact K4 c1 c2 c4
  by_cases c5 : sr = -12
  · refine x_tsw (t := 32) (off := 31) i_52_1 (by unfold i32 iLO iHI; omega) (by omega) (by rw [c5]; rfl) rfl ?_
    refine x_gst i_52_32 ?_
    show aW _ _ _ _ _ _ (35, [some (.int (zI sr)), some (.int (zI sd))], [.ref 0], es)
    refine x_ret (v := some (.ref 0)) i_52_35 rfl (fun _ => rfl) rfl rfl rfl ?_
    show aW _ _ _ _ _ _ (6, [some (.ref 130), some (.int (zI sr)), some (.int (zI fa)), some (.int (zI fr)), some (.int (zI sd)), none, none, none, none, none, none, none, none], [.ref 0], es)
    refine x0 (r := (8, [some (.ref 130), some (.int (zI sr)), some (.int (zI fa)), some (.int (zI fr)), some (.int (zI sd)), some (.ref 0), none, none, none, none, none, none, none], [], es)) i_51_6 rfl ?_
    refine x0 (r := (9, [some (.ref 130), some (.int (zI sr)), some (.int (zI fa)), some (.int (zI fr)), some (.int (zI sd)), some (.ref 0), none, none, none, none, none, none, none], [.long (Int64.ofNat 0)], es)) i_51_8 rfl ?_
    refine x0 (r := (11, [some (.ref 130), some (.int (zI sr)), some (.int (zI fa)), some (.int (zI fr)), some (.int (zI sd)), some (.ref 0), some (.long (Int64.ofNat 0)), none, none, none, none, none, none], [], es)) i_51_9 rfl ?_
    refine x0 (r := (12, [some (.ref 130), some (.int (zI sr)), some (.int (zI fa)), some (.int (zI fr)), some (.int (zI sd)), some (.ref 0), some (.long (Int64.ofNat 0)), none, none, none, none, none, none], [.int (zI 0)], es)) i_51_11 (by rfl) ?_
    refine x0 (r := (14, [some (.ref 130), some (.int (zI sr)), some (.int (zI fa)), some (.int (zI fr)), some (.int (zI sd)), some (.ref 0), some (.long (Int64.ofNat 0)), none, some (.int (zI 0)), none, none, none, none], [], es)) i_51_12 rfl ?_
    exact K5 c1 c2 c4 c5
  refine x_tswd (t := 58) i_52_1 (by unfold i32 iLO iHI; omega) (by omega) rfl ?_
  refine x0 (r := (59, [some (.int (zI sr)), some (.int (zI sd))], [.int (zI sd)], es)) i_52_58 rfl ?_
  by_cases c6 : sd ≠ 0
  · refine x_ifT i_52_59 (by unfold i32 iLO iHI; omega) rfl (by simp only [zC, cR]; omega) ?_
    refine x_gst i_52_68 ?_
    show aW _ _ _ _ _ _ (71, [some (.int (zI sr)), some (.int (zI sd))], [.ref 6], es)
    refine x_ret (v := some (.ref 6)) i_52_71 rfl (fun _ => rfl) rfl rfl rfl ?_
    show aW _ _ _ _ _ _ (6, [some (.ref 130), some (.int (zI sr)), some (.int (zI fa)), some (.int (zI fr)), some (.int (zI sd)), none, none, none, none, none, none, none, none], [.ref 6], es)
    refine x0 (r := (8, [some (.ref 130), some (.int (zI sr)), some (.int (zI fa)), some (.int (zI fr)), some (.int (zI sd)), some (.ref 6), none, none, none, none, none, none, none], [], es)) i_51_6 rfl ?_
    refine x0 (r := (9, [some (.ref 130), some (.int (zI sr)), some (.int (zI fa)), some (.int (zI fr)), some (.int (zI sd)), some (.ref 6), none, none, none, none, none, none, none], [.long (Int64.ofNat 0)], es)) i_51_8 rfl ?_
    refine x0 (r := (11, [some (.ref 130), some (.int (zI sr)), some (.int (zI fa)), some (.int (zI fr)), some (.int (zI sd)), some (.ref 6), some (.long (Int64.ofNat 0)), none, none, none, none, none, none], [], es)) i_51_9 rfl ?_
    refine x0 (r := (12, [some (.ref 130), some (.int (zI sr)), some (.int (zI fa)), some (.int (zI fr)), some (.int (zI sd)), some (.ref 6), some (.long (Int64.ofNat 0)), none, none, none, none, none, none], [.int (zI 0)], es)) i_51_11 (by rfl) ?_
    refine x0 (r := (14, [some (.ref 130), some (.int (zI sr)), some (.int (zI fa)), some (.int (zI fr)), some (.int (zI sd)), some (.ref 6), some (.long (Int64.ofNat 0)), none, some (.int (zI 0)), none, none, none, none], [], es)) i_51_12 rfl ?_
    exact K6 c1 c2 c4 c5 c6
  · refine x_ifF i_52_59 (by unfold i32 iLO iHI; omega) rfl (by simp only [zC, cR]; omega) ?_
    refine x_gst i_52_62 ?_
    show aW _ _ _ _ _ _ (65, [some (.int (zI sr)), some (.int (zI sd))], [.ref 5], es)
    refine x0 (r := (71, [some (.int (zI sr)), some (.int (zI sd))], [.ref 5], es)) i_52_65 rfl ?_
    refine x_ret (v := some (.ref 5)) i_52_71 rfl (fun _ => rfl) rfl rfl rfl ?_
    show aW _ _ _ _ _ _ (6, [some (.ref 130), some (.int (zI sr)), some (.int (zI fa)), some (.int (zI fr)), some (.int (zI sd)), none, none, none, none, none, none, none, none], [.ref 5], es)
    refine x0 (r := (8, [some (.ref 130), some (.int (zI sr)), some (.int (zI fa)), some (.int (zI fr)), some (.int (zI sd)), some (.ref 5), none, none, none, none, none, none, none], [], es)) i_51_6 rfl ?_
    refine x0 (r := (9, [some (.ref 130), some (.int (zI sr)), some (.int (zI fa)), some (.int (zI fr)), some (.int (zI sd)), some (.ref 5), none, none, none, none, none, none, none], [.long (Int64.ofNat 0)], es)) i_51_8 rfl ?_
    refine x0 (r := (11, [some (.ref 130), some (.int (zI sr)), some (.int (zI fa)), some (.int (zI fr)), some (.int (zI sd)), some (.ref 5), some (.long (Int64.ofNat 0)), none, none, none, none, none, none], [], es)) i_51_9 rfl ?_
    refine x0 (r := (12, [some (.ref 130), some (.int (zI sr)), some (.int (zI fa)), some (.int (zI fr)), some (.int (zI sd)), some (.ref 5), some (.long (Int64.ofNat 0)), none, none, none, none, none, none], [.int (zI 0)], es)) i_51_11 (by rfl) ?_
    refine x0 (r := (14, [some (.ref 130), some (.int (zI sr)), some (.int (zI fa)), some (.int (zI fr)), some (.int (zI sd)), some (.ref 5), some (.long (Int64.ofNat 0)), none, some (.int (zI 0)), none, none, none, none], [], es)) i_51_12 rfl ?_
    exact K7 c1 c2 c4 c5 c6
theorem s_rbA14 {O : pOut} {d kc ks : Nat} {Q : pRes → Prop} {es : PH} {al : Int64} {go : Nat → Int32} {sr fa fr sd i : Int} {so ln : Nat} {x9 x10 x11 x12 : Option Value} (hs_es : sh es) (ho64 : so < 64) (ho : O so = some (ln, go)) (hg : ∀ j, -2 ≤ (go j).toInt ∧ (go j).toInt ≤ 2) (h1 : -16 ≤ sr ∧ sr ≤ -12) (h2 : 0 ≤ fa ∧ fa ≤ 5) (h3 : 0 ≤ fr ∧ fr ≤ 35) (h4 : 0 ≤ sd ∧ sd ≤ 1) (h5 : 0 ≤ i ∧ i ≤ 20) (hl : (ln : Int) ≤ 16) (hT_es : hOK tT es)
    (K1 : (ln : Int) ≤ (i + 1) → Q (.inl (some (.long al)), es, kc, ks))
    (K2 : ¬ ((ln : Int) ≤ (i + 1)) → aW O d 51 kc ks Q (42, [some (.ref 130), some (.int (zI sr)), some (.int (zI fa)), some (.int (zI fr)), some (.int (zI sd)), some (.ref so), some (.long al), none, some (.int (zI i)), some (.int (zI (fr / 6))), some (.int (zI (fr % 6))), some (.int (zI 0)), some (.int (zI 0))], [], es)) :
    aW O d 51 kc ks Q (14, [some (.ref 130), some (.int (zI sr)), some (.int (zI fa)), some (.int (zI fr)), some (.int (zI sd)), some (.ref so), some (.long al), none, some (.int (zI i)), x9, x10, x11, x12], [], es) := by
  refine x0 (r := (16, [some (.ref 130), some (.int (zI sr)), some (.int (zI fa)), some (.int (zI fr)), some (.int (zI sd)), some (.ref so), some (.long al), none, some (.int (zI i)), x9, x10, x11, x12], [.int (zI i)], es)) i_51_14 rfl ?_
  refine x0 (r := (17, [some (.ref 130), some (.int (zI sr)), some (.int (zI fa)), some (.int (zI fr)), some (.int (zI sd)), some (.ref so), some (.long al), none, some (.int (zI i)), x9, x10, x11, x12], [.int (zI 1), .int (zI i)], es)) i_51_16 (by rfl) ?_
  refine x_iadd i_51_17 ?_
  refine x0 (r := (20, [some (.ref 130), some (.int (zI sr)), some (.int (zI fa)), some (.int (zI fr)), some (.int (zI sd)), some (.ref so), some (.long al), none, some (.int (zI i)), x9, x10, x11, x12], [.ref so, .int (zI (i + 1))], es)) i_51_18 rfl ?_
  refine x_olen i_51_20 ho64 ho ?_
  by_cases c1 : (ln : Int) ≤ (i + 1)
  · refine x_cmpT i_51_21 (by unfold i32 iLO iHI; omega) (by unfold i32 iLO iHI; omega) rfl (by simp only [zC, cR]; omega) ?_
    refine x0 (r := (180, [some (.ref 130), some (.int (zI sr)), some (.int (zI fa)), some (.int (zI fr)), some (.int (zI sd)), some (.ref so), some (.long al), none, some (.int (zI i)), x9, x10, x11, x12], [.long al], es)) i_51_178 rfl ?_
    refine x_ret (v := some (.long al)) i_51_180 rfl (fun _ => rfl) rfl rfl rfl ?_
    exact K1 c1
  · refine x_cmpF i_51_21 (by unfold i32 iLO iHI; omega) (by unfold i32 iLO iHI; omega) rfl (by simp only [zC, cR]; omega) ?_
    refine x0 (r := (25, [some (.ref 130), some (.int (zI sr)), some (.int (zI fa)), some (.int (zI fr)), some (.int (zI sd)), some (.ref so), some (.long al), none, some (.int (zI i)), x9, x10, x11, x12], [.int (zI fr)], es)) i_51_24 rfl ?_
    refine x0 (r := (27, [some (.ref 130), some (.int (zI sr)), some (.int (zI fa)), some (.int (zI fr)), some (.int (zI sd)), some (.ref so), some (.long al), none, some (.int (zI i)), x9, x10, x11, x12], [.int (zI 6), .int (zI fr)], es)) i_51_25 (by rfl) ?_
    refine x_idivn i_51_27 (by omega) (by unfold i32 iLO iHI; omega) (by unfold i32 iLO iHI; omega) (by omega) ?_
    refine x0 (r := (30, [some (.ref 130), some (.int (zI sr)), some (.int (zI fa)), some (.int (zI fr)), some (.int (zI sd)), some (.ref so), some (.long al), none, some (.int (zI i)), some (.int (zI (fr / 6))), x10, x11, x12], [], es)) i_51_28 rfl ?_
    refine x0 (r := (31, [some (.ref 130), some (.int (zI sr)), some (.int (zI fa)), some (.int (zI fr)), some (.int (zI sd)), some (.ref so), some (.long al), none, some (.int (zI i)), some (.int (zI (fr / 6))), x10, x11, x12], [.int (zI fr)], es)) i_51_30 rfl ?_
    refine x0 (r := (33, [some (.ref 130), some (.int (zI sr)), some (.int (zI fa)), some (.int (zI fr)), some (.int (zI sd)), some (.ref so), some (.long al), none, some (.int (zI i)), some (.int (zI (fr / 6))), x10, x11, x12], [.int (zI 6), .int (zI fr)], es)) i_51_31 (by rfl) ?_
    refine x_iremn i_51_33 (by omega) (by unfold i32 iLO iHI; omega) (by unfold i32 iLO iHI; omega) (by omega) ?_
    refine x0 (r := (36, [some (.ref 130), some (.int (zI sr)), some (.int (zI fa)), some (.int (zI fr)), some (.int (zI sd)), some (.ref so), some (.long al), none, some (.int (zI i)), some (.int (zI (fr / 6))), some (.int (zI (fr % 6))), x11, x12], [], es)) i_51_34 rfl ?_
    refine x0 (r := (37, [some (.ref 130), some (.int (zI sr)), some (.int (zI fa)), some (.int (zI fr)), some (.int (zI sd)), some (.ref so), some (.long al), none, some (.int (zI i)), some (.int (zI (fr / 6))), some (.int (zI (fr % 6))), x11, x12], [.int (zI 0)], es)) i_51_36 (by rfl) ?_
    refine x0 (r := (39, [some (.ref 130), some (.int (zI sr)), some (.int (zI fa)), some (.int (zI fr)), some (.int (zI sd)), some (.ref so), some (.long al), none, some (.int (zI i)), some (.int (zI (fr / 6))), some (.int (zI (fr % 6))), some (.int (zI 0)), x12], [], es)) i_51_37 rfl ?_
    refine x0 (r := (40, [some (.ref 130), some (.int (zI sr)), some (.int (zI fa)), some (.int (zI fr)), some (.int (zI sd)), some (.ref so), some (.long al), none, some (.int (zI i)), some (.int (zI (fr / 6))), some (.int (zI (fr % 6))), some (.int (zI 0)), x12], [.int (zI 0)], es)) i_51_39 (by rfl) ?_
    refine x0 (r := (42, [some (.ref 130), some (.int (zI sr)), some (.int (zI fa)), some (.int (zI fr)), some (.int (zI sd)), some (.ref so), some (.long al), none, some (.int (zI i)), some (.int (zI (fr / 6))), some (.int (zI (fr % 6))), some (.int (zI 0)), some (.int (zI 0))], [], es)) i_51_40 rfl ?_
    exact K2 c1
theorem s_rbA172 {O : pOut} {d kc ks : Nat} {Q : pRes → Prop} {es : PH} {al : Int64} {sr fa fr sd i : Int} {so : Nat} {x9 x10 x11 x12 : Option Value} (hs_es : sh es) (hT_es : hOK tT es)
    (K1 : aW O d 51 kc ks Q (14, [some (.ref 130), some (.int (zI sr)), some (.int (zI fa)), some (.int (zI fr)), some (.int (zI sd)), some (.ref so), some (.long al), none, some (.int (zI (i + 2))), x9, x10, x11, x12], [], es)) :
    aW O d 51 kc ks Q (172, [some (.ref 130), some (.int (zI sr)), some (.int (zI fa)), some (.int (zI fr)), some (.int (zI sd)), some (.ref so), some (.long al), none, some (.int (zI i)), x9, x10, x11, x12], [], es) := by
  refine x_iinc (x := i) i_51_172 rfl (by show 8 < 13; decide) ?_
  show aW _ _ _ _ _ _ (175, [some (.ref 130), some (.int (zI sr)), some (.int (zI fa)), some (.int (zI fr)), some (.int (zI sd)), some (.ref so), some (.long al), none, some (.int (zI (i + 2))), x9, x10, x11, x12], [], es)
  refine x0 (r := (14, [some (.ref 130), some (.int (zI sr)), some (.int (zI fa)), some (.int (zI fr)), some (.int (zI sd)), some (.ref so), some (.long al), none, some (.int (zI (i + 2))), x9, x10, x11, x12], [], es)) i_51_175 rfl ?_
  exact K1
theorem s_roA0 {O : pOut} {d kc ks : Nat} {Q : pRes → Prop} {es : PH} {fr sd : Int} (hs_es : sh es) (h3 : 0 ≤ fr ∧ fr ≤ 35) (h4 : 0 ≤ sd ∧ sd ≤ 1) (hm : 0 ≤ (gA es 67 fr.toNat).toInt ∧ (gA es 67 fr.toNat).toInt ≤ 10) (hT_es : hOK tT es)
    (K1 : ∀ v1 : Int, atP 67 fr es v1 → v1 ≤ 0 → Q (.inl (some (.long (Int64.ofNat 0))), es, kc, ks))
    (K2 : ∀ v1 : Int, atP 67 fr es v1 → ¬ (v1 ≤ 0) → ∀ v3 : Int, v3 = (zI (v1 - 1) &&& zI 1).toInt → v3 ≠ sd → Q (.inl (some (.long (Int64.ofNat 0))), es, kc, ks))
    (K3 : ∀ v1 : Int, atP 67 fr es v1 → ¬ (v1 ≤ 0) → ∀ v3 : Int, v3 = (zI (v1 - 1) &&& zI 1).toInt → ¬ (v3 ≠ sd) → ∀ v5 : Int, v5 = (zI (v1 - 1) >>> (zI 1 &&& 31)).toInt → aW O (d + 1) 47 kc ks Q (32, [some (.ref 130), some (.int (zI fr)), some (.int (zI sd)), some (.int (zI v1)), some (.long (Int64.ofNat 0)), none, some (.int (zI v5)), some (.int (zI 0))], [], es)) :
    aW O (d + 1) 47 kc ks Q (0, [some (.ref 130), some (.int (zI fr)), some (.int (zI sd)), none, none, none, none, none], [], es) := by
  refine x0 (r := (1, [some (.ref 130), some (.int (zI fr)), some (.int (zI sd)), none, none, none, none, none], [.ref 130], es)) i_47_0 rfl ?_
  refine x_getr (p := 66) (k := 131) i_47_1 hs_es rfl rfl ?_
  show aW _ _ _ _ _ _ (4, [some (.ref 130), some (.int (zI fr)), some (.int (zI sd)), none, none, none, none, none], [.ref 131], es)
  refine x0 (r := (5, [some (.ref 130), some (.int (zI fr)), some (.int (zI sd)), none, none, none, none, none], [.int (zI fr), .ref 131], es)) i_47_4 rfl ?_
  refine x_call (vs := [.ref 131, .int (zI fr)]) (rs := []) i_47_5 rfl (fun _ => rfl) rfl rfl rfl rfl rfl rfl ?_
  show aW _ _ _ _ _ _ (0, [some (.ref 131), some (.int (zI fr))], [], es)
  refine at_sp (p := 67) rfl hs_es (by omega) (by omega) (by decide) (fun v1 p_v1 => ?_)
  have r_v1 := atP_is p_v1
  show aW _ _ _ _ _ _ (8, [some (.ref 130), some (.int (zI fr)), some (.int (zI sd)), none, none, none, none, none], [.int (zI v1)], es)
  refine x0 (r := (9, [some (.ref 130), some (.int (zI fr)), some (.int (zI sd)), some (.int (zI v1)), none, none, none, none], [], es)) i_47_8 rfl ?_
  refine x0 (r := (10, [some (.ref 130), some (.int (zI fr)), some (.int (zI sd)), some (.int (zI v1)), none, none, none, none], [.long (Int64.ofNat 0)], es)) i_47_9 rfl ?_
  refine x0 (r := (12, [some (.ref 130), some (.int (zI fr)), some (.int (zI sd)), some (.int (zI v1)), some (.long (Int64.ofNat 0)), none, none, none], [], es)) i_47_10 rfl ?_
  refine x0 (r := (13, [some (.ref 130), some (.int (zI fr)), some (.int (zI sd)), some (.int (zI v1)), some (.long (Int64.ofNat 0)), none, none, none], [.int (zI v1)], es)) i_47_12 rfl ?_
  refine x0 (r := (14, [some (.ref 130), some (.int (zI fr)), some (.int (zI sd)), some (.int (zI v1)), some (.long (Int64.ofNat 0)), none, none, none], [.int (zI sd), .int (zI v1)], es)) i_47_13 rfl ?_
  refine x_call (vs := [.int (zI v1), .int (zI sd)]) (rs := []) i_47_14 rfl (fun _ => rfl) rfl rfl rfl rfl rfl rfl ?_
  show aW _ _ _ _ _ _ (0, [some (.int (zI v1)), some (.int (zI sd))], [], es)
  refine x0 (r := (1, [some (.int (zI v1)), some (.int (zI sd))], [.int (zI v1)], es)) i_48_0 rfl ?_
  by_cases c2 : v1 ≤ 0
  · refine x_ifT i_48_1 (by unfold i32 iLO iHI; omega) rfl (by simp only [zC, cR]; omega) ?_
    refine x0 (r := (18, [some (.int (zI v1)), some (.int (zI sd))], [.int (zI 0)], es)) i_48_17 (by rfl) ?_
    refine x_ret (v := some (.int (zI 0))) i_48_18 rfl (fun _ => rfl) rfl rfl (pFin_b (by omega)) ?_
    show aW _ _ _ _ _ _ (17, [some (.ref 130), some (.int (zI fr)), some (.int (zI sd)), some (.int (zI v1)), some (.long (Int64.ofNat 0)), none, none, none], [.int (zI 0)], es)
    refine x_ifF i_47_17 (by unfold i32 iLO iHI; omega) rfl (by simp only [zC, cR]; omega) ?_
    refine x0 (r := (22, [some (.ref 130), some (.int (zI fr)), some (.int (zI sd)), some (.int (zI v1)), some (.long (Int64.ofNat 0)), none, none, none], [.long (Int64.ofNat 0)], es)) i_47_20 rfl ?_
    refine x_ret (v := some (.long (Int64.ofNat 0))) i_47_22 rfl (fun _ => rfl) rfl rfl rfl ?_
    exact K1 v1 p_v1 c2
  · refine x_ifF i_48_1 (by unfold i32 iLO iHI; omega) rfl (by simp only [zC, cR]; omega) ?_
    refine x0 (r := (5, [some (.int (zI v1)), some (.int (zI sd))], [.int (zI v1)], es)) i_48_4 rfl ?_
    refine x0 (r := (6, [some (.int (zI v1)), some (.int (zI sd))], [.int (zI 1), .int (zI v1)], es)) i_48_5 (by rfl) ?_
    refine x_isub i_48_6 ?_
    refine x0 (r := (8, [some (.int (zI v1)), some (.int (zI sd))], [.int (zI 1), .int (zI (v1 - 1))], es)) i_48_7 (by rfl) ?_
    refine x_op i_48_8 (w := (zI (v1 - 1) &&& zI 1)) rfl rfl ?_
    obtain ⟨v3, e_v3⟩ : ∃ z : Int, z = (zI (v1 - 1) &&& zI 1).toInt := ⟨_, rfl⟩
    rw [← e_v3]
    have r_v3 : iLO ≤ v3 ∧ v3 ≤ iHI := by rw [e_v3]; exact i32_rng _
    unfold iLO iHI at r_v3
    refine x0 (r := (10, [some (.int (zI v1)), some (.int (zI sd))], [.int (zI sd), .int (zI v3)], es)) i_48_9 rfl ?_
    by_cases c4 : v3 ≠ sd
    · refine x_cmpT i_48_10 (by unfold i32 iLO iHI; omega) (by unfold i32 iLO iHI; omega) rfl (by simp only [zC, cR]; omega) ?_
      refine x0 (r := (18, [some (.int (zI v1)), some (.int (zI sd))], [.int (zI 0)], es)) i_48_17 (by rfl) ?_
      refine x_ret (v := some (.int (zI 0))) i_48_18 rfl (fun _ => rfl) rfl rfl (pFin_b (by omega)) ?_
      show aW _ _ _ _ _ _ (17, [some (.ref 130), some (.int (zI fr)), some (.int (zI sd)), some (.int (zI v1)), some (.long (Int64.ofNat 0)), none, none, none], [.int (zI 0)], es)
      refine x_ifF i_47_17 (by unfold i32 iLO iHI; omega) rfl (by simp only [zC, cR]; omega) ?_
      refine x0 (r := (22, [some (.ref 130), some (.int (zI fr)), some (.int (zI sd)), some (.int (zI v1)), some (.long (Int64.ofNat 0)), none, none, none], [.long (Int64.ofNat 0)], es)) i_47_20 rfl ?_
      refine x_ret (v := some (.long (Int64.ofNat 0))) i_47_22 rfl (fun _ => rfl) rfl rfl rfl ?_
      exact K2 v1 p_v1 c2 v3 e_v3 c4
    · refine x_cmpF i_48_10 (by unfold i32 iLO iHI; omega) (by unfold i32 iLO iHI; omega) rfl (by simp only [zC, cR]; omega) ?_
      refine x0 (r := (14, [some (.int (zI v1)), some (.int (zI sd))], [.int (zI 1)], es)) i_48_13 (by rfl) ?_
      refine x0 (r := (18, [some (.int (zI v1)), some (.int (zI sd))], [.int (zI 1)], es)) i_48_14 rfl ?_
      refine x_ret (v := some (.int (zI 1))) i_48_18 rfl (fun _ => rfl) rfl rfl (pFin_b (by omega)) ?_
      show aW _ _ _ _ _ _ (17, [some (.ref 130), some (.int (zI fr)), some (.int (zI sd)), some (.int (zI v1)), some (.long (Int64.ofNat 0)), none, none, none], [.int (zI 1)], es)
      refine x_ifT i_47_17 (by unfold i32 iLO iHI; omega) rfl (by simp only [zC, cR]; omega) ?_
      refine x0 (r := (24, [some (.ref 130), some (.int (zI fr)), some (.int (zI sd)), some (.int (zI v1)), some (.long (Int64.ofNat 0)), none, none, none], [.int (zI v1)], es)) i_47_23 rfl ?_
      refine x_call (vs := [.int (zI v1)]) (rs := []) i_47_24 rfl (fun _ => rfl) rfl rfl rfl rfl rfl rfl ?_
      show aW _ _ _ _ _ _ (0, [some (.int (zI v1))], [], es)
      refine x0 (r := (1, [some (.int (zI v1))], [.int (zI v1)], es)) i_49_0 rfl ?_
      refine x0 (r := (2, [some (.int (zI v1))], [.int (zI 1), .int (zI v1)], es)) i_49_1 (by rfl) ?_
      refine x_isub i_49_2 ?_
      refine x0 (r := (4, [some (.int (zI v1))], [.int (zI 1), .int (zI (v1 - 1))], es)) i_49_3 (by rfl) ?_
      refine x_op i_49_4 (w := (zI (v1 - 1) >>> (zI 1 &&& 31))) rfl rfl ?_
      obtain ⟨v5, e_v5⟩ : ∃ z : Int, z = (zI (v1 - 1) >>> (zI 1 &&& 31)).toInt := ⟨_, rfl⟩
      rw [← e_v5]
      have r_v5 : iLO ≤ v5 ∧ v5 ≤ iHI := by rw [e_v5]; exact i32_rng _
      unfold iLO iHI at r_v5
      refine x_ret (v := some (.int (zI v5))) i_49_5 rfl (fun _ => rfl) rfl rfl rfl ?_
      show aW _ _ _ _ _ _ (27, [some (.ref 130), some (.int (zI fr)), some (.int (zI sd)), some (.int (zI v1)), some (.long (Int64.ofNat 0)), none, none, none], [.int (zI v5)], es)
      refine x0 (r := (29, [some (.ref 130), some (.int (zI fr)), some (.int (zI sd)), some (.int (zI v1)), some (.long (Int64.ofNat 0)), none, some (.int (zI v5)), none], [], es)) i_47_27 rfl ?_
      refine x0 (r := (30, [some (.ref 130), some (.int (zI fr)), some (.int (zI sd)), some (.int (zI v1)), some (.long (Int64.ofNat 0)), none, some (.int (zI v5)), none], [.int (zI 0)], es)) i_47_29 (by rfl) ?_
      refine x0 (r := (32, [some (.ref 130), some (.int (zI fr)), some (.int (zI sd)), some (.int (zI v1)), some (.long (Int64.ofNat 0)), none, some (.int (zI v5)), some (.int (zI 0))], [], es)) i_47_30 rfl ?_
      exact K3 v1 p_v1 c2 v3 e_v3 c4 v5 e_v5
theorem s_roA32 {O : pOut} {d kc ks : Nat} {Q : pRes → Prop} {es : PH} {al : Int64} {fr sd mn kd n : Int} (hs_es : sh es) (h3 : 0 ≤ fr ∧ fr ≤ 35) (h4 : 0 ≤ sd ∧ sd ≤ 1) (h5 : 0 ≤ kd ∧ kd ≤ 4) (h6 : 0 ≤ n ∧ n ≤ 6) (hc : (gA es 9 kd.toNat).toInt ≤ 6) (hT_es : hOK tT es)
    (K1 : ∀ v1 : Int, atP 9 kd es v1 → v1 ≤ n → Q (.inl (some (.long al)), es, kc, ks))
    (K2 : ∀ v1 : Int, atP 9 kd es v1 → ¬ (v1 ≤ n) → ∀ v3 : Int, atP 10 ((((kd * 6) + n) * 2) + 0) es v3 → ∀ v4 : Int, atP 10 ((((kd * 6) + n) * 2) + 1) es v4 → aW O (d + 2) 47 kc ks Q (78, [some (.ref 130), some (.int (zI fr)), some (.int (zI sd)), some (.int (zI mn)), some (.long al), none, some (.int (zI kd)), some (.int (zI n))], [.int (zI sd), .int (zI fr), .int (zI v4), .int (zI v3), .ref 130, .long al], es)) :
    aW O (d + 2) 47 kc ks Q (32, [some (.ref 130), some (.int (zI fr)), some (.int (zI sd)), some (.int (zI mn)), some (.long al), none, some (.int (zI kd)), some (.int (zI n))], [], es) := by
  refine x0 (r := (34, [some (.ref 130), some (.int (zI fr)), some (.int (zI sd)), some (.int (zI mn)), some (.long al), none, some (.int (zI kd)), some (.int (zI n))], [.int (zI n)], es)) i_47_32 rfl ?_
  refine x0 (r := (35, [some (.ref 130), some (.int (zI fr)), some (.int (zI sd)), some (.int (zI mn)), some (.long al), none, some (.int (zI kd)), some (.int (zI n))], [.ref 130, .int (zI n)], es)) i_47_34 rfl ?_
  refine x_getr (p := 66) (k := 71) i_47_35 hs_es rfl rfl ?_
  show aW _ _ _ _ _ _ (38, [some (.ref 130), some (.int (zI fr)), some (.int (zI sd)), some (.int (zI mn)), some (.long al), none, some (.int (zI kd)), some (.int (zI n))], [.ref 71, .int (zI n)], es)
  refine x_getr (p := 7) (k := 73) i_47_38 hs_es rfl rfl ?_
  show aW _ _ _ _ _ _ (41, [some (.ref 130), some (.int (zI fr)), some (.int (zI sd)), some (.int (zI mn)), some (.long al), none, some (.int (zI kd)), some (.int (zI n))], [.ref 73, .int (zI n)], es)
  refine x0 (r := (43, [some (.ref 130), some (.int (zI fr)), some (.int (zI sd)), some (.int (zI mn)), some (.long al), none, some (.int (zI kd)), some (.int (zI n))], [.int (zI kd), .ref 73, .int (zI n)], es)) i_47_41 rfl ?_
  refine x_call (vs := [.ref 73, .int (zI kd)]) (rs := [.int (zI n)]) i_47_43 rfl (fun _ => rfl) rfl rfl rfl rfl rfl rfl ?_
  show aW _ _ _ _ _ _ (0, [some (.ref 73), some (.int (zI kd))], [], es)
  refine at_sp (p := 9) rfl hs_es (by omega) (by omega) (by decide) (fun v1 p_v1 => ?_)
  have r_v1 := atP_is p_v1
  show aW _ _ _ _ _ _ (46, [some (.ref 130), some (.int (zI fr)), some (.int (zI sd)), some (.int (zI mn)), some (.long al), none, some (.int (zI kd)), some (.int (zI n))], [.int (zI v1), .int (zI n)], es)
  by_cases c2 : v1 ≤ n
  · refine x_cmpT i_47_46 (by unfold i32 iLO iHI; omega) (by unfold i32 iLO iHI; omega) rfl (by simp only [zC, cR]; omega) ?_
    refine x0 (r := (92, [some (.ref 130), some (.int (zI fr)), some (.int (zI sd)), some (.int (zI mn)), some (.long al), none, some (.int (zI kd)), some (.int (zI n))], [.long al], es)) i_47_90 rfl ?_
    refine x_ret (v := some (.long al)) i_47_92 rfl (fun _ => rfl) rfl rfl rfl ?_
    exact K1 v1 p_v1 c2
  · refine x_cmpF i_47_46 (by unfold i32 iLO iHI; omega) (by unfold i32 iLO iHI; omega) rfl (by simp only [zC, cR]; omega) ?_
    refine x0 (r := (51, [some (.ref 130), some (.int (zI fr)), some (.int (zI sd)), some (.int (zI mn)), some (.long al), none, some (.int (zI kd)), some (.int (zI n))], [.long al], es)) i_47_49 rfl ?_
    refine x0 (r := (52, [some (.ref 130), some (.int (zI fr)), some (.int (zI sd)), some (.int (zI mn)), some (.long al), none, some (.int (zI kd)), some (.int (zI n))], [.ref 130, .long al], es)) i_47_51 rfl ?_
    refine x0 (r := (53, [some (.ref 130), some (.int (zI fr)), some (.int (zI sd)), some (.int (zI mn)), some (.long al), none, some (.int (zI kd)), some (.int (zI n))], [.ref 130, .ref 130, .long al], es)) i_47_52 rfl ?_
    refine x_getr (p := 66) (k := 71) i_47_53 hs_es rfl rfl ?_
    show aW _ _ _ _ _ _ (56, [some (.ref 130), some (.int (zI fr)), some (.int (zI sd)), some (.int (zI mn)), some (.long al), none, some (.int (zI kd)), some (.int (zI n))], [.ref 71, .ref 130, .long al], es)
    refine x0 (r := (58, [some (.ref 130), some (.int (zI fr)), some (.int (zI sd)), some (.int (zI mn)), some (.long al), none, some (.int (zI kd)), some (.int (zI n))], [.int (zI kd), .ref 71, .ref 130, .long al], es)) i_47_56 rfl ?_
    refine x0 (r := (60, [some (.ref 130), some (.int (zI fr)), some (.int (zI sd)), some (.int (zI mn)), some (.long al), none, some (.int (zI kd)), some (.int (zI n))], [.int (zI n), .int (zI kd), .ref 71, .ref 130, .long al], es)) i_47_58 rfl ?_
    refine x0 (r := (61, [some (.ref 130), some (.int (zI fr)), some (.int (zI sd)), some (.int (zI mn)), some (.long al), none, some (.int (zI kd)), some (.int (zI n))], [.int (zI 0), .int (zI n), .int (zI kd), .ref 71, .ref 130, .long al], es)) i_47_60 (by rfl) ?_
    refine x_call (vs := [.ref 71, .int (zI kd), .int (zI n), .int (zI 0)]) (rs := [.ref 130, .long al]) i_47_61 rfl (fun _ => rfl) rfl rfl rfl rfl rfl (pCall_v (p := 7) hs_es rfl rfl rfl rfl rfl (by decide) rfl rfl rfl rfl rfl) ?_
    show aW _ _ _ _ _ _ (0, [some (.ref 71), some (.int (zI kd)), some (.int (zI n)), some (.int (zI 0))], [], es)
    refine x0 (r := (1, [some (.ref 71), some (.int (zI kd)), some (.int (zI n)), some (.int (zI 0))], [.ref 71], es)) i_50_0 rfl ?_
    refine x_getr (p := 7) (k := 74) i_50_1 hs_es rfl rfl ?_
    show aW _ _ _ _ _ _ (4, [some (.ref 71), some (.int (zI kd)), some (.int (zI n)), some (.int (zI 0))], [.ref 74], es)
    refine x0 (r := (5, [some (.ref 71), some (.int (zI kd)), some (.int (zI n)), some (.int (zI 0))], [.int (zI kd), .ref 74], es)) i_50_4 rfl ?_
    refine x0 (r := (7, [some (.ref 71), some (.int (zI kd)), some (.int (zI n)), some (.int (zI 0))], [.int (zI 6), .int (zI kd), .ref 74], es)) i_50_5 (by rfl) ?_
    refine x_imul i_50_7 ?_
    refine x0 (r := (9, [some (.ref 71), some (.int (zI kd)), some (.int (zI n)), some (.int (zI 0))], [.int (zI n), .int (zI (kd * 6)), .ref 74], es)) i_50_8 rfl ?_
    refine x_iadd i_50_9 ?_
    refine x0 (r := (11, [some (.ref 71), some (.int (zI kd)), some (.int (zI n)), some (.int (zI 0))], [.int (zI 2), .int (zI ((kd * 6) + n)), .ref 74], es)) i_50_10 (by rfl) ?_
    refine x_imul i_50_11 ?_
    refine x0 (r := (13, [some (.ref 71), some (.int (zI kd)), some (.int (zI n)), some (.int (zI 0))], [.int (zI 0), .int (zI (((kd * 6) + n) * 2)), .ref 74], es)) i_50_12 rfl ?_
    refine x_iadd i_50_13 ?_
    refine x_call (vs := [.ref 74, .int (zI ((((kd * 6) + n) * 2) + 0))]) (rs := []) i_50_14 rfl (fun _ => rfl) rfl rfl rfl rfl rfl rfl ?_
    show aW _ _ _ _ _ _ (0, [some (.ref 74), some (.int (zI ((((kd * 6) + n) * 2) + 0)))], [], es)
    refine at_sp (p := 10) rfl hs_es (by omega) (by omega) (by decide) (fun v3 p_v3 => ?_)
    have r_v3 := atP_is p_v3
    show aW _ _ _ _ _ _ (17, [some (.ref 71), some (.int (zI kd)), some (.int (zI n)), some (.int (zI 0))], [.int (zI v3)], es)
    refine x_ret (v := some (.int (zI v3))) i_50_17 rfl (fun _ => rfl) rfl rfl rfl ?_
    show aW _ _ _ _ _ _ (64, [some (.ref 130), some (.int (zI fr)), some (.int (zI sd)), some (.int (zI mn)), some (.long al), none, some (.int (zI kd)), some (.int (zI n))], [.int (zI v3), .ref 130, .long al], es)
    refine x0 (r := (65, [some (.ref 130), some (.int (zI fr)), some (.int (zI sd)), some (.int (zI mn)), some (.long al), none, some (.int (zI kd)), some (.int (zI n))], [.ref 130, .int (zI v3), .ref 130, .long al], es)) i_47_64 rfl ?_
    refine x_getr (p := 66) (k := 71) i_47_65 hs_es rfl rfl ?_
    show aW _ _ _ _ _ _ (68, [some (.ref 130), some (.int (zI fr)), some (.int (zI sd)), some (.int (zI mn)), some (.long al), none, some (.int (zI kd)), some (.int (zI n))], [.ref 71, .int (zI v3), .ref 130, .long al], es)
    refine x0 (r := (70, [some (.ref 130), some (.int (zI fr)), some (.int (zI sd)), some (.int (zI mn)), some (.long al), none, some (.int (zI kd)), some (.int (zI n))], [.int (zI kd), .ref 71, .int (zI v3), .ref 130, .long al], es)) i_47_68 rfl ?_
    refine x0 (r := (72, [some (.ref 130), some (.int (zI fr)), some (.int (zI sd)), some (.int (zI mn)), some (.long al), none, some (.int (zI kd)), some (.int (zI n))], [.int (zI n), .int (zI kd), .ref 71, .int (zI v3), .ref 130, .long al], es)) i_47_70 rfl ?_
    refine x0 (r := (73, [some (.ref 130), some (.int (zI fr)), some (.int (zI sd)), some (.int (zI mn)), some (.long al), none, some (.int (zI kd)), some (.int (zI n))], [.int (zI 1), .int (zI n), .int (zI kd), .ref 71, .int (zI v3), .ref 130, .long al], es)) i_47_72 (by rfl) ?_
    refine x_call (vs := [.ref 71, .int (zI kd), .int (zI n), .int (zI 1)]) (rs := [.int (zI v3), .ref 130, .long al]) i_47_73 rfl (fun _ => rfl) rfl rfl rfl rfl rfl (pCall_v (p := 7) hs_es rfl rfl rfl rfl rfl (by decide) rfl rfl rfl rfl rfl) ?_
    show aW _ _ _ _ _ _ (0, [some (.ref 71), some (.int (zI kd)), some (.int (zI n)), some (.int (zI 1))], [], es)
    refine x0 (r := (1, [some (.ref 71), some (.int (zI kd)), some (.int (zI n)), some (.int (zI 1))], [.ref 71], es)) i_50_0 rfl ?_
    refine x_getr (p := 7) (k := 74) i_50_1 hs_es rfl rfl ?_
    show aW _ _ _ _ _ _ (4, [some (.ref 71), some (.int (zI kd)), some (.int (zI n)), some (.int (zI 1))], [.ref 74], es)
    refine x0 (r := (5, [some (.ref 71), some (.int (zI kd)), some (.int (zI n)), some (.int (zI 1))], [.int (zI kd), .ref 74], es)) i_50_4 rfl ?_
    refine x0 (r := (7, [some (.ref 71), some (.int (zI kd)), some (.int (zI n)), some (.int (zI 1))], [.int (zI 6), .int (zI kd), .ref 74], es)) i_50_5 (by rfl) ?_
    refine x_imul i_50_7 ?_
    refine x0 (r := (9, [some (.ref 71), some (.int (zI kd)), some (.int (zI n)), some (.int (zI 1))], [.int (zI n), .int (zI (kd * 6)), .ref 74], es)) i_50_8 rfl ?_
    refine x_iadd i_50_9 ?_
    refine x0 (r := (11, [some (.ref 71), some (.int (zI kd)), some (.int (zI n)), some (.int (zI 1))], [.int (zI 2), .int (zI ((kd * 6) + n)), .ref 74], es)) i_50_10 (by rfl) ?_
    refine x_imul i_50_11 ?_
    refine x0 (r := (13, [some (.ref 71), some (.int (zI kd)), some (.int (zI n)), some (.int (zI 1))], [.int (zI 1), .int (zI (((kd * 6) + n) * 2)), .ref 74], es)) i_50_12 rfl ?_
    refine x_iadd i_50_13 ?_
    refine x_call (vs := [.ref 74, .int (zI ((((kd * 6) + n) * 2) + 1))]) (rs := []) i_50_14 rfl (fun _ => rfl) rfl rfl rfl rfl rfl rfl ?_
    show aW _ _ _ _ _ _ (0, [some (.ref 74), some (.int (zI ((((kd * 6) + n) * 2) + 1)))], [], es)
    refine at_sp (p := 10) rfl hs_es (by omega) (by omega) (by decide) (fun v4 p_v4 => ?_)
    have r_v4 := atP_is p_v4
    show aW _ _ _ _ _ _ (17, [some (.ref 71), some (.int (zI kd)), some (.int (zI n)), some (.int (zI 1))], [.int (zI v4)], es)
    refine x_ret (v := some (.int (zI v4))) i_50_17 rfl (fun _ => rfl) rfl rfl rfl ?_
    show aW _ _ _ _ _ _ (76, [some (.ref 130), some (.int (zI fr)), some (.int (zI sd)), some (.int (zI mn)), some (.long al), none, some (.int (zI kd)), some (.int (zI n))], [.int (zI v4), .int (zI v3), .ref 130, .long al], es)
    refine x0 (r := (77, [some (.ref 130), some (.int (zI fr)), some (.int (zI sd)), some (.int (zI mn)), some (.long al), none, some (.int (zI kd)), some (.int (zI n))], [.int (zI fr), .int (zI v4), .int (zI v3), .ref 130, .long al], es)) i_47_76 rfl ?_
    refine x0 (r := (78, [some (.ref 130), some (.int (zI fr)), some (.int (zI sd)), some (.int (zI mn)), some (.long al), none, some (.int (zI kd)), some (.int (zI n))], [.int (zI sd), .int (zI fr), .int (zI v4), .int (zI v3), .ref 130, .long al], es)) i_47_77 rfl ?_
    exact K2 v1 p_v1 c2 v3 p_v3 v4 p_v4
theorem s_roA81 {O : pOut} {d kc ks : Nat} {Q : pRes → Prop} {es : PH} {al re : Int64} {fr sd mn kd n : Int} (hs_es : sh es) (h3 : 0 ≤ fr ∧ fr ≤ 35) (h4 : 0 ≤ sd ∧ sd ≤ 1) (h6 : 0 ≤ n ∧ n ≤ 6) (hT_es : hOK tT es)
    (K1 : ∀ w1 : Int64, w1 = al ||| re → aW O d 47 kc ks Q (32, [some (.ref 130), some (.int (zI fr)), some (.int (zI sd)), some (.int (zI mn)), some (.long w1), none, some (.int (zI kd)), some (.int (zI (n + 1)))], [], es)) :
    aW O d 47 kc ks Q (81, [some (.ref 130), some (.int (zI fr)), some (.int (zI sd)), some (.int (zI mn)), some (.long al), none, some (.int (zI kd)), some (.int (zI n))], [.long re, .long al], es) := by
  refine x0 (r := (82, [some (.ref 130), some (.int (zI fr)), some (.int (zI sd)), some (.int (zI mn)), some (.long al), none, some (.int (zI kd)), some (.int (zI n))], [.long (al ||| re)], es)) i_47_81 rfl ?_
  obtain ⟨w1, e_w1⟩ : ∃ z : Int64, z = al ||| re := ⟨_, rfl⟩
  rw [← e_w1]
  refine x0 (r := (84, [some (.ref 130), some (.int (zI fr)), some (.int (zI sd)), some (.int (zI mn)), some (.long w1), none, some (.int (zI kd)), some (.int (zI n))], [], es)) i_47_82 rfl ?_
  refine x_iinc (x := n) i_47_84 rfl (by show 7 < 8; decide) ?_
  show aW _ _ _ _ _ _ (87, [some (.ref 130), some (.int (zI fr)), some (.int (zI sd)), some (.int (zI mn)), some (.long w1), none, some (.int (zI kd)), some (.int (zI (n + 1)))], [], es)
  refine x0 (r := (32, [some (.ref 130), some (.int (zI fr)), some (.int (zI sd)), some (.int (zI mn)), some (.long w1), none, some (.int (zI kd)), some (.int (zI (n + 1)))], [], es)) i_47_87 rfl ?_
  exact K1 w1 e_w1
section
variable {O : pOut} {d kc ks : Nat} {Q : pRes → Prop} {es : PH} {B : Nat → Int} {go : Nat → Int32} {so ln : Nat}
theorem rb_inA {sr fa fr sd i : Int} (hT : hOK tT es) (hB : bdC B 67 es) (ho64 : so < 64) (ho : O so = some (ln, go)) (hg : ∀ j, -2 ≤ (go j).toInt ∧ (go j).toInt ≤ 2) (h1 : -16 ≤ sr ∧ sr ≤ -12) (h2 : 0 ≤ fa ∧ fa ≤ 5) (h3 : 0 ≤ fr ∧ fr ≤ 35) (h4 : 0 ≤ sd ∧ sd ≤ 1) (h5 : 0 ≤ i ∧ i ≤ 20) (hi1 : i + 1 < (ln : Int)) : ∀ (m : Nat) (n rk fi : Int) (s : Nat) (al : Int64), n + (m : Int) = fa → 0 ≤ n → 0 ≤ rk → rk ≤ 5 → 0 ≤ fi → fi ≤ 5 → (s : Int) = 6 * rk + fi →
    (∀ (al' : Int64) (rk' fi' be' n' : Int), (∀ t, lbit al' t = (lbit al t || zRay B (zMode (-12 - sr)) sd (go (i + 1).toNat).toInt (go i.toNat).toInt m s t)) → aW O (d + 1) 51 kc ks Q (172, [some (.ref 130), some (.int (zI sr)), some (.int (zI fa)), some (.int (zI fr)), some (.int (zI sd)), some (.ref so), some (.long al'), none, some (.int (zI i)), some (.int (zI rk')), some (.int (zI fi')), some (.int (zI be')), some (.int (zI n'))], [], es)) →
    aW O (d + 1) 51 kc ks Q (42, [some (.ref 130), some (.int (zI sr)), some (.int (zI fa)), some (.int (zI fr)), some (.int (zI sd)), some (.ref so), some (.long al), none, some (.int (zI i)), some (.int (zI rk)), some (.int (zI fi)), some (.int (zI 0)), some (.int (zI n))], [], es) := by
  intro m
  induction m with
  | zero =>
    intro n rk fi s al hn h0 r0 r1 f0 f1 hs K
    have K1 := K al rk fi 0 n (fun t => by rw [show zRay B (zMode (-12 - sr)) sd (go (i + 1).toNat).toInt (go i.toNat).toInt 0 s t = false from rfl, Bool.or_false])
    have hc : ¬ ¬ fa ≤ n := by omega
    exact s_rbA42 (d := d) (sh_of hT) ho64 ho hg h1 h2 h3 h4 h5 hi1 ⟨by omega, by omega⟩ ⟨by omega, by omega⟩ ⟨by omega, by omega⟩ ⟨by omega, by omega⟩ hT (fun _ => K1) (fun c => absurd c hc) (fun c => absurd c hc) (fun c => absurd c hc) (fun c => absurd c hc) (fun c => absurd c hc) (fun c => absurd c hc) (fun c => absurd c hc) (fun c => absurd c hc) (fun c => absurd c hc) (fun c => absurd c hc) (fun c => absurd c hc)
  | succ m ih =>
    intro n rk fi s al hn h0 r0 r1 f0 f1 hs K
    -- where a man stands there one stops
    have stopped : ∀ (al' : Int64) (rk' fi' be' : Int), -2 ≤ rk' ∧ rk' ≤ 7 → -2 ≤ fi' ∧ fi' ≤ 7 → 0 ≤ be' ∧ be' ≤ 10 → ¬ be' = 0 → (∀ t, lbit al' t = (lbit al t || zRay B (zMode (-12 - sr)) sd (go (i + 1).toNat).toInt (go i.toNat).toInt (m + 1) s t)) → aW O (d + 1) 51 kc ks Q (42, [some (.ref 130), some (.int (zI sr)), some (.int (zI fa)), some (.int (zI fr)), some (.int (zI sd)), some (.ref so), some (.long al'), none, some (.int (zI i)), some (.int (zI rk')), some (.int (zI fi')), some (.int (zI be')), some (.int (zI (n + 1)))], [], es) := by
      intro al' rk' fi' be' b1 b2 b3 b4 hb
      have K1 := K al' rk' fi' be' (n + 1) hb
      have hc : ¬ ¬ be' ≠ 0 := fun h => h b4
      exact s_rbA42 (d := d) (sh_of hT) ho64 ho hg h1 h2 h3 h4 h5 hi1 b1 b2 b3 ⟨by omega, by omega⟩ hT (fun _ => K1) (fun _ _ => K1) (fun _ c => absurd c hc) (fun _ c => absurd c hc) (fun _ c => absurd c hc) (fun _ c => absurd c hc) (fun _ c => absurd c hc) (fun _ c => absurd c hc) (fun _ c => absurd c hc) (fun _ c => absurd c hc) (fun _ c => absurd c hc) (fun _ c => absurd c hc)
    have hz := zOff_in (df := (go (i + 1).toNat).toInt) (dr := (go i.toNat).toInt) hs r0 r1 f0 f1
    have out : zOff s (go (i + 1).toNat).toInt (go i.toNat).toInt < 0 → ∀ rk' fi' be' n', aW O (d + 1) 51 kc ks Q (172, [some (.ref 130), some (.int (zI sr)), some (.int (zI fa)), some (.int (zI fr)), some (.int (zI sd)), some (.ref so), some (.long al), none, some (.int (zI i)), some (.int (zI rk')), some (.int (zI fi')), some (.int (zI be')), some (.int (zI n'))], [], es) := fun h rk' fi' be' n' => K al rk' fi' be' n' (fun t => by rw [zRay_out h, Bool.or_false])
    have inn : ∀ {v3 v4 v9 : Int}, v3 = (go i.toNat).toInt → v4 = (go (i + 1).toNat).toInt → ¬ rk + v3 < 0 → ¬ 6 ≤ rk + v3 → ¬ fi + v4 < 0 → fi + v4 < 6 → atP 67 (6 * (rk + v3) + (fi + v4)) es v9 → ∃ o : Nat, (o : Int) = 6 * (rk + v3) + (fi + v4) ∧ o < 36 ∧ zOff s (go (i + 1).toNat).toInt (go i.toNat).toInt = (o : Int) ∧ v9 = B o + 1 ∧ -1 ≤ B o ∧ B o ≤ 9 := by
      intro v3 v4 v9 e3 e4 c1 c2 c3 c4 p9
      refine ⟨(6 * (rk + v3) + (fi + v4)).toNat, by omega, by omega, ?_, ?_⟩
      · rw [hz, ← e3, ← e4, if_pos ⟨by omega, by omega, by omega, by omega⟩]
        omega
      · have h9 := hB (6 * (rk + v3) + (fi + v4)).toNat (by omega)
        unfold atP at p9
        exact ⟨by rw [p9]; exact h9.1, h9.2⟩
    refine s_rbA42 (d := d) (sh_of hT) ho64 ho hg h1 h2 h3 h4 h5 hi1 ⟨by omega, by omega⟩ ⟨by omega, by omega⟩ ⟨by omega, by omega⟩ ⟨by omega, by omega⟩ hT (fun c => absurd c (by omega)) (fun _ c => absurd rfl c) (fun _ _ v3 e3 v4 e4 c5 => ?_) (fun _ _ v3 e3 v4 e4 c5 c6 => ?_) (fun _ _ v3 e3 v4 e4 c5 c6 c7 => ?_) (fun _ _ v3 e3 v4 e4 c5 c6 c7 c8 v9 p9 c10 c11 => ?_) (fun _ _ v3 e3 v4 e4 c5 c6 c7 c8 v9 p9 c10 c11 c12 => ?_) (fun _ _ v3 e3 v4 e4 c5 c6 c7 c8 v9 p9 c10 c11 c12 v13 e13 c14 => ?_) (fun _ _ v3 e3 v4 e4 c5 c6 c7 c8 v9 p9 c10 c11 c12 v13 e13 c14 w15 e15 w16 e16 => ?_) (fun _ _ v3 e3 v4 e4 c5 c6 c7 c8 v9 p9 c10 c17 => ?_) (fun _ _ v3 e3 v4 e4 c5 c6 c7 c8 v9 p9 c10 c17 w18 e18 w19 e19 => ?_) (fun _ _ v3 e3 v4 e4 c5 c6 c7 c8 => ?_)
    · exact out (by rw [hz, if_neg (by omega)]; omega) _ _ _ _
    · exact out (by rw [hz, if_neg (by omega)]; omega) _ _ _ _
    · exact out (by rw [hz, if_neg (by omega)]; omega) _ _ _ _
    · obtain ⟨o, o1, o2, o3, o4, o5, o6⟩ := inn e3 e4 c5 c6 c7 c8 p9
      refine stopped al _ _ v9 ⟨by omega, by omega⟩ ⟨by omega, by omega⟩ ⟨by omega, by omega⟩ c10 (fun t => ?_)
      rw [zRay_man o3 (by omega), c11, zMode_14]
      simp
    · obtain ⟨o, o1, o2, o3, o4, o5, o6⟩ := inn e3 e4 c5 c6 c7 c8 p9
      exact absurd c12 (by omega)
    · obtain ⟨o, o1, o2, o3, o4, o5, o6⟩ := inn e3 e4 c5 c6 c7 c8 p9
      have hm : v13 = B o % 2 := by rw [e13, and1 (by unfold i32 iLO iHI; omega)]; omega
      refine stopped al _ _ v9 ⟨by omega, by omega⟩ ⟨by omega, by omega⟩ ⟨by omega, by omega⟩ c10 (fun t => ?_)
      rw [zRay_man o3 (by omega), decide_eq_false (show ¬ B o % 2 ≠ sd by omega)]
      simp
    · obtain ⟨o, o1, o2, o3, o4, o5, o6⟩ := inn e3 e4 c5 c6 c7 c8 p9
      have hm : v13 = B o % 2 := by rw [e13, and1 (by unfold i32 iLO iHI; omega)]; omega
      refine stopped w16 _ _ v9 ⟨by omega, by omega⟩ ⟨by omega, by omega⟩ ⟨by omega, by omega⟩ c10 (fun t => ?_)
      rw [e16, lbit_or, e15, lbit_sh (by omega) (by omega), show (6 * (rk + v3) + (fi + v4)).toNat = o by omega, zRay_man o3 (by omega), zMode_n c11, decide_eq_true (show B o % 2 ≠ sd by omega)]
      simp
    · obtain ⟨o, o1, o2, o3, o4, o5, o6⟩ := inn e3 e4 c5 c6 c7 c8 p9
      have hv : v9 = 0 := by omega
      subst hv
      refine ih (n + 1) (rk + v3) (fi + v4) o al (by omega) (by omega) (by omega) (by omega) (by omega) (by omega) o1 (fun al' rk' fi' be' n' hb => K al' rk' fi' be' n' (fun t => ?_))
      rw [hb t, zRay_free o3 (by omega), c17, zMode_16]
      simp
    · obtain ⟨o, o1, o2, o3, o4, o5, o6⟩ := inn e3 e4 c5 c6 c7 c8 p9
      have hv : v9 = 0 := by omega
      subst hv
      refine ih (n + 1) (rk + v3) (fi + v4) o w19 (by omega) (by omega) (by omega) (by omega) (by omega) (by omega) o1 (fun al' rk' fi' be' n' hb => K al' rk' fi' be' n' (fun t => ?_))
      rw [hb t, e19, lbit_or, e18, lbit_sh (by omega) (by omega), show (6 * (rk + v3) + (fi + v4)).toNat = o by omega, zRay_free o3 (by omega), zMode_m c17, Bool.and_true, Bool.or_assoc]
    · exact out (by rw [hz, if_neg (by omega)]; omega) _ _ _ _
end
section
variable {d kc ks : Nat} {Q : pRes → Prop} {es : PH} {B : Nat → Int} {xs : Nat → Int32} {N : Nat}
theorem rb_loopA {sr fa fr sd : Int} {k : Nat} (hT : hOK tT es) (hB : bdC B 67 es) (hk : k < 7) (h1 : -16 ≤ sr ∧ sr ≤ -12) (h2 : 0 ≤ fa ∧ fa ≤ 5) (h3 : 0 ≤ fr ∧ fr ≤ 35) (h4 : 0 ≤ sd ∧ sd ≤ 1) : ∀ (m i : Nat) (al : Int64) (x9 x10 x11 x12 : Option Value), i + 2 * m = (pSteps.getD k []).length → i + 2 * m ≤ 16 → (∀ al' : Int64, (∀ t, lbit al' t = (lbit al t || zAny B (zMode (-12 - sr)) sd (stpR k) fa.toNat fr.toNat m i t)) → Q (.inl (some (.long al')), es, kc, ks)) → aW (pO0 xs N) (d + 1) 51 kc ks Q (14, [some (.ref 130), some (.int (zI sr)), some (.int (zI fa)), some (.int (zI fr)), some (.int (zI sd)), some (.ref k), some (.long al), none, some (.int (zI (i : Int))), x9, x10, x11, x12], [], es) := by
  intro m
  induction m with
  | zero =>
    intro i al x9 x10 x11 x12 hm h16 K
    exact s_rbA14 (d := d + 1) (go := stpR k) (ln := (pSteps.getD k []).length) (sh_of hT) (by omega) (stp_at hk) (stp_bd hk) h1 h2 h3 h4 ⟨by omega, by omega⟩ (by omega) hT (fun _ => K al (fun t => by rw [show zAny B (zMode (-12 - sr)) sd (stpR k) fa.toNat fr.toNat 0 i t = false from rfl, Bool.or_false])) (fun c => absurd (by omega) c)
  | succ m ih =>
    intro i al x9 x10 x11 x12 hm h16 K
    have e2 : ((i + 2 : Nat) : Int) = (i : Int) + 2 := by omega
    have i1 : ((i : Int) + 1).toNat = i + 1 := by omega
    have i0 : ((i : Int)).toNat = i := by omega
    refine s_rbA14 (d := d + 1) (go := stpR k) (ln := (pSteps.getD k []).length) (sh_of hT) (by omega) (stp_at hk) (stp_bd hk) h1 h2 h3 h4 ⟨by omega, by omega⟩ (by omega) hT (fun c => absurd c (by omega)) (fun _ => ?_)
    refine rb_inA (d := d) (B := B) (go := stpR k) (ln := (pSteps.getD k []).length) hT hB (by omega) (stp_at hk) (stp_bd hk) h1 h2 h3 h4 ⟨by omega, by omega⟩ (by omega) fa.toNat 0 (fr / 6) (fr % 6) fr.toNat al (by omega) (by omega) (by omega) (by omega) (by omega) (by omega) (by omega) (fun al' rk' fi' be' n' hb => ?_)
    refine s_rbA172 (d := d + 1) (sh_of hT) hT ?_
    have h9 := ih (i + 2) al' (some (.int (zI rk'))) (some (.int (zI fi'))) (some (.int (zI be'))) (some (.int (zI n'))) (by omega) (by omega) (fun al2 hb2 => K al2 (fun t => by rw [hb2 t, hb t, zAny_s, i1, i0, Bool.or_assoc]))
    rw [e2] at h9
    exact h9
theorem rb_specA {sr fa fr sd : Int} (hT : hOK tT es) (hB : bdC B 67 es) (h1 : -16 ≤ sr ∧ sr ≤ -12) (h2 : 0 ≤ fa ∧ fa ≤ 5) (h3 : 0 ≤ fr ∧ fr ≤ 35) (h4 : 0 ≤ sd ∧ sd ≤ 1) (K : ∀ al : Int64, (∀ t, lbit al t = zLn B sd (-12 - sr) fa.toNat fr.toNat t) → Q (.inl (some (.long al)), es, kc, ks)) : aW (pO0 xs N) (d + 1) 51 kc ks Q (0, [some (.ref 130), some (.int (zI sr)), some (.int (zI fa)), some (.int (zI fr)), some (.int (zI sd)), none, none, none, none, none, none, none, none], [], es) := by
  have go : ∀ (k m : Nat), k < 7 → 2 * m = (pSteps.getD k []).length → 2 * m ≤ 16 → (∀ t, zAny B (zMode (-12 - sr)) sd (stpR k) fa.toNat fr.toNat m 0 t = zLn B sd (-12 - sr) fa.toNat fr.toNat t) → aW (pO0 xs N) (d + 1) 51 kc ks Q (14, [some (.ref 130), some (.int (zI sr)), some (.int (zI fa)), some (.int (zI fr)), some (.int (zI sd)), some (.ref k), some (.long (Int64.ofNat 0)), none, some (.int (zI 0)), none, none, none, none], [], es) := by
    intro k m hk hm h16 hz
    exact rb_loopA (d := d) hT hB hk h1 h2 h3 h4 m 0 (Int64.ofNat 0) none none none none (by omega) (by omega) (fun al' hb => K al' (fun t => by rw [hb t, lbit_0, Bool.false_or, hz t]))
  refine s_rbA0 (d := d) (sh_of hT) h1 h2 h3 h4 hT (fun c1 => ?_) (fun c1 c2 c3 => ?_) (fun c1 c2 c3 => ?_) (fun c1 c2 c3 => ?_) (fun c1 c2 c3 c4 => ?_) (fun c1 c2 c3 c4 c5 => ?_) (fun c1 c2 c3 c4 c5 => ?_)
  · exact go 2 8 (by omega) rfl (by omega) (fun t => by rw [c1]; exact zLn_15)
  · exact go 4 1 (by omega) rfl (by omega) (fun t => by rw [c2, show sd = 1 by omega]; exact zLn_14b)
  · exact go 3 1 (by omega) rfl (by omega) (fun t => by rw [c2, show sd = 0 by omega]; exact zLn_14a)
  · exact go 1 4 (by omega) rfl (by omega) (fun t => by rw [c3]; exact zLn_13)
  · exact go 0 4 (by omega) rfl (by omega) (fun t => by rw [c4]; exact zLn_12)
  · exact go 6 2 (by omega) rfl (by omega) (fun t => by rw [show sr = -16 by omega, show sd = 1 by omega]; exact zLn_16b)
  · exact go 5 2 (by omega) rfl (by omega) (fun t => by rw [show sr = -16 by omega, show sd = 0 by omega]; exact zLn_16a)
theorem ro_loopA {K : Nat → Nat × (Nat → Int × Nat)} {fr sd mn : Int} {k : Nat} (hT : hOK tT es) (hB : bdC B 67 es) (hK : kdC K 9 10 es) (hk : k < 5) (h3 : 0 ≤ fr ∧ fr ≤ 35) (h4 : 0 ≤ sd ∧ sd ≤ 1) (hQ : ∀ al : Int64, (∀ t, lbit al t = zLns B sd (K k).2 (K k).1 fr.toNat t) → Q (.inl (some (.long al)), es, kc, ks)) : ∀ (m n : Nat) (al : Int64), n + m = (K k).1 → (∀ t, lbit al t = zLns B sd (K k).2 n fr.toNat t) → aW (pO0 xs N) (d + 3) 47 kc ks Q (32, [some (.ref 130), some (.int (zI fr)), some (.int (zI sd)), some (.int (zI mn)), some (.long al), none, some (.int (zI (k : Int))), some (.int (zI (n : Int)))], [], es) := by
  obtain ⟨k1, k2, k3⟩ := hK k hk
  have kt : ((k : Int)).toNat = k := by omega
  intro m
  induction m with
  | zero =>
    intro n al hn hal
    rw [Nat.add_zero] at hn
    subst hn
    refine s_roA32 (d := d + 1) (sh_of hT) h3 h4 ⟨by omega, by omega⟩ ⟨by omega, by omega⟩ (by rw [kt, k1]; omega) hT (fun v1 p1 c1 => hQ al hal) (fun v1 p1 c1 => absurd ?_ c1)
    unfold atP at p1
    rw [p1, kt, k1]
    exact Int.le_refl _
  | succ m ih =>
    intro n al hn hal
    have hlt : n < (K k).1 := by omega
    obtain ⟨l1, l2, l3, l4, l5⟩ := k3 n hlt
    have e1 : ((n + 1 : Nat) : Int) = (n : Int) + 1 := by omega
    refine s_roA32 (d := d + 1) (sh_of hT) h3 h4 ⟨by omega, by omega⟩ ⟨by omega, by omega⟩ (by rw [kt, k1]; omega) hT (fun v1 p1 c1 => absurd c1 ?_) (fun v1 p1 c1 v3 p3 v4 p4 => ?_)
    · unfold atP at p1
      rw [p1, kt, k1]
      omega
    · have e3 : v3 = -12 - ((K k).2 n).1 := by
        unfold atP at p3
        rw [p3, show ((((k : Int) * 6 + (n : Int)) * 2) + 0).toNat = 12 * k + 2 * n by omega]
        exact l1
      have e4 : v4 = (((K k).2 n).2 : Int) := by
        unfold atP at p4
        rw [p4, show ((((k : Int) * 6 + (n : Int)) * 2) + 1).toNat = 12 * k + 2 * n + 1 by omega]
        exact l2
      refine x_call (vs := [.ref 130, .int (zI v3), .int (zI v4), .int (zI fr), .int (zI sd)]) (rs := [.long al]) i_47_78 rfl (fun _ => rfl) rfl rfl rfl rfl rfl (pCall_v (p := 66) (sh_of hT) rfl rfl rfl rfl rfl (by decide) rfl rfl rfl rfl rfl) ?_
      show aW _ _ _ _ _ _ (0, [some (.ref 130), some (.int (zI v3)), some (.int (zI v4)), some (.int (zI fr)), some (.int (zI sd)), none, none, none, none, none, none, none, none], [], es)
      refine rb_specA (d := d + 1) hT hB ⟨by omega, by omega⟩ ⟨by omega, by omega⟩ h3 h4 (fun re hre => ?_)
      show aW _ _ _ _ _ _ (81, [some (.ref 130), some (.int (zI fr)), some (.int (zI sd)), some (.int (zI mn)), some (.long al), none, some (.int (zI (k : Int))), some (.int (zI (n : Int)))], [.long re, .long al], es)
      refine s_roA81 (d := d + 3) (sh_of hT) h3 h4 ⟨by omega, by omega⟩ hT (fun w1 e_w1 => ?_)
      have h9 := ih (n + 1) w1 (by omega) (fun t => by
        rw [e_w1, lbit_or, hal t, hre t, e3, e4, show -12 - (-12 - ((K k).2 n).1) = ((K k).2 n).1 by omega, Int.toNat_natCast]
        rfl)
      rw [e1] at h9
      exact h9
theorem ro_specA {K : Nat → Nat × (Nat → Int × Nat)} {fr sd : Int} (hT : hOK tT es) (hB : bdC B 67 es) (hK : kdC K 9 10 es) (h3 : 0 ≤ fr ∧ fr ≤ 35) (h4 : 0 ≤ sd ∧ sd ≤ 1) (hQ : ∀ al : Int64, (∀ t, lbit al t = zGo B K sd fr.toNat t) → Q (.inl (some (.long al)), es, kc, ks)) : aW (pO0 xs N) (d + 3) 47 kc ks Q (0, [some (.ref 130), some (.int (zI fr)), some (.int (zI sd)), none, none, none, none, none], [], es) := by
  obtain ⟨b1, b2, b3⟩ := hB fr.toNat (by omega)
  refine s_roA0 (d := d + 2) (sh_of hT) h3 h4 ⟨by omega, by omega⟩ hT (fun v1 p1 c1 => hQ _ (fun t => ?_)) (fun v1 p1 c1 v3 e3 c3 => hQ _ (fun t => ?_)) (fun v1 p1 c1 v3 e3 c3 v5 e5 => ?_)
  all_goals unfold atP at p1
  · rw [lbit_0]
    unfold zGo
    rw [decide_eq_false (by omega), Bool.false_and]
  · rw [and1 (by unfold i32 iLO iHI; omega)] at e3
    rw [lbit_0]
    unfold zGo
    rw [decide_eq_false (show ¬ B fr.toNat % 2 = sd by omega), Bool.false_and, Bool.and_false]
  · rw [and1 (by unfold i32 iLO iHI; omega)] at e3
    rw [shr1 (by omega) (by omega)] at e5
    have hv5 : v5 = ((B fr.toNat / 2).toNat : Int) := by omega
    rw [hv5]
    refine ro_loopA (d := d) (B := B) (K := K) (k := (B fr.toNat / 2).toNat) hT hB hK (by omega) h3 h4 (fun al hal => hQ al (fun t => ?_)) _ 0 _ (Nat.zero_add _) (fun t => by rw [lbit_0]; rfl)
    rw [hal t]
    unfold zGo
    rw [decide_eq_true (show 0 ≤ B fr.toNat by omega), decide_eq_true (show B fr.toNat % 2 = sd by omega), Bool.true_and, Bool.true_and]
end
