/-! a search that is laid out: how many places there are, how deep it goes; by boards -/
theorem i_54_0 : iRow 54 0 = some (.iload 4, 0, 0, 0, (some (Jvm.ClassFile.FieldType.int))) := rfl
theorem i_54_2 : iRow 54 2 = some (.bipush 36, 0, 0, 0, (some (Jvm.ClassFile.FieldType.int))) := rfl
theorem i_54_4 : iRow 54 4 = some (.irem, 0, 0, 0, (some (Jvm.ClassFile.FieldType.int))) := rfl
theorem i_54_5 : iRow 54 5 = some (.istore 6, 0, 0, 0, (some (Jvm.ClassFile.FieldType.int))) := rfl
theorem i_54_7 : iRow 54 7 = some (.aload_n 0, 0, 0, 0, (some (Jvm.ClassFile.FieldType.int))) := rfl
theorem i_54_8 : iRow 54 8 = some (.getfield 24, 88, 4, 0, (some (Jvm.ClassFile.FieldType.int))) := rfl
theorem i_54_11 : iRow 54 11 = some (.iload_n 1, 0, 0, 0, (some (Jvm.ClassFile.FieldType.int))) := rfl
theorem i_54_12 : iRow 54 12 = some (.iload_n 2, 0, 0, 0, (some (Jvm.ClassFile.FieldType.int))) := rfl
theorem i_54_13 : iRow 54 13 = some (.iconst 2, 0, 0, 0, (some (Jvm.ClassFile.FieldType.int))) := rfl
theorem i_54_14 : iRow 54 14 = some (.invokevirtual 81, 50, 43, 1, (some (Jvm.ClassFile.FieldType.int))) := rfl
theorem i_54_17 : iRow 54 17 = some (.iload 6, 0, 0, 0, (some (Jvm.ClassFile.FieldType.int))) := rfl
theorem i_54_19 : iRow 54 19 = some (.bipush 6, 0, 0, 0, (some (Jvm.ClassFile.FieldType.int))) := rfl
theorem i_54_21 : iRow 54 21 = some (.irem, 0, 0, 0, (some (Jvm.ClassFile.FieldType.int))) := rfl
theorem i_54_22 : iRow 54 22 = some (.isub, 0, 0, 0, (some (Jvm.ClassFile.FieldType.int))) := rfl
theorem i_54_23 : iRow 54 23 = some (.istore 7, 0, 0, 0, (some (Jvm.ClassFile.FieldType.int))) := rfl
theorem i_54_25 : iRow 54 25 = some (.iload 7, 0, 0, 0, (some (Jvm.ClassFile.FieldType.int))) := rfl
theorem i_54_27 : iRow 54 27 = some (.iconst (-1), 0, 0, 0, (some (Jvm.ClassFile.FieldType.int))) := rfl
theorem i_54_28 : iRow 54 28 = some (.if_icmp .lt 9, 0, 0, 0, (some (Jvm.ClassFile.FieldType.int))) := rfl
theorem i_54_31 : iRow 54 31 = some (.iload 7, 0, 0, 0, (some (Jvm.ClassFile.FieldType.int))) := rfl
theorem i_54_33 : iRow 54 33 = some (.iconst 1, 0, 0, 0, (some (Jvm.ClassFile.FieldType.int))) := rfl
theorem i_54_34 : iRow 54 34 = some (.if_icmp .le 5, 0, 0, 0, (some (Jvm.ClassFile.FieldType.int))) := rfl
theorem i_54_37 : iRow 54 37 = some (.iconst (-1), 0, 0, 0, (some (Jvm.ClassFile.FieldType.int))) := rfl
theorem i_54_38 : iRow 54 38 = some (.ireturn, 0, 0, 0, (some (Jvm.ClassFile.FieldType.int))) := rfl
theorem i_54_39 : iRow 54 39 = some (.aload_n 0, 0, 0, 0, (some (Jvm.ClassFile.FieldType.int))) := rfl
theorem i_54_40 : iRow 54 40 = some (.getfield 24, 88, 4, 0, (some (Jvm.ClassFile.FieldType.int))) := rfl
theorem i_54_43 : iRow 54 43 = some (.iload_n 1, 0, 0, 0, (some (Jvm.ClassFile.FieldType.int))) := rfl
theorem i_54_44 : iRow 54 44 = some (.iload_n 2, 0, 0, 0, (some (Jvm.ClassFile.FieldType.int))) := rfl
theorem i_54_45 : iRow 54 45 = some (.iconst 1, 0, 0, 0, (some (Jvm.ClassFile.FieldType.int))) := rfl
theorem i_54_46 : iRow 54 46 = some (.invokevirtual 81, 50, 43, 1, (some (Jvm.ClassFile.FieldType.int))) := rfl
theorem i_54_49 : iRow 54 49 = some (.istore 8, 0, 0, 0, (some (Jvm.ClassFile.FieldType.int))) := rfl
theorem i_54_51 : iRow 54 51 = some (.aload_n 0, 0, 0, 0, (some (Jvm.ClassFile.FieldType.int))) := rfl
theorem i_54_52 : iRow 54 52 = some (.getfield 24, 88, 4, 0, (some (Jvm.ClassFile.FieldType.int))) := rfl
theorem i_54_55 : iRow 54 55 = some (.iload_n 1, 0, 0, 0, (some (Jvm.ClassFile.FieldType.int))) := rfl
theorem i_54_56 : iRow 54 56 = some (.iload_n 2, 0, 0, 0, (some (Jvm.ClassFile.FieldType.int))) := rfl
theorem i_54_57 : iRow 54 57 = some (.iconst 3, 0, 0, 0, (some (Jvm.ClassFile.FieldType.int))) := rfl
theorem i_54_58 : iRow 54 58 = some (.invokevirtual 81, 50, 43, 1, (some (Jvm.ClassFile.FieldType.int))) := rfl
theorem i_54_61 : iRow 54 61 = some (.istore 9, 0, 0, 0, (some (Jvm.ClassFile.FieldType.int))) := rfl
theorem i_54_63 : iRow 54 63 = some (.iload 6, 0, 0, 0, (some (Jvm.ClassFile.FieldType.int))) := rfl
theorem i_54_65 : iRow 54 65 = some (.bipush 6, 0, 0, 0, (some (Jvm.ClassFile.FieldType.int))) := rfl
theorem i_54_67 : iRow 54 67 = some (.idiv, 0, 0, 0, (some (Jvm.ClassFile.FieldType.int))) := rfl
theorem i_54_68 : iRow 54 68 = some (.aload_n 0, 0, 0, 0, (some (Jvm.ClassFile.FieldType.int))) := rfl
theorem i_54_69 : iRow 54 69 = some (.getfield 28, 89, 4, 1, (some (Jvm.ClassFile.FieldType.int))) := rfl
theorem i_54_72 : iRow 54 72 = some (.getfield 78, 66, 5, 3, (some (Jvm.ClassFile.FieldType.int))) := rfl
theorem i_54_75 : iRow 54 75 = some (.iload_n 1, 0, 0, 0, (some (Jvm.ClassFile.FieldType.int))) := rfl
theorem i_54_76 : iRow 54 76 = some (.invokestatic 44, 9, 28, 3, (some (Jvm.ClassFile.FieldType.int))) := rfl
theorem i_54_79 : iRow 54 79 = some (.iload 5, 0, 0, 0, (some (Jvm.ClassFile.FieldType.int))) := rfl
theorem i_54_81 : iRow 54 81 = some (.invokestatic 84, 15, 44, 3, (some (Jvm.ClassFile.FieldType.int))) := rfl
theorem i_54_84 : iRow 54 84 = some (.istore 10, 0, 0, 0, (some (Jvm.ClassFile.FieldType.int))) := rfl
theorem i_54_86 : iRow 54 86 = some (.aload_n 0, 0, 0, 0, (some (Jvm.ClassFile.FieldType.int))) := rfl
theorem i_54_87 : iRow 54 87 = some (.getfield 24, 88, 4, 0, (some (Jvm.ClassFile.FieldType.int))) := rfl
theorem i_54_90 : iRow 54 90 = some (.iload_n 1, 0, 0, 0, (some (Jvm.ClassFile.FieldType.int))) := rfl
theorem i_54_91 : iRow 54 91 = some (.iload_n 2, 0, 0, 0, (some (Jvm.ClassFile.FieldType.int))) := rfl
theorem i_54_92 : iRow 54 92 = some (.iconst 0, 0, 0, 0, (some (Jvm.ClassFile.FieldType.int))) := rfl
theorem i_54_93 : iRow 54 93 = some (.invokevirtual 81, 50, 43, 1, (some (Jvm.ClassFile.FieldType.int))) := rfl
theorem i_54_96 : iRow 54 96 = some (.iload_n 3, 0, 0, 0, (some (Jvm.ClassFile.FieldType.int))) := rfl
theorem i_54_97 : iRow 54 97 = some (.if_icmp .ne 7, 0, 0, 0, (some (Jvm.ClassFile.FieldType.int))) := rfl
theorem i_54_100 : iRow 54 100 = some (.iconst 1, 0, 0, 0, (some (Jvm.ClassFile.FieldType.int))) := rfl
theorem i_54_101 : iRow 54 101 = some (.goto 4, 0, 0, 0, (some (Jvm.ClassFile.FieldType.int))) := rfl
theorem i_54_104 : iRow 54 104 = some (.iconst 0, 0, 0, 0, (some (Jvm.ClassFile.FieldType.int))) := rfl
theorem i_54_105 : iRow 54 105 = some (.istore 11, 0, 0, 0, (some (Jvm.ClassFile.FieldType.int))) := rfl
theorem i_54_107 : iRow 54 107 = some (.iload 8, 0, 0, 0, (some (Jvm.ClassFile.FieldType.int))) := rfl
theorem i_54_109 : iRow 54 109 = some (.iconst (-1), 0, 0, 0, (some (Jvm.ClassFile.FieldType.int))) := rfl
theorem i_54_110 : iRow 54 110 = some (.if_icmp .eq 16, 0, 0, 0, (some (Jvm.ClassFile.FieldType.int))) := rfl
theorem i_54_113 : iRow 54 113 = some (.iload 8, 0, 0, 0, (some (Jvm.ClassFile.FieldType.int))) := rfl
theorem i_54_115 : iRow 54 115 = some (.iload 4, 0, 0, 0, (some (Jvm.ClassFile.FieldType.int))) := rfl
theorem i_54_117 : iRow 54 117 = some (.bipush 36, 0, 0, 0, (some (Jvm.ClassFile.FieldType.int))) := rfl
theorem i_54_119 : iRow 54 119 = some (.idiv, 0, 0, 0, (some (Jvm.ClassFile.FieldType.int))) := rfl
theorem i_54_120 : iRow 54 120 = some (.bipush 6, 0, 0, 0, (some (Jvm.ClassFile.FieldType.int))) := rfl
theorem i_54_122 : iRow 54 122 = some (.irem, 0, 0, 0, (some (Jvm.ClassFile.FieldType.int))) := rfl
theorem i_54_123 : iRow 54 123 = some (.if_icmp .ne 7, 0, 0, 0, (some (Jvm.ClassFile.FieldType.int))) := rfl
theorem i_54_126 : iRow 54 126 = some (.iconst 1, 0, 0, 0, (some (Jvm.ClassFile.FieldType.int))) := rfl
theorem i_54_127 : iRow 54 127 = some (.goto 4, 0, 0, 0, (some (Jvm.ClassFile.FieldType.int))) := rfl
theorem i_54_130 : iRow 54 130 = some (.iconst 0, 0, 0, 0, (some (Jvm.ClassFile.FieldType.int))) := rfl
theorem i_54_131 : iRow 54 131 = some (.istore 12, 0, 0, 0, (some (Jvm.ClassFile.FieldType.int))) := rfl
theorem i_54_133 : iRow 54 133 = some (.iload 11, 0, 0, 0, (some (Jvm.ClassFile.FieldType.int))) := rfl
theorem i_54_135 : iRow 54 135 = some (.ifCond .eq 7, 0, 0, 0, (some (Jvm.ClassFile.FieldType.int))) := rfl
theorem i_54_138 : iRow 54 138 = some (.iconst 0, 0, 0, 0, (some (Jvm.ClassFile.FieldType.int))) := rfl
theorem i_54_139 : iRow 54 139 = some (.goto 4, 0, 0, 0, (some (Jvm.ClassFile.FieldType.int))) := rfl
theorem i_54_142 : iRow 54 142 = some (.iconst 1, 0, 0, 0, (some (Jvm.ClassFile.FieldType.int))) := rfl
theorem i_54_143 : iRow 54 143 = some (.iload 12, 0, 0, 0, (some (Jvm.ClassFile.FieldType.int))) := rfl
theorem i_54_145 : iRow 54 145 = some (.ifCond .eq 7, 0, 0, 0, (some (Jvm.ClassFile.FieldType.int))) := rfl
theorem i_54_148 : iRow 54 148 = some (.iconst 0, 0, 0, 0, (some (Jvm.ClassFile.FieldType.int))) := rfl
theorem i_54_149 : iRow 54 149 = some (.goto 4, 0, 0, 0, (some (Jvm.ClassFile.FieldType.int))) := rfl
theorem i_54_152 : iRow 54 152 = some (.iconst 1, 0, 0, 0, (some (Jvm.ClassFile.FieldType.int))) := rfl
theorem i_54_153 : iRow 54 153 = some (.iadd, 0, 0, 0, (some (Jvm.ClassFile.FieldType.int))) := rfl
theorem i_54_154 : iRow 54 154 = some (.iload 7, 0, 0, 0, (some (Jvm.ClassFile.FieldType.int))) := rfl
theorem i_54_156 : iRow 54 156 = some (.ifCond .ne 7, 0, 0, 0, (some (Jvm.ClassFile.FieldType.int))) := rfl
theorem i_54_159 : iRow 54 159 = some (.iconst 0, 0, 0, 0, (some (Jvm.ClassFile.FieldType.int))) := rfl
theorem i_54_160 : iRow 54 160 = some (.goto 4, 0, 0, 0, (some (Jvm.ClassFile.FieldType.int))) := rfl
theorem i_54_163 : iRow 54 163 = some (.iconst 1, 0, 0, 0, (some (Jvm.ClassFile.FieldType.int))) := rfl
theorem i_54_164 : iRow 54 164 = some (.iadd, 0, 0, 0, (some (Jvm.ClassFile.FieldType.int))) := rfl
theorem i_54_165 : iRow 54 165 = some (.iload 9, 0, 0, 0, (some (Jvm.ClassFile.FieldType.int))) := rfl
theorem i_54_167 : iRow 54 167 = some (.iload 10, 0, 0, 0, (some (Jvm.ClassFile.FieldType.int))) := rfl
theorem i_54_169 : iRow 54 169 = some (.if_icmp .ne 7, 0, 0, 0, (some (Jvm.ClassFile.FieldType.int))) := rfl
theorem i_54_172 : iRow 54 172 = some (.iconst 0, 0, 0, 0, (some (Jvm.ClassFile.FieldType.int))) := rfl
theorem i_54_173 : iRow 54 173 = some (.goto 4, 0, 0, 0, (some (Jvm.ClassFile.FieldType.int))) := rfl
theorem i_54_176 : iRow 54 176 = some (.iconst 1, 0, 0, 0, (some (Jvm.ClassFile.FieldType.int))) := rfl
theorem i_54_177 : iRow 54 177 = some (.iadd, 0, 0, 0, (some (Jvm.ClassFile.FieldType.int))) := rfl
theorem i_54_178 : iRow 54 178 = some (.istore 13, 0, 0, 0, (some (Jvm.ClassFile.FieldType.int))) := rfl
theorem i_54_180 : iRow 54 180 = some (.iload 13, 0, 0, 0, (some (Jvm.ClassFile.FieldType.int))) := rfl
theorem i_54_182 : iRow 54 182 = some (.iconst 1, 0, 0, 0, (some (Jvm.ClassFile.FieldType.int))) := rfl
theorem i_54_183 : iRow 54 183 = some (.if_icmp .eq 14, 0, 0, 0, (some (Jvm.ClassFile.FieldType.int))) := rfl
theorem i_54_186 : iRow 54 186 = some (.iload 13, 0, 0, 0, (some (Jvm.ClassFile.FieldType.int))) := rfl
theorem i_54_188 : iRow 54 188 = some (.ifCond .ne 7, 0, 0, 0, (some (Jvm.ClassFile.FieldType.int))) := rfl
theorem i_54_191 : iRow 54 191 = some (.iconst 0, 0, 0, 0, (some (Jvm.ClassFile.FieldType.int))) := rfl
theorem i_54_192 : iRow 54 192 = some (.goto 4, 0, 0, 0, (some (Jvm.ClassFile.FieldType.int))) := rfl
theorem i_54_195 : iRow 54 195 = some (.iconst (-1), 0, 0, 0, (some (Jvm.ClassFile.FieldType.int))) := rfl
theorem i_54_196 : iRow 54 196 = some (.ireturn, 0, 0, 0, (some (Jvm.ClassFile.FieldType.int))) := rfl
theorem i_54_197 : iRow 54 197 = some (.iload 9, 0, 0, 0, (some (Jvm.ClassFile.FieldType.int))) := rfl
theorem i_54_199 : iRow 54 199 = some (.iload 10, 0, 0, 0, (some (Jvm.ClassFile.FieldType.int))) := rfl
theorem i_54_201 : iRow 54 201 = some (.if_icmp .eq 12, 0, 0, 0, (some (Jvm.ClassFile.FieldType.int))) := rfl
theorem i_54_204 : iRow 54 204 = some (.aload_n 0, 0, 0, 0, (some (Jvm.ClassFile.FieldType.int))) := rfl
theorem i_54_205 : iRow 54 205 = some (.iload 9, 0, 0, 0, (some (Jvm.ClassFile.FieldType.int))) := rfl
theorem i_54_207 : iRow 54 207 = some (.iload 10, 0, 0, 0, (some (Jvm.ClassFile.FieldType.int))) := rfl
theorem i_54_209 : iRow 54 209 = some (.invokevirtual 108, 59, 55, 1, (some (Jvm.ClassFile.FieldType.int))) := rfl
theorem i_54_212 : iRow 54 212 = some (.ireturn, 0, 0, 0, (some (Jvm.ClassFile.FieldType.int))) := rfl
theorem i_54_213 : iRow 54 213 = some (.iload 11, 0, 0, 0, (some (Jvm.ClassFile.FieldType.int))) := rfl
theorem i_54_215 : iRow 54 215 = some (.ifCond .ne 7, 0, 0, 0, (some (Jvm.ClassFile.FieldType.int))) := rfl
theorem i_54_218 : iRow 54 218 = some (.iconst 1, 0, 0, 0, (some (Jvm.ClassFile.FieldType.int))) := rfl
theorem i_54_219 : iRow 54 219 = some (.goto 13, 0, 0, 0, (some (Jvm.ClassFile.FieldType.int))) := rfl
theorem i_54_222 : iRow 54 222 = some (.iload 12, 0, 0, 0, (some (Jvm.ClassFile.FieldType.int))) := rfl
theorem i_54_224 : iRow 54 224 = some (.ifCond .ne 7, 0, 0, 0, (some (Jvm.ClassFile.FieldType.int))) := rfl
theorem i_54_227 : iRow 54 227 = some (.iconst 5, 0, 0, 0, (some (Jvm.ClassFile.FieldType.int))) := rfl
theorem i_54_228 : iRow 54 228 = some (.goto 4, 0, 0, 0, (some (Jvm.ClassFile.FieldType.int))) := rfl
theorem i_54_231 : iRow 54 231 = some (.iconst 2, 0, 0, 0, (some (Jvm.ClassFile.FieldType.int))) := rfl
theorem i_54_232 : iRow 54 232 = some (.istore 14, 0, 0, 0, (some (Jvm.ClassFile.FieldType.int))) := rfl
theorem i_54_234 : iRow 54 234 = some (.aload_n 0, 0, 0, 0, (some (Jvm.ClassFile.FieldType.int))) := rfl
theorem i_54_235 : iRow 54 235 = some (.getfield 28, 89, 4, 1, (some (Jvm.ClassFile.FieldType.int))) := rfl
theorem i_54_238 : iRow 54 238 = some (.getfield 70, 70, 5, 4, (some (Jvm.ClassFile.FieldType.int))) := rfl
set_option maxRecDepth 20000 in
theorem i_54_241 : iRow 54 241 = some (.iload 14, 0, 0, 0, (some (Jvm.ClassFile.FieldType.int))) := rfl
set_option maxRecDepth 20000 in
theorem i_54_243 : iRow 54 243 = some (.invokestatic 44, 9, 28, 3, (some (Jvm.ClassFile.FieldType.int))) := rfl
set_option maxRecDepth 20000 in
theorem i_54_246 : iRow 54 246 = some (.ifCond .le 8, 0, 0, 0, (some (Jvm.ClassFile.FieldType.int))) := rfl
set_option maxRecDepth 20000 in
theorem i_54_254 : iRow 54 254 = some (.iconst (-1), 0, 0, 0, (some (Jvm.ClassFile.FieldType.int))) := rfl
set_option maxRecDepth 20000 in
theorem i_54_255 : iRow 54 255 = some (.ireturn, 0, 0, 0, (some (Jvm.ClassFile.FieldType.int))) := rfl
theorem i_55_0 : iRow 55 0 = some (.iload_n 1, 0, 0, 0, (some (Jvm.ClassFile.FieldType.int))) := rfl
theorem i_55_1 : iRow 55 1 = some (.iload_n 2, 0, 0, 0, (some (Jvm.ClassFile.FieldType.int))) := rfl
theorem i_55_2 : iRow 55 2 = some (.isub, 0, 0, 0, (some (Jvm.ClassFile.FieldType.int))) := rfl
theorem i_55_3 : iRow 55 3 = some (.iconst 1, 0, 0, 0, (some (Jvm.ClassFile.FieldType.int))) := rfl
theorem i_55_4 : iRow 55 4 = some (.if_icmp .eq 10, 0, 0, 0, (some (Jvm.ClassFile.FieldType.int))) := rfl
theorem i_55_7 : iRow 55 7 = some (.iload_n 2, 0, 0, 0, (some (Jvm.ClassFile.FieldType.int))) := rfl
theorem i_55_8 : iRow 55 8 = some (.iload_n 1, 0, 0, 0, (some (Jvm.ClassFile.FieldType.int))) := rfl
theorem i_55_9 : iRow 55 9 = some (.isub, 0, 0, 0, (some (Jvm.ClassFile.FieldType.int))) := rfl
theorem i_55_10 : iRow 55 10 = some (.iconst 1, 0, 0, 0, (some (Jvm.ClassFile.FieldType.int))) := rfl
theorem i_55_11 : iRow 55 11 = some (.if_icmp .ne 17, 0, 0, 0, (some (Jvm.ClassFile.FieldType.int))) := rfl
theorem i_55_14 : iRow 55 14 = some (.aload_n 0, 0, 0, 0, (some (Jvm.ClassFile.FieldType.int))) := rfl
theorem i_55_15 : iRow 55 15 = some (.getfield 28, 89, 4, 1, (some (Jvm.ClassFile.FieldType.int))) := rfl
theorem i_55_18 : iRow 55 18 = some (.getfield 70, 70, 5, 4, (some (Jvm.ClassFile.FieldType.int))) := rfl
theorem i_55_21 : iRow 55 21 = some (.iconst 3, 0, 0, 0, (some (Jvm.ClassFile.FieldType.int))) := rfl
theorem i_55_22 : iRow 55 22 = some (.invokestatic 44, 9, 28, 3, (some (Jvm.ClassFile.FieldType.int))) := rfl
theorem i_55_25 : iRow 55 25 = some (.goto 4, 0, 0, 0, (some (Jvm.ClassFile.FieldType.int))) := rfl
theorem i_55_28 : iRow 55 28 = some (.iconst 0, 0, 0, 0, (some (Jvm.ClassFile.FieldType.int))) := rfl
theorem i_55_29 : iRow 55 29 = some (.istore_n 3, 0, 0, 0, (some (Jvm.ClassFile.FieldType.int))) := rfl
theorem i_55_30 : iRow 55 30 = some (.iconst 5, 0, 0, 0, (some (Jvm.ClassFile.FieldType.int))) := rfl
theorem i_55_31 : iRow 55 31 = some (.iload_n 1, 0, 0, 0, (some (Jvm.ClassFile.FieldType.int))) := rfl
theorem i_55_32 : iRow 55 32 = some (.isub, 0, 0, 0, (some (Jvm.ClassFile.FieldType.int))) := rfl
theorem i_55_33 : iRow 55 33 = some (.iload_n 2, 0, 0, 0, (some (Jvm.ClassFile.FieldType.int))) := rfl
theorem i_55_34 : iRow 55 34 = some (.if_icmp .ne 17, 0, 0, 0, (some (Jvm.ClassFile.FieldType.int))) := rfl
theorem i_55_37 : iRow 55 37 = some (.aload_n 0, 0, 0, 0, (some (Jvm.ClassFile.FieldType.int))) := rfl
theorem i_55_38 : iRow 55 38 = some (.getfield 28, 89, 4, 1, (some (Jvm.ClassFile.FieldType.int))) := rfl
theorem i_55_41 : iRow 55 41 = some (.getfield 70, 70, 5, 4, (some (Jvm.ClassFile.FieldType.int))) := rfl
theorem i_55_44 : iRow 55 44 = some (.iconst 4, 0, 0, 0, (some (Jvm.ClassFile.FieldType.int))) := rfl
theorem i_55_45 : iRow 55 45 = some (.invokestatic 44, 9, 28, 3, (some (Jvm.ClassFile.FieldType.int))) := rfl
theorem i_55_48 : iRow 55 48 = some (.goto 4, 0, 0, 0, (some (Jvm.ClassFile.FieldType.int))) := rfl
theorem i_55_51 : iRow 55 51 = some (.iconst 0, 0, 0, 0, (some (Jvm.ClassFile.FieldType.int))) := rfl
theorem i_55_52 : iRow 55 52 = some (.istore 4, 0, 0, 0, (some (Jvm.ClassFile.FieldType.int))) := rfl
theorem i_55_54 : iRow 55 54 = some (.iload 4, 0, 0, 0, (some (Jvm.ClassFile.FieldType.int))) := rfl
theorem i_55_56 : iRow 55 56 = some (.ifCond .le 15, 0, 0, 0, (some (Jvm.ClassFile.FieldType.int))) := rfl
theorem i_55_71 : iRow 55 71 = some (.iload_n 3, 0, 0, 0, (some (Jvm.ClassFile.FieldType.int))) := rfl
theorem i_55_72 : iRow 55 72 = some (.ifCond .le 7, 0, 0, 0, (some (Jvm.ClassFile.FieldType.int))) := rfl
theorem i_55_79 : iRow 55 79 = some (.iconst (-1), 0, 0, 0, (some (Jvm.ClassFile.FieldType.int))) := rfl
theorem i_55_80 : iRow 55 80 = some (.ireturn, 0, 0, 0, (some (Jvm.ClassFile.FieldType.int))) := rfl
def tSum (g : Nat → Nat) : Nat → Nat → Nat
  | 0, _ => 0
  | n + 1, c => g c + tSum g n (c + 1)
def tMax (g : Nat → Nat) : Nat → Nat → Nat
  | 0, _ => 0
  | n + 1, c => max (g c) (tMax g n (c + 1))
def tN (kd : Nat → (Nat → Int) → Nat → Bool) : Nat → Nat → (Nat → Int) → Nat
  | 0, _, _ => 1
  | f + 1, k, B => 1 + tSum (fun c => if kd k B c = true then tN kd f (k + 1) (zBd B c) else 0) 1296 0
def tX (kd : Nat → (Nat → Int) → Nat → Bool) : Nat → Nat → (Nat → Int) → Nat
  | 0, k, _ => k
  | f + 1, k, B => max k (tMax (fun c => if kd k B c = true then tX kd f (k + 1) (zBd B c) else 0) 1296 0)
/-- the places behind one move -/
def tG (kd : Nat → (Nat → Int) → Nat → Bool) (f k : Nat) (B : Nat → Int) (c : Nat) : Nat := if kd k B c = true then tN kd f (k + 1) (zBd B c) else 0
def tD (kd : Nat → (Nat → Int) → Nat → Bool) (f k : Nat) (B : Nat → Int) (c : Nat) : Nat := if kd k B c = true then tX kd f (k + 1) (zBd B c) else 0
theorem tN_s {kd : Nat → (Nat → Int) → Nat → Bool} {f k : Nat} {B : Nat → Int} : tN kd (f + 1) k B = 1 + tSum (tG kd f k B) 1296 0 := rfl
theorem tX_s {kd : Nat → (Nat → Int) → Nat → Bool} {f k : Nat} {B : Nat → Int} : tX kd (f + 1) k B = max k (tMax (tD kd f k B) 1296 0) := rfl
theorem tSum_s {g : Nat → Nat} {n c : Nat} : tSum g (n + 1) c = g c + tSum g n (c + 1) := rfl
theorem tMax_s {g : Nat → Nat} {n c : Nat} : tMax g (n + 1) c = max (g c) (tMax g n (c + 1)) := rfl
theorem tSum_z {g : Nat → Nat} : ∀ (n c : Nat), (∀ i, c ≤ i → i < c + n → g i = 0) → tSum g n c = 0 := by
  intro n
  induction n with
  | zero => intro c _; rfl
  | succ n ih =>
    intro c h
    have e1 := h c (by omega) (by omega)
    have e2 := ih (c + 1) (fun i h1 h2 => h i (by omega) (by omega))
    rw [tSum_s]
    omega
theorem tMax_z {g : Nat → Nat} : ∀ (n c : Nat), (∀ i, c ≤ i → i < c + n → g i = 0) → tMax g n c = 0 := by
  intro n
  induction n with
  | zero => intro c _; rfl
  | succ n ih =>
    intro c h
    have e1 := h c (by omega) (by omega)
    have e2 := ih (c + 1) (fun i h1 h2 => h i (by omega) (by omega))
    rw [tMax_s]
    omega
theorem tSum_skip {g : Nat → Nat} : ∀ (j n c : Nat), (∀ i, c ≤ i → i < c + j → g i = 0) → tSum g (j + n) c = tSum g n (c + j) := by
  intro j
  induction j with
  | zero => intro n c _; rw [Nat.zero_add, Nat.add_zero]
  | succ j ih =>
    intro n c h
    rw [show j + 1 + n = (j + n) + 1 by omega, tSum_s, h c (by omega) (by omega), Nat.zero_add, ih n (c + 1) (fun i h1 h2 => h i (by omega) (by omega)), show c + 1 + j = c + (j + 1) by omega]
theorem tMax_skip {g : Nat → Nat} : ∀ (j n c : Nat), (∀ i, c ≤ i → i < c + j → g i = 0) → tMax g (j + n) c = tMax g n (c + j) := by
  intro j
  induction j with
  | zero => intro n c _; rw [Nat.zero_add, Nat.add_zero]
  | succ j ih =>
    intro n c h
    rw [show j + 1 + n = (j + n) + 1 by omega, tMax_s, h c (by omega) (by omega), Nat.zero_max, ih n (c + 1) (fun i h1 h2 => h i (by omega) (by omega)), show c + 1 + j = c + (j + 1) by omega]
theorem tMax_le {g : Nat → Nat} {x : Nat} : ∀ (n c : Nat), (∀ i, c ≤ i → i < c + n → g i ≤ x) → tMax g n c ≤ x := by
  intro n
  induction n with
  | zero => intro c _; exact Nat.zero_le _
  | succ n ih =>
    intro c e
    rw [tMax_s]
    exact Nat.max_le.mpr ⟨e c (by omega) (by omega), ih (c + 1) (fun i h1 h2 => e i (by omega) (by omega))⟩
theorem tN_1 {kd : Nat → (Nat → Int) → Nat → Bool} : ∀ (f k : Nat) (B : Nat → Int), 1 ≤ tN kd f k B := by
  intro f
  cases f with
  | zero => intro k B; exact Nat.le_refl 1
  | succ f => intro k B; rw [tN_s]; omega
/-- a NOTE that a MOVE keeps, without any SLIP -/
def zFt (nt : Nat → Nat → Int) (wy : Int) (k : Nat) (B : Nat → Int) (c : Nat) : Bool := decide (nt k 0 = B (c / 36) / 2) && (decide (nt k 1 = -1 ∨ nt k 1 = ((c / 36 % 6 : Nat) : Int)) && (decide (nt k 2 = ((c % 36 % 6 : Nat) : Int)) && decide (nt k 3 = if wy = 1 ∧ k % 2 = 1 then 5 - ((c % 36 / 6 : Nat) : Int) else ((c % 36 / 6 : Nat) : Int))))
def zKid (K : Nat → Nat × (Nat → Int × Nat)) (nt : Nat → Nat → Int) (wy : Int) (nb k : Nat) (B : Nat → Int) (c : Nat) : Bool := decide (k < nb) && (zMv B K ((k : Int) % 2) c && zFt nt wy k B c)
def zBr (K : Nat → Nat × (Nat → Int × Nat)) (nt : Nat → Nat → Int) (wy : Int) (nb : Nat) (B : Nat → Int) : Int := if 8000 < tN (zKid K nt wy nb) 24 0 B then -2 else if tX (zKid K nt wy nb) 24 0 B = nb then -3 else (tX (zKid K nt wy nb) 24 0 B : Int)
theorem tX_le {K : Nat → Nat × (Nat → Int × Nat)} {nt : Nat → Nat → Int} {wy : Int} {nb : Nat} : ∀ (f k : Nat) (B : Nat → Int), k ≤ nb → tX (zKid K nt wy nb) f k B ≤ nb := by
  intro f
  induction f with
  | zero => intro k B h; exact h
  | succ f ih =>
    intro k B h
    rw [tX_s]
    refine Nat.max_le.mpr ⟨h, tMax_le 1296 0 (fun i h1 h2 => ?_)⟩
    unfold tD
    by_cases hk : zKid K nt wy nb k B i = true
    · rw [if_pos hk]
      have hk2 := hk
      unfold zKid at hk2
      rw [Bool.and_eq_true, decide_eq_true_iff] at hk2
      exact ih (k + 1) (zBd B i) (by omega)
    · rw [if_neg hk]
      exact Nat.zero_le _
theorem updN {f : Nat → Int32} {k i : Nat} {x : Int32} (h : i ≠ k) : upd f k x i = f i := by
  unfold upd
  rw [if_neg h]
/-- a NOTE of the class that a MOVE keeps -/
def slipM (g : Nat → Int32) (bk n kd mo sd wy : Int) : Prop := (g ((((bk * 24) + n) * 4) + 0).toNat).toInt = kd ∧ ((g ((((bk * 24) + n) * 4) + 1).toNat).toInt = -1 ∨ (g ((((bk * 24) + n) * 4) + 1).toNat).toInt = mo / 36 % 6) ∧ (g ((((bk * 24) + n) * 4) + 2).toNat).toInt = mo % 36 % 6 ∧ (g ((((bk * 24) + n) * 4) + 3).toNat).toInt = (if wy = 1 ∧ sd = 1 then 5 - mo % 36 / 6 else mo % 36 / 6)
def slipP (bk n kd mo sd : Int) (es : PH) (v : Int) : Prop := (v = 0 ∧ slipM (gA es 14) bk n kd mo sd (gA es 54 bk.toNat).toInt) ∨ (v = -1 ∧ ¬ slipM (gA es 14) bk n kd mo sd (gA es 54 bk.toNat).toInt)
theorem slipP_rng {bk n kd mo sd v : Int} {es : PH} (h : slipP bk n kd mo sd es v) : -1 ≤ v ∧ v ≤ 0 := by
  rcases h with ⟨h, -⟩ | ⟨h, -⟩ <;> omega
theorem s_sl0 {O : pOut} {d kc ks : Nat} {Q : pRes → Prop} {es : PH} {bk n kd mo sd wy : Int} (hs_es : sh es) (hb : 0 ≤ bk ∧ bk ≤ 2) (hn : 0 ≤ n ∧ n ≤ 23) (hk : 0 ≤ kd ∧ kd ≤ 4) (hmo : 0 ≤ mo ∧ mo ≤ 1295) (hsd : 0 ≤ sd ∧ sd ≤ 1) (hpo : ∀ i, i < 8 → (gA es 55 i).toInt = 0) (hwy : (gA es 54 bk.toNat).toInt = wy) (hn2 : -40 ≤ (gA es 14 ((((bk * 24) + n) * 4) + 2).toNat).toInt ∧ (gA es 14 ((((bk * 24) + n) * 4) + 2).toNat).toInt ≤ 40) (hn3 : -40 ≤ (gA es 14 ((((bk * 24) + n) * 4) + 3).toNat).toInt ∧ (gA es 14 ((((bk * 24) + n) * 4) + 3).toNat).toInt ≤ 40)
    (K1 : ∀ v1 : Int, v1 = (gA es 14 ((((bk * 24) + n) * 4) + 2).toNat).toInt → (v1 - ((mo % 36) % 6)) < (-1) → Q (.inl (some (.int (zI (-1)))), es, kc, ks))
    (K2 : ∀ v1 : Int, v1 = (gA es 14 ((((bk * 24) + n) * 4) + 2).toNat).toInt → ¬ ((v1 - ((mo % 36) % 6)) < (-1)) → (v1 - ((mo % 36) % 6)) ≤ 1 → ∀ v4 : Int, v4 = (gA es 14 ((((bk * 24) + n) * 4) + 1).toNat).toInt → ∀ v5 : Int, v5 = (gA es 14 ((((bk * 24) + n) * 4) + 3).toNat).toInt → wy ≠ 1 → ∀ v7 : Int, v7 = (gA es 14 ((((bk * 24) + n) * 4) + 0).toNat).toInt → v7 ≠ kd → v4 = (-1) → aW O (d + 2) 54 kc ks Q (133, [some (.ref 132), some (.int (zI bk)), some (.int (zI n)), some (.int (zI kd)), some (.int (zI mo)), some (.int (zI sd)), some (.int (zI (mo % 36))), some (.int (zI (v1 - ((mo % 36) % 6)))), some (.int (zI v4)), some (.int (zI v5)), some (.int (zI ((mo % 36) / 6))), some (.int (zI 0)), some (.int (zI 1)), none, none], [], es))
    (K3 : ∀ v1 : Int, v1 = (gA es 14 ((((bk * 24) + n) * 4) + 2).toNat).toInt → ¬ ((v1 - ((mo % 36) % 6)) < (-1)) → (v1 - ((mo % 36) % 6)) ≤ 1 → ∀ v4 : Int, v4 = (gA es 14 ((((bk * 24) + n) * 4) + 1).toNat).toInt → ∀ v5 : Int, v5 = (gA es 14 ((((bk * 24) + n) * 4) + 3).toNat).toInt → wy ≠ 1 → ∀ v7 : Int, v7 = (gA es 14 ((((bk * 24) + n) * 4) + 0).toNat).toInt → v7 ≠ kd → ¬ (v4 = (-1)) → v4 ≠ ((mo / 36) % 6) → aW O (d + 2) 54 kc ks Q (133, [some (.ref 132), some (.int (zI bk)), some (.int (zI n)), some (.int (zI kd)), some (.int (zI mo)), some (.int (zI sd)), some (.int (zI (mo % 36))), some (.int (zI (v1 - ((mo % 36) % 6)))), some (.int (zI v4)), some (.int (zI v5)), some (.int (zI ((mo % 36) / 6))), some (.int (zI 0)), some (.int (zI 0)), none, none], [], es))
    (K4 : ∀ v1 : Int, v1 = (gA es 14 ((((bk * 24) + n) * 4) + 2).toNat).toInt → ¬ ((v1 - ((mo % 36) % 6)) < (-1)) → (v1 - ((mo % 36) % 6)) ≤ 1 → ∀ v4 : Int, v4 = (gA es 14 ((((bk * 24) + n) * 4) + 1).toNat).toInt → ∀ v5 : Int, v5 = (gA es 14 ((((bk * 24) + n) * 4) + 3).toNat).toInt → wy ≠ 1 → ∀ v7 : Int, v7 = (gA es 14 ((((bk * 24) + n) * 4) + 0).toNat).toInt → v7 ≠ kd → ¬ (v4 = (-1)) → ¬ (v4 ≠ ((mo / 36) % 6)) → aW O (d + 2) 54 kc ks Q (133, [some (.ref 132), some (.int (zI bk)), some (.int (zI n)), some (.int (zI kd)), some (.int (zI mo)), some (.int (zI sd)), some (.int (zI (mo % 36))), some (.int (zI (v1 - ((mo % 36) % 6)))), some (.int (zI v4)), some (.int (zI v5)), some (.int (zI ((mo % 36) / 6))), some (.int (zI 0)), some (.int (zI 1)), none, none], [], es))
    (K5 : ∀ v1 : Int, v1 = (gA es 14 ((((bk * 24) + n) * 4) + 2).toNat).toInt → ¬ ((v1 - ((mo % 36) % 6)) < (-1)) → (v1 - ((mo % 36) % 6)) ≤ 1 → ∀ v4 : Int, v4 = (gA es 14 ((((bk * 24) + n) * 4) + 1).toNat).toInt → ∀ v5 : Int, v5 = (gA es 14 ((((bk * 24) + n) * 4) + 3).toNat).toInt → wy ≠ 1 → ∀ v7 : Int, v7 = (gA es 14 ((((bk * 24) + n) * 4) + 0).toNat).toInt → ¬ (v7 ≠ kd) → v4 = (-1) → aW O (d + 2) 54 kc ks Q (133, [some (.ref 132), some (.int (zI bk)), some (.int (zI n)), some (.int (zI kd)), some (.int (zI mo)), some (.int (zI sd)), some (.int (zI (mo % 36))), some (.int (zI (v1 - ((mo % 36) % 6)))), some (.int (zI v4)), some (.int (zI v5)), some (.int (zI ((mo % 36) / 6))), some (.int (zI 1)), some (.int (zI 1)), none, none], [], es))
    (K6 : ∀ v1 : Int, v1 = (gA es 14 ((((bk * 24) + n) * 4) + 2).toNat).toInt → ¬ ((v1 - ((mo % 36) % 6)) < (-1)) → (v1 - ((mo % 36) % 6)) ≤ 1 → ∀ v4 : Int, v4 = (gA es 14 ((((bk * 24) + n) * 4) + 1).toNat).toInt → ∀ v5 : Int, v5 = (gA es 14 ((((bk * 24) + n) * 4) + 3).toNat).toInt → wy ≠ 1 → ∀ v7 : Int, v7 = (gA es 14 ((((bk * 24) + n) * 4) + 0).toNat).toInt → ¬ (v7 ≠ kd) → ¬ (v4 = (-1)) → v4 ≠ ((mo / 36) % 6) → aW O (d + 2) 54 kc ks Q (133, [some (.ref 132), some (.int (zI bk)), some (.int (zI n)), some (.int (zI kd)), some (.int (zI mo)), some (.int (zI sd)), some (.int (zI (mo % 36))), some (.int (zI (v1 - ((mo % 36) % 6)))), some (.int (zI v4)), some (.int (zI v5)), some (.int (zI ((mo % 36) / 6))), some (.int (zI 1)), some (.int (zI 0)), none, none], [], es))
    (K7 : ∀ v1 : Int, v1 = (gA es 14 ((((bk * 24) + n) * 4) + 2).toNat).toInt → ¬ ((v1 - ((mo % 36) % 6)) < (-1)) → (v1 - ((mo % 36) % 6)) ≤ 1 → ∀ v4 : Int, v4 = (gA es 14 ((((bk * 24) + n) * 4) + 1).toNat).toInt → ∀ v5 : Int, v5 = (gA es 14 ((((bk * 24) + n) * 4) + 3).toNat).toInt → wy ≠ 1 → ∀ v7 : Int, v7 = (gA es 14 ((((bk * 24) + n) * 4) + 0).toNat).toInt → ¬ (v7 ≠ kd) → ¬ (v4 = (-1)) → ¬ (v4 ≠ ((mo / 36) % 6)) → aW O (d + 2) 54 kc ks Q (133, [some (.ref 132), some (.int (zI bk)), some (.int (zI n)), some (.int (zI kd)), some (.int (zI mo)), some (.int (zI sd)), some (.int (zI (mo % 36))), some (.int (zI (v1 - ((mo % 36) % 6)))), some (.int (zI v4)), some (.int (zI v5)), some (.int (zI ((mo % 36) / 6))), some (.int (zI 1)), some (.int (zI 1)), none, none], [], es))
    (K8 : ∀ v1 : Int, v1 = (gA es 14 ((((bk * 24) + n) * 4) + 2).toNat).toInt → ¬ ((v1 - ((mo % 36) % 6)) < (-1)) → (v1 - ((mo % 36) % 6)) ≤ 1 → ∀ v4 : Int, v4 = (gA es 14 ((((bk * 24) + n) * 4) + 1).toNat).toInt → ∀ v5 : Int, v5 = (gA es 14 ((((bk * 24) + n) * 4) + 3).toNat).toInt → ¬ (wy ≠ 1) → sd ≠ 1 → ∀ v14 : Int, v14 = (gA es 14 ((((bk * 24) + n) * 4) + 0).toNat).toInt → v14 ≠ kd → v4 = (-1) → aW O (d + 2) 54 kc ks Q (133, [some (.ref 132), some (.int (zI bk)), some (.int (zI n)), some (.int (zI kd)), some (.int (zI mo)), some (.int (zI sd)), some (.int (zI (mo % 36))), some (.int (zI (v1 - ((mo % 36) % 6)))), some (.int (zI v4)), some (.int (zI v5)), some (.int (zI ((mo % 36) / 6))), some (.int (zI 0)), some (.int (zI 1)), none, none], [], es))
    (K9 : ∀ v1 : Int, v1 = (gA es 14 ((((bk * 24) + n) * 4) + 2).toNat).toInt → ¬ ((v1 - ((mo % 36) % 6)) < (-1)) → (v1 - ((mo % 36) % 6)) ≤ 1 → ∀ v4 : Int, v4 = (gA es 14 ((((bk * 24) + n) * 4) + 1).toNat).toInt → ∀ v5 : Int, v5 = (gA es 14 ((((bk * 24) + n) * 4) + 3).toNat).toInt → ¬ (wy ≠ 1) → sd ≠ 1 → ∀ v14 : Int, v14 = (gA es 14 ((((bk * 24) + n) * 4) + 0).toNat).toInt → v14 ≠ kd → ¬ (v4 = (-1)) → v4 ≠ ((mo / 36) % 6) → aW O (d + 2) 54 kc ks Q (133, [some (.ref 132), some (.int (zI bk)), some (.int (zI n)), some (.int (zI kd)), some (.int (zI mo)), some (.int (zI sd)), some (.int (zI (mo % 36))), some (.int (zI (v1 - ((mo % 36) % 6)))), some (.int (zI v4)), some (.int (zI v5)), some (.int (zI ((mo % 36) / 6))), some (.int (zI 0)), some (.int (zI 0)), none, none], [], es))
    (K10 : ∀ v1 : Int, v1 = (gA es 14 ((((bk * 24) + n) * 4) + 2).toNat).toInt → ¬ ((v1 - ((mo % 36) % 6)) < (-1)) → (v1 - ((mo % 36) % 6)) ≤ 1 → ∀ v4 : Int, v4 = (gA es 14 ((((bk * 24) + n) * 4) + 1).toNat).toInt → ∀ v5 : Int, v5 = (gA es 14 ((((bk * 24) + n) * 4) + 3).toNat).toInt → ¬ (wy ≠ 1) → sd ≠ 1 → ∀ v14 : Int, v14 = (gA es 14 ((((bk * 24) + n) * 4) + 0).toNat).toInt → v14 ≠ kd → ¬ (v4 = (-1)) → ¬ (v4 ≠ ((mo / 36) % 6)) → aW O (d + 2) 54 kc ks Q (133, [some (.ref 132), some (.int (zI bk)), some (.int (zI n)), some (.int (zI kd)), some (.int (zI mo)), some (.int (zI sd)), some (.int (zI (mo % 36))), some (.int (zI (v1 - ((mo % 36) % 6)))), some (.int (zI v4)), some (.int (zI v5)), some (.int (zI ((mo % 36) / 6))), some (.int (zI 0)), some (.int (zI 1)), none, none], [], es))
    (K11 : ∀ v1 : Int, v1 = (gA es 14 ((((bk * 24) + n) * 4) + 2).toNat).toInt → ¬ ((v1 - ((mo % 36) % 6)) < (-1)) → (v1 - ((mo % 36) % 6)) ≤ 1 → ∀ v4 : Int, v4 = (gA es 14 ((((bk * 24) + n) * 4) + 1).toNat).toInt → ∀ v5 : Int, v5 = (gA es 14 ((((bk * 24) + n) * 4) + 3).toNat).toInt → ¬ (wy ≠ 1) → sd ≠ 1 → ∀ v14 : Int, v14 = (gA es 14 ((((bk * 24) + n) * 4) + 0).toNat).toInt → ¬ (v14 ≠ kd) → v4 = (-1) → aW O (d + 2) 54 kc ks Q (133, [some (.ref 132), some (.int (zI bk)), some (.int (zI n)), some (.int (zI kd)), some (.int (zI mo)), some (.int (zI sd)), some (.int (zI (mo % 36))), some (.int (zI (v1 - ((mo % 36) % 6)))), some (.int (zI v4)), some (.int (zI v5)), some (.int (zI ((mo % 36) / 6))), some (.int (zI 1)), some (.int (zI 1)), none, none], [], es))
    (K12 : ∀ v1 : Int, v1 = (gA es 14 ((((bk * 24) + n) * 4) + 2).toNat).toInt → ¬ ((v1 - ((mo % 36) % 6)) < (-1)) → (v1 - ((mo % 36) % 6)) ≤ 1 → ∀ v4 : Int, v4 = (gA es 14 ((((bk * 24) + n) * 4) + 1).toNat).toInt → ∀ v5 : Int, v5 = (gA es 14 ((((bk * 24) + n) * 4) + 3).toNat).toInt → ¬ (wy ≠ 1) → sd ≠ 1 → ∀ v14 : Int, v14 = (gA es 14 ((((bk * 24) + n) * 4) + 0).toNat).toInt → ¬ (v14 ≠ kd) → ¬ (v4 = (-1)) → v4 ≠ ((mo / 36) % 6) → aW O (d + 2) 54 kc ks Q (133, [some (.ref 132), some (.int (zI bk)), some (.int (zI n)), some (.int (zI kd)), some (.int (zI mo)), some (.int (zI sd)), some (.int (zI (mo % 36))), some (.int (zI (v1 - ((mo % 36) % 6)))), some (.int (zI v4)), some (.int (zI v5)), some (.int (zI ((mo % 36) / 6))), some (.int (zI 1)), some (.int (zI 0)), none, none], [], es))
    (K13 : ∀ v1 : Int, v1 = (gA es 14 ((((bk * 24) + n) * 4) + 2).toNat).toInt → ¬ ((v1 - ((mo % 36) % 6)) < (-1)) → (v1 - ((mo % 36) % 6)) ≤ 1 → ∀ v4 : Int, v4 = (gA es 14 ((((bk * 24) + n) * 4) + 1).toNat).toInt → ∀ v5 : Int, v5 = (gA es 14 ((((bk * 24) + n) * 4) + 3).toNat).toInt → ¬ (wy ≠ 1) → sd ≠ 1 → ∀ v14 : Int, v14 = (gA es 14 ((((bk * 24) + n) * 4) + 0).toNat).toInt → ¬ (v14 ≠ kd) → ¬ (v4 = (-1)) → ¬ (v4 ≠ ((mo / 36) % 6)) → aW O (d + 2) 54 kc ks Q (133, [some (.ref 132), some (.int (zI bk)), some (.int (zI n)), some (.int (zI kd)), some (.int (zI mo)), some (.int (zI sd)), some (.int (zI (mo % 36))), some (.int (zI (v1 - ((mo % 36) % 6)))), some (.int (zI v4)), some (.int (zI v5)), some (.int (zI ((mo % 36) / 6))), some (.int (zI 1)), some (.int (zI 1)), none, none], [], es))
    (K14 : ∀ v1 : Int, v1 = (gA es 14 ((((bk * 24) + n) * 4) + 2).toNat).toInt → ¬ ((v1 - ((mo % 36) % 6)) < (-1)) → (v1 - ((mo % 36) % 6)) ≤ 1 → ∀ v4 : Int, v4 = (gA es 14 ((((bk * 24) + n) * 4) + 1).toNat).toInt → ∀ v5 : Int, v5 = (gA es 14 ((((bk * 24) + n) * 4) + 3).toNat).toInt → ¬ (wy ≠ 1) → ¬ (sd ≠ 1) → ∀ v20 : Int, v20 = (gA es 14 ((((bk * 24) + n) * 4) + 0).toNat).toInt → v20 ≠ kd → v4 = (-1) → aW O (d + 2) 54 kc ks Q (133, [some (.ref 132), some (.int (zI bk)), some (.int (zI n)), some (.int (zI kd)), some (.int (zI mo)), some (.int (zI sd)), some (.int (zI (mo % 36))), some (.int (zI (v1 - ((mo % 36) % 6)))), some (.int (zI v4)), some (.int (zI v5)), some (.int (zI (5 - ((mo % 36) / 6)))), some (.int (zI 0)), some (.int (zI 1)), none, none], [], es))
    (K15 : ∀ v1 : Int, v1 = (gA es 14 ((((bk * 24) + n) * 4) + 2).toNat).toInt → ¬ ((v1 - ((mo % 36) % 6)) < (-1)) → (v1 - ((mo % 36) % 6)) ≤ 1 → ∀ v4 : Int, v4 = (gA es 14 ((((bk * 24) + n) * 4) + 1).toNat).toInt → ∀ v5 : Int, v5 = (gA es 14 ((((bk * 24) + n) * 4) + 3).toNat).toInt → ¬ (wy ≠ 1) → ¬ (sd ≠ 1) → ∀ v20 : Int, v20 = (gA es 14 ((((bk * 24) + n) * 4) + 0).toNat).toInt → v20 ≠ kd → ¬ (v4 = (-1)) → v4 ≠ ((mo / 36) % 6) → aW O (d + 2) 54 kc ks Q (133, [some (.ref 132), some (.int (zI bk)), some (.int (zI n)), some (.int (zI kd)), some (.int (zI mo)), some (.int (zI sd)), some (.int (zI (mo % 36))), some (.int (zI (v1 - ((mo % 36) % 6)))), some (.int (zI v4)), some (.int (zI v5)), some (.int (zI (5 - ((mo % 36) / 6)))), some (.int (zI 0)), some (.int (zI 0)), none, none], [], es))
    (K16 : ∀ v1 : Int, v1 = (gA es 14 ((((bk * 24) + n) * 4) + 2).toNat).toInt → ¬ ((v1 - ((mo % 36) % 6)) < (-1)) → (v1 - ((mo % 36) % 6)) ≤ 1 → ∀ v4 : Int, v4 = (gA es 14 ((((bk * 24) + n) * 4) + 1).toNat).toInt → ∀ v5 : Int, v5 = (gA es 14 ((((bk * 24) + n) * 4) + 3).toNat).toInt → ¬ (wy ≠ 1) → ¬ (sd ≠ 1) → ∀ v20 : Int, v20 = (gA es 14 ((((bk * 24) + n) * 4) + 0).toNat).toInt → v20 ≠ kd → ¬ (v4 = (-1)) → ¬ (v4 ≠ ((mo / 36) % 6)) → aW O (d + 2) 54 kc ks Q (133, [some (.ref 132), some (.int (zI bk)), some (.int (zI n)), some (.int (zI kd)), some (.int (zI mo)), some (.int (zI sd)), some (.int (zI (mo % 36))), some (.int (zI (v1 - ((mo % 36) % 6)))), some (.int (zI v4)), some (.int (zI v5)), some (.int (zI (5 - ((mo % 36) / 6)))), some (.int (zI 0)), some (.int (zI 1)), none, none], [], es))
    (K17 : ∀ v1 : Int, v1 = (gA es 14 ((((bk * 24) + n) * 4) + 2).toNat).toInt → ¬ ((v1 - ((mo % 36) % 6)) < (-1)) → (v1 - ((mo % 36) % 6)) ≤ 1 → ∀ v4 : Int, v4 = (gA es 14 ((((bk * 24) + n) * 4) + 1).toNat).toInt → ∀ v5 : Int, v5 = (gA es 14 ((((bk * 24) + n) * 4) + 3).toNat).toInt → ¬ (wy ≠ 1) → ¬ (sd ≠ 1) → ∀ v20 : Int, v20 = (gA es 14 ((((bk * 24) + n) * 4) + 0).toNat).toInt → ¬ (v20 ≠ kd) → v4 = (-1) → aW O (d + 2) 54 kc ks Q (133, [some (.ref 132), some (.int (zI bk)), some (.int (zI n)), some (.int (zI kd)), some (.int (zI mo)), some (.int (zI sd)), some (.int (zI (mo % 36))), some (.int (zI (v1 - ((mo % 36) % 6)))), some (.int (zI v4)), some (.int (zI v5)), some (.int (zI (5 - ((mo % 36) / 6)))), some (.int (zI 1)), some (.int (zI 1)), none, none], [], es))
    (K18 : ∀ v1 : Int, v1 = (gA es 14 ((((bk * 24) + n) * 4) + 2).toNat).toInt → ¬ ((v1 - ((mo % 36) % 6)) < (-1)) → (v1 - ((mo % 36) % 6)) ≤ 1 → ∀ v4 : Int, v4 = (gA es 14 ((((bk * 24) + n) * 4) + 1).toNat).toInt → ∀ v5 : Int, v5 = (gA es 14 ((((bk * 24) + n) * 4) + 3).toNat).toInt → ¬ (wy ≠ 1) → ¬ (sd ≠ 1) → ∀ v20 : Int, v20 = (gA es 14 ((((bk * 24) + n) * 4) + 0).toNat).toInt → ¬ (v20 ≠ kd) → ¬ (v4 = (-1)) → v4 ≠ ((mo / 36) % 6) → aW O (d + 2) 54 kc ks Q (133, [some (.ref 132), some (.int (zI bk)), some (.int (zI n)), some (.int (zI kd)), some (.int (zI mo)), some (.int (zI sd)), some (.int (zI (mo % 36))), some (.int (zI (v1 - ((mo % 36) % 6)))), some (.int (zI v4)), some (.int (zI v5)), some (.int (zI (5 - ((mo % 36) / 6)))), some (.int (zI 1)), some (.int (zI 0)), none, none], [], es))
    (K19 : ∀ v1 : Int, v1 = (gA es 14 ((((bk * 24) + n) * 4) + 2).toNat).toInt → ¬ ((v1 - ((mo % 36) % 6)) < (-1)) → (v1 - ((mo % 36) % 6)) ≤ 1 → ∀ v4 : Int, v4 = (gA es 14 ((((bk * 24) + n) * 4) + 1).toNat).toInt → ∀ v5 : Int, v5 = (gA es 14 ((((bk * 24) + n) * 4) + 3).toNat).toInt → ¬ (wy ≠ 1) → ¬ (sd ≠ 1) → ∀ v20 : Int, v20 = (gA es 14 ((((bk * 24) + n) * 4) + 0).toNat).toInt → ¬ (v20 ≠ kd) → ¬ (v4 = (-1)) → ¬ (v4 ≠ ((mo / 36) % 6)) → aW O (d + 2) 54 kc ks Q (133, [some (.ref 132), some (.int (zI bk)), some (.int (zI n)), some (.int (zI kd)), some (.int (zI mo)), some (.int (zI sd)), some (.int (zI (mo % 36))), some (.int (zI (v1 - ((mo % 36) % 6)))), some (.int (zI v4)), some (.int (zI v5)), some (.int (zI (5 - ((mo % 36) / 6)))), some (.int (zI 1)), some (.int (zI 1)), none, none], [], es))
    (K20 : ∀ v1 : Int, v1 = (gA es 14 ((((bk * 24) + n) * 4) + 2).toNat).toInt → ¬ ((v1 - ((mo % 36) % 6)) < (-1)) → ¬ ((v1 - ((mo % 36) % 6)) ≤ 1) → Q (.inl (some (.int (zI (-1)))), es, kc, ks)) :
    aW O (d + 2) 54 kc ks Q (0, [some (.ref 132), some (.int (zI bk)), some (.int (zI n)), some (.int (zI kd)), some (.int (zI mo)), some (.int (zI sd)), none, none, none, none, none, none, none, none, none], [], es) := by
  refine x0 (r := (2, [some (.ref 132), some (.int (zI bk)), some (.int (zI n)), some (.int (zI kd)), some (.int (zI mo)), some (.int (zI sd)), none, none, none, none, none, none, none, none, none], [.int (zI mo)], es)) i_54_0 rfl ?_
  refine x0 (r := (4, [some (.ref 132), some (.int (zI bk)), some (.int (zI n)), some (.int (zI kd)), some (.int (zI mo)), some (.int (zI sd)), none, none, none, none, none, none, none, none, none], [.int (zI 36), .int (zI mo)], es)) i_54_2 (by rfl) ?_
  refine x_iremn i_54_4 (by omega) (by unfold i32 iLO iHI; omega) (by unfold i32 iLO iHI; omega) (by omega) ?_
  refine x0 (r := (7, [some (.ref 132), some (.int (zI bk)), some (.int (zI n)), some (.int (zI kd)), some (.int (zI mo)), some (.int (zI sd)), some (.int (zI (mo % 36))), none, none, none, none, none, none, none, none], [], es)) i_54_5 rfl ?_
  refine x0 (r := (8, [some (.ref 132), some (.int (zI bk)), some (.int (zI n)), some (.int (zI kd)), some (.int (zI mo)), some (.int (zI sd)), some (.int (zI (mo % 36))), none, none, none, none, none, none, none, none], [.ref 132], es)) i_54_7 rfl ?_
  refine x_getr (p := 68) (k := 71) i_54_8 hs_es rfl rfl ?_
  show aW _ _ _ _ _ _ (11, [some (.ref 132), some (.int (zI bk)), some (.int (zI n)), some (.int (zI kd)), some (.int (zI mo)), some (.int (zI sd)), some (.int (zI (mo % 36))), none, none, none, none, none, none, none, none], [.ref 71], es)
  refine x0 (r := (12, [some (.ref 132), some (.int (zI bk)), some (.int (zI n)), some (.int (zI kd)), some (.int (zI mo)), some (.int (zI sd)), some (.int (zI (mo % 36))), none, none, none, none, none, none, none, none], [.int (zI bk), .ref 71], es)) i_54_11 rfl ?_
  refine x0 (r := (13, [some (.ref 132), some (.int (zI bk)), some (.int (zI n)), some (.int (zI kd)), some (.int (zI mo)), some (.int (zI sd)), some (.int (zI (mo % 36))), none, none, none, none, none, none, none, none], [.int (zI n), .int (zI bk), .ref 71], es)) i_54_12 rfl ?_
  refine x0 (r := (14, [some (.ref 132), some (.int (zI bk)), some (.int (zI n)), some (.int (zI kd)), some (.int (zI mo)), some (.int (zI sd)), some (.int (zI (mo % 36))), none, none, none, none, none, none, none, none], [.int (zI 2), .int (zI n), .int (zI bk), .ref 71], es)) i_54_13 (by rfl) ?_
  refine x_call (vs := [.ref 71, .int (zI bk), .int (zI n), .int (zI 2)]) (rs := []) i_54_14 rfl (fun _ => rfl) rfl rfl rfl rfl rfl (pCall_v (p := 7) hs_es rfl rfl rfl rfl rfl (by decide) rfl rfl rfl rfl rfl) ?_
  show aW _ _ _ _ _ _ (0, [some (.ref 71), some (.int (zI bk)), some (.int (zI n)), some (.int (zI 2))], [], es)
  refine x0 (r := (1, [some (.ref 71), some (.int (zI bk)), some (.int (zI n)), some (.int (zI 2))], [.ref 71], es)) i_43_0 rfl ?_
  refine x_getr (p := 7) (k := 78) i_43_1 hs_es rfl rfl ?_
  show aW _ _ _ _ _ _ (4, [some (.ref 71), some (.int (zI bk)), some (.int (zI n)), some (.int (zI 2))], [.ref 78], es)
  refine x0 (r := (5, [some (.ref 71), some (.int (zI bk)), some (.int (zI n)), some (.int (zI 2))], [.int (zI bk), .ref 78], es)) i_43_4 rfl ?_
  refine x0 (r := (7, [some (.ref 71), some (.int (zI bk)), some (.int (zI n)), some (.int (zI 2))], [.int (zI 24), .int (zI bk), .ref 78], es)) i_43_5 (by rfl) ?_
  refine x_imul i_43_7 ?_
  refine x0 (r := (9, [some (.ref 71), some (.int (zI bk)), some (.int (zI n)), some (.int (zI 2))], [.int (zI n), .int (zI (bk * 24)), .ref 78], es)) i_43_8 rfl ?_
  refine x_iadd i_43_9 ?_
  refine x0 (r := (11, [some (.ref 71), some (.int (zI bk)), some (.int (zI n)), some (.int (zI 2))], [.int (zI 4), .int (zI ((bk * 24) + n)), .ref 78], es)) i_43_10 (by rfl) ?_
  refine x_imul i_43_11 ?_
  refine x0 (r := (13, [some (.ref 71), some (.int (zI bk)), some (.int (zI n)), some (.int (zI 2))], [.int (zI 2), .int (zI (((bk * 24) + n) * 4)), .ref 78], es)) i_43_12 rfl ?_
  refine x_iadd i_43_13 ?_
  refine x_call (vs := [.ref 78, .int (zI ((((bk * 24) + n) * 4) + 2))]) (rs := []) i_43_14 rfl (fun _ => rfl) rfl rfl rfl rfl rfl rfl ?_
  show aW _ _ _ _ _ _ (0, [some (.ref 78), some (.int (zI ((((bk * 24) + n) * 4) + 2)))], [], es)
  refine x0 (r := (1, [some (.ref 78), some (.int (zI ((((bk * 24) + n) * 4) + 2)))], [.int (zI ((((bk * 24) + n) * 4) + 2))], es)) i_28_0 rfl ?_
  refine x_ifF i_28_1 (by unfold i32 iLO iHI; omega) rfl (by simp only [zC, cR]; omega) ?_
  refine x0 (r := (5, [some (.ref 78), some (.int (zI ((((bk * 24) + n) * 4) + 2)))], [.int (zI ((((bk * 24) + n) * 4) + 2))], es)) i_28_4 rfl ?_
  refine x0 (r := (6, [some (.ref 78), some (.int (zI ((((bk * 24) + n) * 4) + 2)))], [.ref 78, .int (zI ((((bk * 24) + n) * 4) + 2))], es)) i_28_5 rfl ?_
  refine x_alen (p := 14) (n := 288) i_28_6 hs_es rfl ?_
  refine x_cmpF i_28_7 (by unfold i32 iLO iHI; omega) (by unfold i32 iLO iHI; omega) rfl (by simp only [zC, cR]; omega) ?_
  refine x0 (r := (11, [some (.ref 78), some (.int (zI ((((bk * 24) + n) * 4) + 2)))], [.ref 78], es)) i_28_10 rfl ?_
  refine x0 (r := (12, [some (.ref 78), some (.int (zI ((((bk * 24) + n) * 4) + 2)))], [.int (zI ((((bk * 24) + n) * 4) + 2)), .ref 78], es)) i_28_11 rfl ?_
  refine x_iald (p := 14) i_28_12 hs_es rfl (by unfold i32 iLO iHI; omega) (by omega) (by omega) ?_
  obtain ⟨v1, e_v1⟩ : ∃ z : Int, z = (gA es 14 ((((bk * 24) + n) * 4) + 2).toNat).toInt := ⟨_, rfl⟩
  rw [← e_v1]
  have r_v1 : iLO ≤ v1 ∧ v1 ≤ iHI := by rw [e_v1]; exact i32_rng _
  unfold iLO iHI at r_v1
  refine x0 (r := (17, [some (.ref 78), some (.int (zI ((((bk * 24) + n) * 4) + 2)))], [.int (zI v1)], es)) i_28_13 rfl ?_
  refine x_ret (v := some (.int (zI v1))) i_28_17 rfl (fun _ => rfl) rfl rfl rfl ?_
  show aW _ _ _ _ _ _ (17, [some (.ref 71), some (.int (zI bk)), some (.int (zI n)), some (.int (zI 2))], [.int (zI v1)], es)
  refine x_ret (v := some (.int (zI v1))) i_43_17 rfl (fun _ => rfl) rfl rfl rfl ?_
  show aW _ _ _ _ _ _ (17, [some (.ref 132), some (.int (zI bk)), some (.int (zI n)), some (.int (zI kd)), some (.int (zI mo)), some (.int (zI sd)), some (.int (zI (mo % 36))), none, none, none, none, none, none, none, none], [.int (zI v1)], es)
  refine x0 (r := (19, [some (.ref 132), some (.int (zI bk)), some (.int (zI n)), some (.int (zI kd)), some (.int (zI mo)), some (.int (zI sd)), some (.int (zI (mo % 36))), none, none, none, none, none, none, none, none], [.int (zI (mo % 36)), .int (zI v1)], es)) i_54_17 rfl ?_
  refine x0 (r := (21, [some (.ref 132), some (.int (zI bk)), some (.int (zI n)), some (.int (zI kd)), some (.int (zI mo)), some (.int (zI sd)), some (.int (zI (mo % 36))), none, none, none, none, none, none, none, none], [.int (zI 6), .int (zI (mo % 36)), .int (zI v1)], es)) i_54_19 (by rfl) ?_
  refine x_iremn i_54_21 (by omega) (by unfold i32 iLO iHI; omega) (by unfold i32 iLO iHI; omega) (by omega) ?_
  refine x_isub i_54_22 ?_
  refine x0 (r := (25, [some (.ref 132), some (.int (zI bk)), some (.int (zI n)), some (.int (zI kd)), some (.int (zI mo)), some (.int (zI sd)), some (.int (zI (mo % 36))), some (.int (zI (v1 - ((mo % 36) % 6)))), none, none, none, none, none, none, none], [], es)) i_54_23 rfl ?_
  refine x0 (r := (27, [some (.ref 132), some (.int (zI bk)), some (.int (zI n)), some (.int (zI kd)), some (.int (zI mo)), some (.int (zI sd)), some (.int (zI (mo % 36))), some (.int (zI (v1 - ((mo % 36) % 6)))), none, none, none, none, none, none, none], [.int (zI (v1 - ((mo % 36) % 6)))], es)) i_54_25 rfl ?_
  refine x0 (r := (28, [some (.ref 132), some (.int (zI bk)), some (.int (zI n)), some (.int (zI kd)), some (.int (zI mo)), some (.int (zI sd)), some (.int (zI (mo % 36))), some (.int (zI (v1 - ((mo % 36) % 6)))), none, none, none, none, none, none, none], [.int (zI (-1)), .int (zI (v1 - ((mo % 36) % 6)))], es)) i_54_27 (by rfl) ?_
  by_cases c2 : (v1 - ((mo % 36) % 6)) < (-1)
  · refine x_cmpT i_54_28 (by unfold i32 iLO iHI; omega) (by unfold i32 iLO iHI; omega) rfl (by simp only [zC, cR]; omega) ?_
    refine x0 (r := (38, [some (.ref 132), some (.int (zI bk)), some (.int (zI n)), some (.int (zI kd)), some (.int (zI mo)), some (.int (zI sd)), some (.int (zI (mo % 36))), some (.int (zI (v1 - ((mo % 36) % 6)))), none, none, none, none, none, none, none], [.int (zI (-1))], es)) i_54_37 (by rfl) ?_
    refine x_ret (v := some (.int (zI (-1)))) i_54_38 rfl (fun _ => rfl) rfl rfl rfl ?_
    exact K1 v1 e_v1 c2
  · refine x_cmpF i_54_28 (by unfold i32 iLO iHI; omega) (by unfold i32 iLO iHI; omega) rfl (by simp only [zC, cR]; omega) ?_
    refine x0 (r := (33, [some (.ref 132), some (.int (zI bk)), some (.int (zI n)), some (.int (zI kd)), some (.int (zI mo)), some (.int (zI sd)), some (.int (zI (mo % 36))), some (.int (zI (v1 - ((mo % 36) % 6)))), none, none, none, none, none, none, none], [.int (zI (v1 - ((mo % 36) % 6)))], es)) i_54_31 rfl ?_
    refine x0 (r := (34, [some (.ref 132), some (.int (zI bk)), some (.int (zI n)), some (.int (zI kd)), some (.int (zI mo)), some (.int (zI sd)), some (.int (zI (mo % 36))), some (.int (zI (v1 - ((mo % 36) % 6)))), none, none, none, none, none, none, none], [.int (zI 1), .int (zI (v1 - ((mo % 36) % 6)))], es)) i_54_33 (by rfl) ?_
    by_cases c3 : (v1 - ((mo % 36) % 6)) ≤ 1
    · refine x_cmpT i_54_34 (by unfold i32 iLO iHI; omega) (by unfold i32 iLO iHI; omega) rfl (by simp only [zC, cR]; omega) ?_
      refine x0 (r := (40, [some (.ref 132), some (.int (zI bk)), some (.int (zI n)), some (.int (zI kd)), some (.int (zI mo)), some (.int (zI sd)), some (.int (zI (mo % 36))), some (.int (zI (v1 - ((mo % 36) % 6)))), none, none, none, none, none, none, none], [.ref 132], es)) i_54_39 rfl ?_
      refine x_getr (p := 68) (k := 71) i_54_40 hs_es rfl rfl ?_
      show aW _ _ _ _ _ _ (43, [some (.ref 132), some (.int (zI bk)), some (.int (zI n)), some (.int (zI kd)), some (.int (zI mo)), some (.int (zI sd)), some (.int (zI (mo % 36))), some (.int (zI (v1 - ((mo % 36) % 6)))), none, none, none, none, none, none, none], [.ref 71], es)
      refine x0 (r := (44, [some (.ref 132), some (.int (zI bk)), some (.int (zI n)), some (.int (zI kd)), some (.int (zI mo)), some (.int (zI sd)), some (.int (zI (mo % 36))), some (.int (zI (v1 - ((mo % 36) % 6)))), none, none, none, none, none, none, none], [.int (zI bk), .ref 71], es)) i_54_43 rfl ?_
      refine x0 (r := (45, [some (.ref 132), some (.int (zI bk)), some (.int (zI n)), some (.int (zI kd)), some (.int (zI mo)), some (.int (zI sd)), some (.int (zI (mo % 36))), some (.int (zI (v1 - ((mo % 36) % 6)))), none, none, none, none, none, none, none], [.int (zI n), .int (zI bk), .ref 71], es)) i_54_44 rfl ?_
      refine x0 (r := (46, [some (.ref 132), some (.int (zI bk)), some (.int (zI n)), some (.int (zI kd)), some (.int (zI mo)), some (.int (zI sd)), some (.int (zI (mo % 36))), some (.int (zI (v1 - ((mo % 36) % 6)))), none, none, none, none, none, none, none], [.int (zI 1), .int (zI n), .int (zI bk), .ref 71], es)) i_54_45 (by rfl) ?_
      refine x_call (vs := [.ref 71, .int (zI bk), .int (zI n), .int (zI 1)]) (rs := []) i_54_46 rfl (fun _ => rfl) rfl rfl rfl rfl rfl (pCall_v (p := 7) hs_es rfl rfl rfl rfl rfl (by decide) rfl rfl rfl rfl rfl) ?_
      show aW _ _ _ _ _ _ (0, [some (.ref 71), some (.int (zI bk)), some (.int (zI n)), some (.int (zI 1))], [], es)
      refine x0 (r := (1, [some (.ref 71), some (.int (zI bk)), some (.int (zI n)), some (.int (zI 1))], [.ref 71], es)) i_43_0 rfl ?_
      refine x_getr (p := 7) (k := 78) i_43_1 hs_es rfl rfl ?_
      show aW _ _ _ _ _ _ (4, [some (.ref 71), some (.int (zI bk)), some (.int (zI n)), some (.int (zI 1))], [.ref 78], es)
      refine x0 (r := (5, [some (.ref 71), some (.int (zI bk)), some (.int (zI n)), some (.int (zI 1))], [.int (zI bk), .ref 78], es)) i_43_4 rfl ?_
      refine x0 (r := (7, [some (.ref 71), some (.int (zI bk)), some (.int (zI n)), some (.int (zI 1))], [.int (zI 24), .int (zI bk), .ref 78], es)) i_43_5 (by rfl) ?_
      refine x_imul i_43_7 ?_
      refine x0 (r := (9, [some (.ref 71), some (.int (zI bk)), some (.int (zI n)), some (.int (zI 1))], [.int (zI n), .int (zI (bk * 24)), .ref 78], es)) i_43_8 rfl ?_
      refine x_iadd i_43_9 ?_
      refine x0 (r := (11, [some (.ref 71), some (.int (zI bk)), some (.int (zI n)), some (.int (zI 1))], [.int (zI 4), .int (zI ((bk * 24) + n)), .ref 78], es)) i_43_10 (by rfl) ?_
      refine x_imul i_43_11 ?_
      refine x0 (r := (13, [some (.ref 71), some (.int (zI bk)), some (.int (zI n)), some (.int (zI 1))], [.int (zI 1), .int (zI (((bk * 24) + n) * 4)), .ref 78], es)) i_43_12 rfl ?_
      refine x_iadd i_43_13 ?_
      refine x_call (vs := [.ref 78, .int (zI ((((bk * 24) + n) * 4) + 1))]) (rs := []) i_43_14 rfl (fun _ => rfl) rfl rfl rfl rfl rfl rfl ?_
      show aW _ _ _ _ _ _ (0, [some (.ref 78), some (.int (zI ((((bk * 24) + n) * 4) + 1)))], [], es)
      refine x0 (r := (1, [some (.ref 78), some (.int (zI ((((bk * 24) + n) * 4) + 1)))], [.int (zI ((((bk * 24) + n) * 4) + 1))], es)) i_28_0 rfl ?_
      refine x_ifF i_28_1 (by unfold i32 iLO iHI; omega) rfl (by simp only [zC, cR]; omega) ?_
      refine x0 (r := (5, [some (.ref 78), some (.int (zI ((((bk * 24) + n) * 4) + 1)))], [.int (zI ((((bk * 24) + n) * 4) + 1))], es)) i_28_4 rfl ?_
      refine x0 (r := (6, [some (.ref 78), some (.int (zI ((((bk * 24) + n) * 4) + 1)))], [.ref 78, .int (zI ((((bk * 24) + n) * 4) + 1))], es)) i_28_5 rfl ?_
      refine x_alen (p := 14) (n := 288) i_28_6 hs_es rfl ?_
      refine x_cmpF i_28_7 (by unfold i32 iLO iHI; omega) (by unfold i32 iLO iHI; omega) rfl (by simp only [zC, cR]; omega) ?_
      refine x0 (r := (11, [some (.ref 78), some (.int (zI ((((bk * 24) + n) * 4) + 1)))], [.ref 78], es)) i_28_10 rfl ?_
      refine x0 (r := (12, [some (.ref 78), some (.int (zI ((((bk * 24) + n) * 4) + 1)))], [.int (zI ((((bk * 24) + n) * 4) + 1)), .ref 78], es)) i_28_11 rfl ?_
      refine x_iald (p := 14) i_28_12 hs_es rfl (by unfold i32 iLO iHI; omega) (by omega) (by omega) ?_
      obtain ⟨v4, e_v4⟩ : ∃ z : Int, z = (gA es 14 ((((bk * 24) + n) * 4) + 1).toNat).toInt := ⟨_, rfl⟩
      rw [← e_v4]
      have r_v4 : iLO ≤ v4 ∧ v4 ≤ iHI := by rw [e_v4]; exact i32_rng _
      unfold iLO iHI at r_v4
      refine x0 (r := (17, [some (.ref 78), some (.int (zI ((((bk * 24) + n) * 4) + 1)))], [.int (zI v4)], es)) i_28_13 rfl ?_
      refine x_ret (v := some (.int (zI v4))) i_28_17 rfl (fun _ => rfl) rfl rfl rfl ?_
      show aW _ _ _ _ _ _ (17, [some (.ref 71), some (.int (zI bk)), some (.int (zI n)), some (.int (zI 1))], [.int (zI v4)], es)
      refine x_ret (v := some (.int (zI v4))) i_43_17 rfl (fun _ => rfl) rfl rfl rfl ?_
      show aW _ _ _ _ _ _ (49, [some (.ref 132), some (.int (zI bk)), some (.int (zI n)), some (.int (zI kd)), some (.int (zI mo)), some (.int (zI sd)), some (.int (zI (mo % 36))), some (.int (zI (v1 - ((mo % 36) % 6)))), none, none, none, none, none, none, none], [.int (zI v4)], es)
      refine x0 (r := (51, [some (.ref 132), some (.int (zI bk)), some (.int (zI n)), some (.int (zI kd)), some (.int (zI mo)), some (.int (zI sd)), some (.int (zI (mo % 36))), some (.int (zI (v1 - ((mo % 36) % 6)))), some (.int (zI v4)), none, none, none, none, none, none], [], es)) i_54_49 rfl ?_
      refine x0 (r := (52, [some (.ref 132), some (.int (zI bk)), some (.int (zI n)), some (.int (zI kd)), some (.int (zI mo)), some (.int (zI sd)), some (.int (zI (mo % 36))), some (.int (zI (v1 - ((mo % 36) % 6)))), some (.int (zI v4)), none, none, none, none, none, none], [.ref 132], es)) i_54_51 rfl ?_
      refine x_getr (p := 68) (k := 71) i_54_52 hs_es rfl rfl ?_
      show aW _ _ _ _ _ _ (55, [some (.ref 132), some (.int (zI bk)), some (.int (zI n)), some (.int (zI kd)), some (.int (zI mo)), some (.int (zI sd)), some (.int (zI (mo % 36))), some (.int (zI (v1 - ((mo % 36) % 6)))), some (.int (zI v4)), none, none, none, none, none, none], [.ref 71], es)
      refine x0 (r := (56, [some (.ref 132), some (.int (zI bk)), some (.int (zI n)), some (.int (zI kd)), some (.int (zI mo)), some (.int (zI sd)), some (.int (zI (mo % 36))), some (.int (zI (v1 - ((mo % 36) % 6)))), some (.int (zI v4)), none, none, none, none, none, none], [.int (zI bk), .ref 71], es)) i_54_55 rfl ?_
      refine x0 (r := (57, [some (.ref 132), some (.int (zI bk)), some (.int (zI n)), some (.int (zI kd)), some (.int (zI mo)), some (.int (zI sd)), some (.int (zI (mo % 36))), some (.int (zI (v1 - ((mo % 36) % 6)))), some (.int (zI v4)), none, none, none, none, none, none], [.int (zI n), .int (zI bk), .ref 71], es)) i_54_56 rfl ?_
      refine x0 (r := (58, [some (.ref 132), some (.int (zI bk)), some (.int (zI n)), some (.int (zI kd)), some (.int (zI mo)), some (.int (zI sd)), some (.int (zI (mo % 36))), some (.int (zI (v1 - ((mo % 36) % 6)))), some (.int (zI v4)), none, none, none, none, none, none], [.int (zI 3), .int (zI n), .int (zI bk), .ref 71], es)) i_54_57 (by rfl) ?_
      refine x_call (vs := [.ref 71, .int (zI bk), .int (zI n), .int (zI 3)]) (rs := []) i_54_58 rfl (fun _ => rfl) rfl rfl rfl rfl rfl (pCall_v (p := 7) hs_es rfl rfl rfl rfl rfl (by decide) rfl rfl rfl rfl rfl) ?_
      show aW _ _ _ _ _ _ (0, [some (.ref 71), some (.int (zI bk)), some (.int (zI n)), some (.int (zI 3))], [], es)
      refine x0 (r := (1, [some (.ref 71), some (.int (zI bk)), some (.int (zI n)), some (.int (zI 3))], [.ref 71], es)) i_43_0 rfl ?_
      refine x_getr (p := 7) (k := 78) i_43_1 hs_es rfl rfl ?_
      show aW _ _ _ _ _ _ (4, [some (.ref 71), some (.int (zI bk)), some (.int (zI n)), some (.int (zI 3))], [.ref 78], es)
      refine x0 (r := (5, [some (.ref 71), some (.int (zI bk)), some (.int (zI n)), some (.int (zI 3))], [.int (zI bk), .ref 78], es)) i_43_4 rfl ?_
      refine x0 (r := (7, [some (.ref 71), some (.int (zI bk)), some (.int (zI n)), some (.int (zI 3))], [.int (zI 24), .int (zI bk), .ref 78], es)) i_43_5 (by rfl) ?_
      refine x_imul i_43_7 ?_
      refine x0 (r := (9, [some (.ref 71), some (.int (zI bk)), some (.int (zI n)), some (.int (zI 3))], [.int (zI n), .int (zI (bk * 24)), .ref 78], es)) i_43_8 rfl ?_
      refine x_iadd i_43_9 ?_
      refine x0 (r := (11, [some (.ref 71), some (.int (zI bk)), some (.int (zI n)), some (.int (zI 3))], [.int (zI 4), .int (zI ((bk * 24) + n)), .ref 78], es)) i_43_10 (by rfl) ?_
      refine x_imul i_43_11 ?_
      refine x0 (r := (13, [some (.ref 71), some (.int (zI bk)), some (.int (zI n)), some (.int (zI 3))], [.int (zI 3), .int (zI (((bk * 24) + n) * 4)), .ref 78], es)) i_43_12 rfl ?_
      refine x_iadd i_43_13 ?_
      refine x_call (vs := [.ref 78, .int (zI ((((bk * 24) + n) * 4) + 3))]) (rs := []) i_43_14 rfl (fun _ => rfl) rfl rfl rfl rfl rfl rfl ?_
      show aW _ _ _ _ _ _ (0, [some (.ref 78), some (.int (zI ((((bk * 24) + n) * 4) + 3)))], [], es)
      refine x0 (r := (1, [some (.ref 78), some (.int (zI ((((bk * 24) + n) * 4) + 3)))], [.int (zI ((((bk * 24) + n) * 4) + 3))], es)) i_28_0 rfl ?_
      refine x_ifF i_28_1 (by unfold i32 iLO iHI; omega) rfl (by simp only [zC, cR]; omega) ?_
      refine x0 (r := (5, [some (.ref 78), some (.int (zI ((((bk * 24) + n) * 4) + 3)))], [.int (zI ((((bk * 24) + n) * 4) + 3))], es)) i_28_4 rfl ?_
      refine x0 (r := (6, [some (.ref 78), some (.int (zI ((((bk * 24) + n) * 4) + 3)))], [.ref 78, .int (zI ((((bk * 24) + n) * 4) + 3))], es)) i_28_5 rfl ?_
      refine x_alen (p := 14) (n := 288) i_28_6 hs_es rfl ?_
      refine x_cmpF i_28_7 (by unfold i32 iLO iHI; omega) (by unfold i32 iLO iHI; omega) rfl (by simp only [zC, cR]; omega) ?_
      refine x0 (r := (11, [some (.ref 78), some (.int (zI ((((bk * 24) + n) * 4) + 3)))], [.ref 78], es)) i_28_10 rfl ?_
      refine x0 (r := (12, [some (.ref 78), some (.int (zI ((((bk * 24) + n) * 4) + 3)))], [.int (zI ((((bk * 24) + n) * 4) + 3)), .ref 78], es)) i_28_11 rfl ?_
      refine x_iald (p := 14) i_28_12 hs_es rfl (by unfold i32 iLO iHI; omega) (by omega) (by omega) ?_
      obtain ⟨v5, e_v5⟩ : ∃ z : Int, z = (gA es 14 ((((bk * 24) + n) * 4) + 3).toNat).toInt := ⟨_, rfl⟩
      rw [← e_v5]
      have r_v5 : iLO ≤ v5 ∧ v5 ≤ iHI := by rw [e_v5]; exact i32_rng _
      unfold iLO iHI at r_v5
      refine x0 (r := (17, [some (.ref 78), some (.int (zI ((((bk * 24) + n) * 4) + 3)))], [.int (zI v5)], es)) i_28_13 rfl ?_
      refine x_ret (v := some (.int (zI v5))) i_28_17 rfl (fun _ => rfl) rfl rfl rfl ?_
      show aW _ _ _ _ _ _ (17, [some (.ref 71), some (.int (zI bk)), some (.int (zI n)), some (.int (zI 3))], [.int (zI v5)], es)
      refine x_ret (v := some (.int (zI v5))) i_43_17 rfl (fun _ => rfl) rfl rfl rfl ?_
      show aW _ _ _ _ _ _ (61, [some (.ref 132), some (.int (zI bk)), some (.int (zI n)), some (.int (zI kd)), some (.int (zI mo)), some (.int (zI sd)), some (.int (zI (mo % 36))), some (.int (zI (v1 - ((mo % 36) % 6)))), some (.int (zI v4)), none, none, none, none, none, none], [.int (zI v5)], es)
      refine x0 (r := (63, [some (.ref 132), some (.int (zI bk)), some (.int (zI n)), some (.int (zI kd)), some (.int (zI mo)), some (.int (zI sd)), some (.int (zI (mo % 36))), some (.int (zI (v1 - ((mo % 36) % 6)))), some (.int (zI v4)), some (.int (zI v5)), none, none, none, none, none], [], es)) i_54_61 rfl ?_
      refine x0 (r := (65, [some (.ref 132), some (.int (zI bk)), some (.int (zI n)), some (.int (zI kd)), some (.int (zI mo)), some (.int (zI sd)), some (.int (zI (mo % 36))), some (.int (zI (v1 - ((mo % 36) % 6)))), some (.int (zI v4)), some (.int (zI v5)), none, none, none, none, none], [.int (zI (mo % 36))], es)) i_54_63 rfl ?_
      refine x0 (r := (67, [some (.ref 132), some (.int (zI bk)), some (.int (zI n)), some (.int (zI kd)), some (.int (zI mo)), some (.int (zI sd)), some (.int (zI (mo % 36))), some (.int (zI (v1 - ((mo % 36) % 6)))), some (.int (zI v4)), some (.int (zI v5)), none, none, none, none, none], [.int (zI 6), .int (zI (mo % 36))], es)) i_54_65 (by rfl) ?_
      refine x_idivn i_54_67 (by omega) (by unfold i32 iLO iHI; omega) (by unfold i32 iLO iHI; omega) (by omega) ?_
      refine x0 (r := (69, [some (.ref 132), some (.int (zI bk)), some (.int (zI n)), some (.int (zI kd)), some (.int (zI mo)), some (.int (zI sd)), some (.int (zI (mo % 36))), some (.int (zI (v1 - ((mo % 36) % 6)))), some (.int (zI v4)), some (.int (zI v5)), none, none, none, none, none], [.ref 132, .int (zI ((mo % 36) / 6))], es)) i_54_68 rfl ?_
      refine x_getr (p := 68) (k := 117) i_54_69 hs_es rfl rfl ?_
      show aW _ _ _ _ _ _ (72, [some (.ref 132), some (.int (zI bk)), some (.int (zI n)), some (.int (zI kd)), some (.int (zI mo)), some (.int (zI sd)), some (.int (zI (mo % 36))), some (.int (zI (v1 - ((mo % 36) % 6)))), some (.int (zI v4)), some (.int (zI v5)), none, none, none, none, none], [.ref 117, .int (zI ((mo % 36) / 6))], es)
      refine x_getr (p := 53) (k := 118) i_54_72 hs_es rfl rfl ?_
      show aW _ _ _ _ _ _ (75, [some (.ref 132), some (.int (zI bk)), some (.int (zI n)), some (.int (zI kd)), some (.int (zI mo)), some (.int (zI sd)), some (.int (zI (mo % 36))), some (.int (zI (v1 - ((mo % 36) % 6)))), some (.int (zI v4)), some (.int (zI v5)), none, none, none, none, none], [.ref 118, .int (zI ((mo % 36) / 6))], es)
      refine x0 (r := (76, [some (.ref 132), some (.int (zI bk)), some (.int (zI n)), some (.int (zI kd)), some (.int (zI mo)), some (.int (zI sd)), some (.int (zI (mo % 36))), some (.int (zI (v1 - ((mo % 36) % 6)))), some (.int (zI v4)), some (.int (zI v5)), none, none, none, none, none], [.int (zI bk), .ref 118, .int (zI ((mo % 36) / 6))], es)) i_54_75 rfl ?_
      refine x_call (vs := [.ref 118, .int (zI bk)]) (rs := [.int (zI ((mo % 36) / 6))]) i_54_76 rfl (fun _ => rfl) rfl rfl rfl rfl rfl rfl ?_
      show aW _ _ _ _ _ _ (0, [some (.ref 118), some (.int (zI bk))], [], es)
      refine x0 (r := (1, [some (.ref 118), some (.int (zI bk))], [.int (zI bk)], es)) i_28_0 rfl ?_
      refine x_ifF i_28_1 (by unfold i32 iLO iHI; omega) rfl (by simp only [zC, cR]; omega) ?_
      refine x0 (r := (5, [some (.ref 118), some (.int (zI bk))], [.int (zI bk)], es)) i_28_4 rfl ?_
      refine x0 (r := (6, [some (.ref 118), some (.int (zI bk))], [.ref 118, .int (zI bk)], es)) i_28_5 rfl ?_
      refine x_alen (p := 54) (n := 3) i_28_6 hs_es rfl ?_
      refine x_cmpF i_28_7 (by unfold i32 iLO iHI; omega) (by unfold i32 iLO iHI; omega) rfl (by simp only [zC, cR]; omega) ?_
      refine x0 (r := (11, [some (.ref 118), some (.int (zI bk))], [.ref 118], es)) i_28_10 rfl ?_
      refine x0 (r := (12, [some (.ref 118), some (.int (zI bk))], [.int (zI bk), .ref 118], es)) i_28_11 rfl ?_
      refine x_iald (p := 54) i_28_12 hs_es rfl (by unfold i32 iLO iHI; omega) (by omega) (by omega) ?_
      rw [show (gA es 54 bk.toNat).toInt = wy from by exact hwy]
      have r_wy : -2147483648 ≤ wy ∧ wy ≤ 2147483647 := by
        have hh := i32_rng (gA es 54 bk.toNat)
        rw [hwy] at hh
        exact hh
      refine x0 (r := (17, [some (.ref 118), some (.int (zI bk))], [.int (zI wy)], es)) i_28_13 rfl ?_
      refine x_ret (v := some (.int (zI wy))) i_28_17 rfl (fun _ => rfl) rfl rfl rfl ?_
      show aW _ _ _ _ _ _ (79, [some (.ref 132), some (.int (zI bk)), some (.int (zI n)), some (.int (zI kd)), some (.int (zI mo)), some (.int (zI sd)), some (.int (zI (mo % 36))), some (.int (zI (v1 - ((mo % 36) % 6)))), some (.int (zI v4)), some (.int (zI v5)), none, none, none, none, none], [.int (zI wy), .int (zI ((mo % 36) / 6))], es)
      refine x0 (r := (81, [some (.ref 132), some (.int (zI bk)), some (.int (zI n)), some (.int (zI kd)), some (.int (zI mo)), some (.int (zI sd)), some (.int (zI (mo % 36))), some (.int (zI (v1 - ((mo % 36) % 6)))), some (.int (zI v4)), some (.int (zI v5)), none, none, none, none, none], [.int (zI sd), .int (zI wy), .int (zI ((mo % 36) / 6))], es)) i_54_79 rfl ?_
      refine x_call (vs := [.int (zI ((mo % 36) / 6)), .int (zI wy), .int (zI sd)]) (rs := []) i_54_81 rfl (fun _ => rfl) rfl rfl rfl rfl rfl rfl ?_
      show aW _ _ _ _ _ _ (0, [some (.int (zI ((mo % 36) / 6))), some (.int (zI wy)), some (.int (zI sd))], [], es)
      refine x0 (r := (1, [some (.int (zI ((mo % 36) / 6))), some (.int (zI wy)), some (.int (zI sd))], [.int (zI wy)], es)) i_44_0 rfl ?_
      refine x0 (r := (2, [some (.int (zI ((mo % 36) / 6))), some (.int (zI wy)), some (.int (zI sd))], [.int (zI 1), .int (zI wy)], es)) i_44_1 (by rfl) ?_
      by_cases c6 : wy ≠ 1
      · refine x_cmpT i_44_2 (by unfold i32 iLO iHI; omega) (by unfold i32 iLO iHI; omega) rfl (by simp only [zC, cR]; omega) ?_
        refine x0 (r := (17, [some (.int (zI ((mo % 36) / 6))), some (.int (zI wy)), some (.int (zI sd))], [.int (zI ((mo % 36) / 6))], es)) i_44_16 rfl ?_
        refine x_ret (v := some (.int (zI ((mo % 36) / 6)))) i_44_17 rfl (fun _ => rfl) rfl rfl rfl ?_
        show aW _ _ _ _ _ _ (84, [some (.ref 132), some (.int (zI bk)), some (.int (zI n)), some (.int (zI kd)), some (.int (zI mo)), some (.int (zI sd)), some (.int (zI (mo % 36))), some (.int (zI (v1 - ((mo % 36) % 6)))), some (.int (zI v4)), some (.int (zI v5)), none, none, none, none, none], [.int (zI ((mo % 36) / 6))], es)
        refine x0 (r := (86, [some (.ref 132), some (.int (zI bk)), some (.int (zI n)), some (.int (zI kd)), some (.int (zI mo)), some (.int (zI sd)), some (.int (zI (mo % 36))), some (.int (zI (v1 - ((mo % 36) % 6)))), some (.int (zI v4)), some (.int (zI v5)), some (.int (zI ((mo % 36) / 6))), none, none, none, none], [], es)) i_54_84 rfl ?_
        refine x0 (r := (87, [some (.ref 132), some (.int (zI bk)), some (.int (zI n)), some (.int (zI kd)), some (.int (zI mo)), some (.int (zI sd)), some (.int (zI (mo % 36))), some (.int (zI (v1 - ((mo % 36) % 6)))), some (.int (zI v4)), some (.int (zI v5)), some (.int (zI ((mo % 36) / 6))), none, none, none, none], [.ref 132], es)) i_54_86 rfl ?_
        refine x_getr (p := 68) (k := 71) i_54_87 hs_es rfl rfl ?_
        show aW _ _ _ _ _ _ (90, [some (.ref 132), some (.int (zI bk)), some (.int (zI n)), some (.int (zI kd)), some (.int (zI mo)), some (.int (zI sd)), some (.int (zI (mo % 36))), some (.int (zI (v1 - ((mo % 36) % 6)))), some (.int (zI v4)), some (.int (zI v5)), some (.int (zI ((mo % 36) / 6))), none, none, none, none], [.ref 71], es)
        refine x0 (r := (91, [some (.ref 132), some (.int (zI bk)), some (.int (zI n)), some (.int (zI kd)), some (.int (zI mo)), some (.int (zI sd)), some (.int (zI (mo % 36))), some (.int (zI (v1 - ((mo % 36) % 6)))), some (.int (zI v4)), some (.int (zI v5)), some (.int (zI ((mo % 36) / 6))), none, none, none, none], [.int (zI bk), .ref 71], es)) i_54_90 rfl ?_
        refine x0 (r := (92, [some (.ref 132), some (.int (zI bk)), some (.int (zI n)), some (.int (zI kd)), some (.int (zI mo)), some (.int (zI sd)), some (.int (zI (mo % 36))), some (.int (zI (v1 - ((mo % 36) % 6)))), some (.int (zI v4)), some (.int (zI v5)), some (.int (zI ((mo % 36) / 6))), none, none, none, none], [.int (zI n), .int (zI bk), .ref 71], es)) i_54_91 rfl ?_
        refine x0 (r := (93, [some (.ref 132), some (.int (zI bk)), some (.int (zI n)), some (.int (zI kd)), some (.int (zI mo)), some (.int (zI sd)), some (.int (zI (mo % 36))), some (.int (zI (v1 - ((mo % 36) % 6)))), some (.int (zI v4)), some (.int (zI v5)), some (.int (zI ((mo % 36) / 6))), none, none, none, none], [.int (zI 0), .int (zI n), .int (zI bk), .ref 71], es)) i_54_92 (by rfl) ?_
        refine x_call (vs := [.ref 71, .int (zI bk), .int (zI n), .int (zI 0)]) (rs := []) i_54_93 rfl (fun _ => rfl) rfl rfl rfl rfl rfl (pCall_v (p := 7) hs_es rfl rfl rfl rfl rfl (by decide) rfl rfl rfl rfl rfl) ?_
        show aW _ _ _ _ _ _ (0, [some (.ref 71), some (.int (zI bk)), some (.int (zI n)), some (.int (zI 0))], [], es)
        refine x0 (r := (1, [some (.ref 71), some (.int (zI bk)), some (.int (zI n)), some (.int (zI 0))], [.ref 71], es)) i_43_0 rfl ?_
        refine x_getr (p := 7) (k := 78) i_43_1 hs_es rfl rfl ?_
        show aW _ _ _ _ _ _ (4, [some (.ref 71), some (.int (zI bk)), some (.int (zI n)), some (.int (zI 0))], [.ref 78], es)
        refine x0 (r := (5, [some (.ref 71), some (.int (zI bk)), some (.int (zI n)), some (.int (zI 0))], [.int (zI bk), .ref 78], es)) i_43_4 rfl ?_
        refine x0 (r := (7, [some (.ref 71), some (.int (zI bk)), some (.int (zI n)), some (.int (zI 0))], [.int (zI 24), .int (zI bk), .ref 78], es)) i_43_5 (by rfl) ?_
        refine x_imul i_43_7 ?_
        refine x0 (r := (9, [some (.ref 71), some (.int (zI bk)), some (.int (zI n)), some (.int (zI 0))], [.int (zI n), .int (zI (bk * 24)), .ref 78], es)) i_43_8 rfl ?_
        refine x_iadd i_43_9 ?_
        refine x0 (r := (11, [some (.ref 71), some (.int (zI bk)), some (.int (zI n)), some (.int (zI 0))], [.int (zI 4), .int (zI ((bk * 24) + n)), .ref 78], es)) i_43_10 (by rfl) ?_
        refine x_imul i_43_11 ?_
        refine x0 (r := (13, [some (.ref 71), some (.int (zI bk)), some (.int (zI n)), some (.int (zI 0))], [.int (zI 0), .int (zI (((bk * 24) + n) * 4)), .ref 78], es)) i_43_12 rfl ?_
        refine x_iadd i_43_13 ?_
        refine x_call (vs := [.ref 78, .int (zI ((((bk * 24) + n) * 4) + 0))]) (rs := []) i_43_14 rfl (fun _ => rfl) rfl rfl rfl rfl rfl rfl ?_
        show aW _ _ _ _ _ _ (0, [some (.ref 78), some (.int (zI ((((bk * 24) + n) * 4) + 0)))], [], es)
        refine x0 (r := (1, [some (.ref 78), some (.int (zI ((((bk * 24) + n) * 4) + 0)))], [.int (zI ((((bk * 24) + n) * 4) + 0))], es)) i_28_0 rfl ?_
        refine x_ifF i_28_1 (by unfold i32 iLO iHI; omega) rfl (by simp only [zC, cR]; omega) ?_
        refine x0 (r := (5, [some (.ref 78), some (.int (zI ((((bk * 24) + n) * 4) + 0)))], [.int (zI ((((bk * 24) + n) * 4) + 0))], es)) i_28_4 rfl ?_
        refine x0 (r := (6, [some (.ref 78), some (.int (zI ((((bk * 24) + n) * 4) + 0)))], [.ref 78, .int (zI ((((bk * 24) + n) * 4) + 0))], es)) i_28_5 rfl ?_
        refine x_alen (p := 14) (n := 288) i_28_6 hs_es rfl ?_
        refine x_cmpF i_28_7 (by unfold i32 iLO iHI; omega) (by unfold i32 iLO iHI; omega) rfl (by simp only [zC, cR]; omega) ?_
        refine x0 (r := (11, [some (.ref 78), some (.int (zI ((((bk * 24) + n) * 4) + 0)))], [.ref 78], es)) i_28_10 rfl ?_
        refine x0 (r := (12, [some (.ref 78), some (.int (zI ((((bk * 24) + n) * 4) + 0)))], [.int (zI ((((bk * 24) + n) * 4) + 0)), .ref 78], es)) i_28_11 rfl ?_
        refine x_iald (p := 14) i_28_12 hs_es rfl (by unfold i32 iLO iHI; omega) (by omega) (by omega) ?_
        obtain ⟨v7, e_v7⟩ : ∃ z : Int, z = (gA es 14 ((((bk * 24) + n) * 4) + 0).toNat).toInt := ⟨_, rfl⟩
        rw [← e_v7]
        have r_v7 : iLO ≤ v7 ∧ v7 ≤ iHI := by rw [e_v7]; exact i32_rng _
        unfold iLO iHI at r_v7
        refine x0 (r := (17, [some (.ref 78), some (.int (zI ((((bk * 24) + n) * 4) + 0)))], [.int (zI v7)], es)) i_28_13 rfl ?_
        refine x_ret (v := some (.int (zI v7))) i_28_17 rfl (fun _ => rfl) rfl rfl rfl ?_
        show aW _ _ _ _ _ _ (17, [some (.ref 71), some (.int (zI bk)), some (.int (zI n)), some (.int (zI 0))], [.int (zI v7)], es)
        refine x_ret (v := some (.int (zI v7))) i_43_17 rfl (fun _ => rfl) rfl rfl rfl ?_
        show aW _ _ _ _ _ _ (96, [some (.ref 132), some (.int (zI bk)), some (.int (zI n)), some (.int (zI kd)), some (.int (zI mo)), some (.int (zI sd)), some (.int (zI (mo % 36))), some (.int (zI (v1 - ((mo % 36) % 6)))), some (.int (zI v4)), some (.int (zI v5)), some (.int (zI ((mo % 36) / 6))), none, none, none, none], [.int (zI v7)], es)
        refine x0 (r := (97, [some (.ref 132), some (.int (zI bk)), some (.int (zI n)), some (.int (zI kd)), some (.int (zI mo)), some (.int (zI sd)), some (.int (zI (mo % 36))), some (.int (zI (v1 - ((mo % 36) % 6)))), some (.int (zI v4)), some (.int (zI v5)), some (.int (zI ((mo % 36) / 6))), none, none, none, none], [.int (zI kd), .int (zI v7)], es)) i_54_96 rfl ?_
        by_cases c8 : v7 ≠ kd
        · refine x_cmpT i_54_97 (by unfold i32 iLO iHI; omega) (by unfold i32 iLO iHI; omega) rfl (by simp only [zC, cR]; omega) ?_
          refine x0 (r := (105, [some (.ref 132), some (.int (zI bk)), some (.int (zI n)), some (.int (zI kd)), some (.int (zI mo)), some (.int (zI sd)), some (.int (zI (mo % 36))), some (.int (zI (v1 - ((mo % 36) % 6)))), some (.int (zI v4)), some (.int (zI v5)), some (.int (zI ((mo % 36) / 6))), none, none, none, none], [.int (zI 0)], es)) i_54_104 (by rfl) ?_
          refine x0 (r := (107, [some (.ref 132), some (.int (zI bk)), some (.int (zI n)), some (.int (zI kd)), some (.int (zI mo)), some (.int (zI sd)), some (.int (zI (mo % 36))), some (.int (zI (v1 - ((mo % 36) % 6)))), some (.int (zI v4)), some (.int (zI v5)), some (.int (zI ((mo % 36) / 6))), some (.int (zI 0)), none, none, none], [], es)) i_54_105 rfl ?_
          refine x0 (r := (109, [some (.ref 132), some (.int (zI bk)), some (.int (zI n)), some (.int (zI kd)), some (.int (zI mo)), some (.int (zI sd)), some (.int (zI (mo % 36))), some (.int (zI (v1 - ((mo % 36) % 6)))), some (.int (zI v4)), some (.int (zI v5)), some (.int (zI ((mo % 36) / 6))), some (.int (zI 0)), none, none, none], [.int (zI v4)], es)) i_54_107 rfl ?_
          refine x0 (r := (110, [some (.ref 132), some (.int (zI bk)), some (.int (zI n)), some (.int (zI kd)), some (.int (zI mo)), some (.int (zI sd)), some (.int (zI (mo % 36))), some (.int (zI (v1 - ((mo % 36) % 6)))), some (.int (zI v4)), some (.int (zI v5)), some (.int (zI ((mo % 36) / 6))), some (.int (zI 0)), none, none, none], [.int (zI (-1)), .int (zI v4)], es)) i_54_109 (by rfl) ?_
          by_cases c9 : v4 = (-1)
          · refine x_cmpT i_54_110 (by unfold i32 iLO iHI; omega) (by unfold i32 iLO iHI; omega) rfl (by simp only [zC, cR]; omega) ?_
            refine x0 (r := (127, [some (.ref 132), some (.int (zI bk)), some (.int (zI n)), some (.int (zI kd)), some (.int (zI mo)), some (.int (zI sd)), some (.int (zI (mo % 36))), some (.int (zI (v1 - ((mo % 36) % 6)))), some (.int (zI v4)), some (.int (zI v5)), some (.int (zI ((mo % 36) / 6))), some (.int (zI 0)), none, none, none], [.int (zI 1)], es)) i_54_126 (by rfl) ?_
            refine x0 (r := (131, [some (.ref 132), some (.int (zI bk)), some (.int (zI n)), some (.int (zI kd)), some (.int (zI mo)), some (.int (zI sd)), some (.int (zI (mo % 36))), some (.int (zI (v1 - ((mo % 36) % 6)))), some (.int (zI v4)), some (.int (zI v5)), some (.int (zI ((mo % 36) / 6))), some (.int (zI 0)), none, none, none], [.int (zI 1)], es)) i_54_127 rfl ?_
            refine x0 (r := (133, [some (.ref 132), some (.int (zI bk)), some (.int (zI n)), some (.int (zI kd)), some (.int (zI mo)), some (.int (zI sd)), some (.int (zI (mo % 36))), some (.int (zI (v1 - ((mo % 36) % 6)))), some (.int (zI v4)), some (.int (zI v5)), some (.int (zI ((mo % 36) / 6))), some (.int (zI 0)), some (.int (zI 1)), none, none], [], es)) i_54_131 rfl ?_
            exact K2 v1 e_v1 c2 c3 v4 e_v4 v5 e_v5 c6 v7 e_v7 c8 c9
          · refine x_cmpF i_54_110 (by unfold i32 iLO iHI; omega) (by unfold i32 iLO iHI; omega) rfl (by simp only [zC, cR]; omega) ?_
            refine x0 (r := (115, [some (.ref 132), some (.int (zI bk)), some (.int (zI n)), some (.int (zI kd)), some (.int (zI mo)), some (.int (zI sd)), some (.int (zI (mo % 36))), some (.int (zI (v1 - ((mo % 36) % 6)))), some (.int (zI v4)), some (.int (zI v5)), some (.int (zI ((mo % 36) / 6))), some (.int (zI 0)), none, none, none], [.int (zI v4)], es)) i_54_113 rfl ?_
            refine x0 (r := (117, [some (.ref 132), some (.int (zI bk)), some (.int (zI n)), some (.int (zI kd)), some (.int (zI mo)), some (.int (zI sd)), some (.int (zI (mo % 36))), some (.int (zI (v1 - ((mo % 36) % 6)))), some (.int (zI v4)), some (.int (zI v5)), some (.int (zI ((mo % 36) / 6))), some (.int (zI 0)), none, none, none], [.int (zI mo), .int (zI v4)], es)) i_54_115 rfl ?_
            refine x0 (r := (119, [some (.ref 132), some (.int (zI bk)), some (.int (zI n)), some (.int (zI kd)), some (.int (zI mo)), some (.int (zI sd)), some (.int (zI (mo % 36))), some (.int (zI (v1 - ((mo % 36) % 6)))), some (.int (zI v4)), some (.int (zI v5)), some (.int (zI ((mo % 36) / 6))), some (.int (zI 0)), none, none, none], [.int (zI 36), .int (zI mo), .int (zI v4)], es)) i_54_117 (by rfl) ?_
            refine x_idivn i_54_119 (by omega) (by unfold i32 iLO iHI; omega) (by unfold i32 iLO iHI; omega) (by omega) ?_
            refine x0 (r := (122, [some (.ref 132), some (.int (zI bk)), some (.int (zI n)), some (.int (zI kd)), some (.int (zI mo)), some (.int (zI sd)), some (.int (zI (mo % 36))), some (.int (zI (v1 - ((mo % 36) % 6)))), some (.int (zI v4)), some (.int (zI v5)), some (.int (zI ((mo % 36) / 6))), some (.int (zI 0)), none, none, none], [.int (zI 6), .int (zI (mo / 36)), .int (zI v4)], es)) i_54_120 (by rfl) ?_
            refine x_iremn i_54_122 (by omega) (by unfold i32 iLO iHI; omega) (by unfold i32 iLO iHI; omega) (by omega) ?_
            by_cases c10 : v4 ≠ ((mo / 36) % 6)
            · refine x_cmpT i_54_123 (by unfold i32 iLO iHI; omega) (by unfold i32 iLO iHI; omega) rfl (by simp only [zC, cR]; omega) ?_
              refine x0 (r := (131, [some (.ref 132), some (.int (zI bk)), some (.int (zI n)), some (.int (zI kd)), some (.int (zI mo)), some (.int (zI sd)), some (.int (zI (mo % 36))), some (.int (zI (v1 - ((mo % 36) % 6)))), some (.int (zI v4)), some (.int (zI v5)), some (.int (zI ((mo % 36) / 6))), some (.int (zI 0)), none, none, none], [.int (zI 0)], es)) i_54_130 (by rfl) ?_
              refine x0 (r := (133, [some (.ref 132), some (.int (zI bk)), some (.int (zI n)), some (.int (zI kd)), some (.int (zI mo)), some (.int (zI sd)), some (.int (zI (mo % 36))), some (.int (zI (v1 - ((mo % 36) % 6)))), some (.int (zI v4)), some (.int (zI v5)), some (.int (zI ((mo % 36) / 6))), some (.int (zI 0)), some (.int (zI 0)), none, none], [], es)) i_54_131 rfl ?_
              exact K3 v1 e_v1 c2 c3 v4 e_v4 v5 e_v5 c6 v7 e_v7 c8 c9 c10
            · refine x_cmpF i_54_123 (by unfold i32 iLO iHI; omega) (by unfold i32 iLO iHI; omega) rfl (by simp only [zC, cR]; omega) ?_
              refine x0 (r := (127, [some (.ref 132), some (.int (zI bk)), some (.int (zI n)), some (.int (zI kd)), some (.int (zI mo)), some (.int (zI sd)), some (.int (zI (mo % 36))), some (.int (zI (v1 - ((mo % 36) % 6)))), some (.int (zI v4)), some (.int (zI v5)), some (.int (zI ((mo % 36) / 6))), some (.int (zI 0)), none, none, none], [.int (zI 1)], es)) i_54_126 (by rfl) ?_
              refine x0 (r := (131, [some (.ref 132), some (.int (zI bk)), some (.int (zI n)), some (.int (zI kd)), some (.int (zI mo)), some (.int (zI sd)), some (.int (zI (mo % 36))), some (.int (zI (v1 - ((mo % 36) % 6)))), some (.int (zI v4)), some (.int (zI v5)), some (.int (zI ((mo % 36) / 6))), some (.int (zI 0)), none, none, none], [.int (zI 1)], es)) i_54_127 rfl ?_
              refine x0 (r := (133, [some (.ref 132), some (.int (zI bk)), some (.int (zI n)), some (.int (zI kd)), some (.int (zI mo)), some (.int (zI sd)), some (.int (zI (mo % 36))), some (.int (zI (v1 - ((mo % 36) % 6)))), some (.int (zI v4)), some (.int (zI v5)), some (.int (zI ((mo % 36) / 6))), some (.int (zI 0)), some (.int (zI 1)), none, none], [], es)) i_54_131 rfl ?_
              exact K4 v1 e_v1 c2 c3 v4 e_v4 v5 e_v5 c6 v7 e_v7 c8 c9 c10
        · refine x_cmpF i_54_97 (by unfold i32 iLO iHI; omega) (by unfold i32 iLO iHI; omega) rfl (by simp only [zC, cR]; omega) ?_
          refine x0 (r := (101, [some (.ref 132), some (.int (zI bk)), some (.int (zI n)), some (.int (zI kd)), some (.int (zI mo)), some (.int (zI sd)), some (.int (zI (mo % 36))), some (.int (zI (v1 - ((mo % 36) % 6)))), some (.int (zI v4)), some (.int (zI v5)), some (.int (zI ((mo % 36) / 6))), none, none, none, none], [.int (zI 1)], es)) i_54_100 (by rfl) ?_
          refine x0 (r := (105, [some (.ref 132), some (.int (zI bk)), some (.int (zI n)), some (.int (zI kd)), some (.int (zI mo)), some (.int (zI sd)), some (.int (zI (mo % 36))), some (.int (zI (v1 - ((mo % 36) % 6)))), some (.int (zI v4)), some (.int (zI v5)), some (.int (zI ((mo % 36) / 6))), none, none, none, none], [.int (zI 1)], es)) i_54_101 rfl ?_
          refine x0 (r := (107, [some (.ref 132), some (.int (zI bk)), some (.int (zI n)), some (.int (zI kd)), some (.int (zI mo)), some (.int (zI sd)), some (.int (zI (mo % 36))), some (.int (zI (v1 - ((mo % 36) % 6)))), some (.int (zI v4)), some (.int (zI v5)), some (.int (zI ((mo % 36) / 6))), some (.int (zI 1)), none, none, none], [], es)) i_54_105 rfl ?_
          refine x0 (r := (109, [some (.ref 132), some (.int (zI bk)), some (.int (zI n)), some (.int (zI kd)), some (.int (zI mo)), some (.int (zI sd)), some (.int (zI (mo % 36))), some (.int (zI (v1 - ((mo % 36) % 6)))), some (.int (zI v4)), some (.int (zI v5)), some (.int (zI ((mo % 36) / 6))), some (.int (zI 1)), none, none, none], [.int (zI v4)], es)) i_54_107 rfl ?_
          refine x0 (r := (110, [some (.ref 132), some (.int (zI bk)), some (.int (zI n)), some (.int (zI kd)), some (.int (zI mo)), some (.int (zI sd)), some (.int (zI (mo % 36))), some (.int (zI (v1 - ((mo % 36) % 6)))), some (.int (zI v4)), some (.int (zI v5)), some (.int (zI ((mo % 36) / 6))), some (.int (zI 1)), none, none, none], [.int (zI (-1)), .int (zI v4)], es)) i_54_109 (by rfl) ?_
          by_cases c11 : v4 = (-1)
          · refine x_cmpT i_54_110 (by unfold i32 iLO iHI; omega) (by unfold i32 iLO iHI; omega) rfl (by simp only [zC, cR]; omega) ?_
            refine x0 (r := (127, [some (.ref 132), some (.int (zI bk)), some (.int (zI n)), some (.int (zI kd)), some (.int (zI mo)), some (.int (zI sd)), some (.int (zI (mo % 36))), some (.int (zI (v1 - ((mo % 36) % 6)))), some (.int (zI v4)), some (.int (zI v5)), some (.int (zI ((mo % 36) / 6))), some (.int (zI 1)), none, none, none], [.int (zI 1)], es)) i_54_126 (by rfl) ?_
            refine x0 (r := (131, [some (.ref 132), some (.int (zI bk)), some (.int (zI n)), some (.int (zI kd)), some (.int (zI mo)), some (.int (zI sd)), some (.int (zI (mo % 36))), some (.int (zI (v1 - ((mo % 36) % 6)))), some (.int (zI v4)), some (.int (zI v5)), some (.int (zI ((mo % 36) / 6))), some (.int (zI 1)), none, none, none], [.int (zI 1)], es)) i_54_127 rfl ?_
            refine x0 (r := (133, [some (.ref 132), some (.int (zI bk)), some (.int (zI n)), some (.int (zI kd)), some (.int (zI mo)), some (.int (zI sd)), some (.int (zI (mo % 36))), some (.int (zI (v1 - ((mo % 36) % 6)))), some (.int (zI v4)), some (.int (zI v5)), some (.int (zI ((mo % 36) / 6))), some (.int (zI 1)), some (.int (zI 1)), none, none], [], es)) i_54_131 rfl ?_
            exact K5 v1 e_v1 c2 c3 v4 e_v4 v5 e_v5 c6 v7 e_v7 c8 c11
          · refine x_cmpF i_54_110 (by unfold i32 iLO iHI; omega) (by unfold i32 iLO iHI; omega) rfl (by simp only [zC, cR]; omega) ?_
            refine x0 (r := (115, [some (.ref 132), some (.int (zI bk)), some (.int (zI n)), some (.int (zI kd)), some (.int (zI mo)), some (.int (zI sd)), some (.int (zI (mo % 36))), some (.int (zI (v1 - ((mo % 36) % 6)))), some (.int (zI v4)), some (.int (zI v5)), some (.int (zI ((mo % 36) / 6))), some (.int (zI 1)), none, none, none], [.int (zI v4)], es)) i_54_113 rfl ?_
            refine x0 (r := (117, [some (.ref 132), some (.int (zI bk)), some (.int (zI n)), some (.int (zI kd)), some (.int (zI mo)), some (.int (zI sd)), some (.int (zI (mo % 36))), some (.int (zI (v1 - ((mo % 36) % 6)))), some (.int (zI v4)), some (.int (zI v5)), some (.int (zI ((mo % 36) / 6))), some (.int (zI 1)), none, none, none], [.int (zI mo), .int (zI v4)], es)) i_54_115 rfl ?_
            refine x0 (r := (119, [some (.ref 132), some (.int (zI bk)), some (.int (zI n)), some (.int (zI kd)), some (.int (zI mo)), some (.int (zI sd)), some (.int (zI (mo % 36))), some (.int (zI (v1 - ((mo % 36) % 6)))), some (.int (zI v4)), some (.int (zI v5)), some (.int (zI ((mo % 36) / 6))), some (.int (zI 1)), none, none, none], [.int (zI 36), .int (zI mo), .int (zI v4)], es)) i_54_117 (by rfl) ?_
            refine x_idivn i_54_119 (by omega) (by unfold i32 iLO iHI; omega) (by unfold i32 iLO iHI; omega) (by omega) ?_
            refine x0 (r := (122, [some (.ref 132), some (.int (zI bk)), some (.int (zI n)), some (.int (zI kd)), some (.int (zI mo)), some (.int (zI sd)), some (.int (zI (mo % 36))), some (.int (zI (v1 - ((mo % 36) % 6)))), some (.int (zI v4)), some (.int (zI v5)), some (.int (zI ((mo % 36) / 6))), some (.int (zI 1)), none, none, none], [.int (zI 6), .int (zI (mo / 36)), .int (zI v4)], es)) i_54_120 (by rfl) ?_
            refine x_iremn i_54_122 (by omega) (by unfold i32 iLO iHI; omega) (by unfold i32 iLO iHI; omega) (by omega) ?_
            by_cases c12 : v4 ≠ ((mo / 36) % 6)
            · refine x_cmpT i_54_123 (by unfold i32 iLO iHI; omega) (by unfold i32 iLO iHI; omega) rfl (by simp only [zC, cR]; omega) ?_
              refine x0 (r := (131, [some (.ref 132), some (.int (zI bk)), some (.int (zI n)), some (.int (zI kd)), some (.int (zI mo)), some (.int (zI sd)), some (.int (zI (mo % 36))), some (.int (zI (v1 - ((mo % 36) % 6)))), some (.int (zI v4)), some (.int (zI v5)), some (.int (zI ((mo % 36) / 6))), some (.int (zI 1)), none, none, none], [.int (zI 0)], es)) i_54_130 (by rfl) ?_
              refine x0 (r := (133, [some (.ref 132), some (.int (zI bk)), some (.int (zI n)), some (.int (zI kd)), some (.int (zI mo)), some (.int (zI sd)), some (.int (zI (mo % 36))), some (.int (zI (v1 - ((mo % 36) % 6)))), some (.int (zI v4)), some (.int (zI v5)), some (.int (zI ((mo % 36) / 6))), some (.int (zI 1)), some (.int (zI 0)), none, none], [], es)) i_54_131 rfl ?_
              exact K6 v1 e_v1 c2 c3 v4 e_v4 v5 e_v5 c6 v7 e_v7 c8 c11 c12
            · refine x_cmpF i_54_123 (by unfold i32 iLO iHI; omega) (by unfold i32 iLO iHI; omega) rfl (by simp only [zC, cR]; omega) ?_
              refine x0 (r := (127, [some (.ref 132), some (.int (zI bk)), some (.int (zI n)), some (.int (zI kd)), some (.int (zI mo)), some (.int (zI sd)), some (.int (zI (mo % 36))), some (.int (zI (v1 - ((mo % 36) % 6)))), some (.int (zI v4)), some (.int (zI v5)), some (.int (zI ((mo % 36) / 6))), some (.int (zI 1)), none, none, none], [.int (zI 1)], es)) i_54_126 (by rfl) ?_
              refine x0 (r := (131, [some (.ref 132), some (.int (zI bk)), some (.int (zI n)), some (.int (zI kd)), some (.int (zI mo)), some (.int (zI sd)), some (.int (zI (mo % 36))), some (.int (zI (v1 - ((mo % 36) % 6)))), some (.int (zI v4)), some (.int (zI v5)), some (.int (zI ((mo % 36) / 6))), some (.int (zI 1)), none, none, none], [.int (zI 1)], es)) i_54_127 rfl ?_
              refine x0 (r := (133, [some (.ref 132), some (.int (zI bk)), some (.int (zI n)), some (.int (zI kd)), some (.int (zI mo)), some (.int (zI sd)), some (.int (zI (mo % 36))), some (.int (zI (v1 - ((mo % 36) % 6)))), some (.int (zI v4)), some (.int (zI v5)), some (.int (zI ((mo % 36) / 6))), some (.int (zI 1)), some (.int (zI 1)), none, none], [], es)) i_54_131 rfl ?_
              exact K7 v1 e_v1 c2 c3 v4 e_v4 v5 e_v5 c6 v7 e_v7 c8 c11 c12
      · refine x_cmpF i_44_2 (by unfold i32 iLO iHI; omega) (by unfold i32 iLO iHI; omega) rfl (by simp only [zC, cR]; omega) ?_
        refine x0 (r := (6, [some (.int (zI ((mo % 36) / 6))), some (.int (zI wy)), some (.int (zI sd))], [.int (zI sd)], es)) i_44_5 rfl ?_
        refine x0 (r := (7, [some (.int (zI ((mo % 36) / 6))), some (.int (zI wy)), some (.int (zI sd))], [.int (zI 1), .int (zI sd)], es)) i_44_6 (by rfl) ?_
        by_cases c13 : sd ≠ 1
        · refine x_cmpT i_44_7 (by unfold i32 iLO iHI; omega) (by unfold i32 iLO iHI; omega) rfl (by simp only [zC, cR]; omega) ?_
          refine x0 (r := (17, [some (.int (zI ((mo % 36) / 6))), some (.int (zI wy)), some (.int (zI sd))], [.int (zI ((mo % 36) / 6))], es)) i_44_16 rfl ?_
          refine x_ret (v := some (.int (zI ((mo % 36) / 6)))) i_44_17 rfl (fun _ => rfl) rfl rfl rfl ?_
          show aW _ _ _ _ _ _ (84, [some (.ref 132), some (.int (zI bk)), some (.int (zI n)), some (.int (zI kd)), some (.int (zI mo)), some (.int (zI sd)), some (.int (zI (mo % 36))), some (.int (zI (v1 - ((mo % 36) % 6)))), some (.int (zI v4)), some (.int (zI v5)), none, none, none, none, none], [.int (zI ((mo % 36) / 6))], es)
          refine x0 (r := (86, [some (.ref 132), some (.int (zI bk)), some (.int (zI n)), some (.int (zI kd)), some (.int (zI mo)), some (.int (zI sd)), some (.int (zI (mo % 36))), some (.int (zI (v1 - ((mo % 36) % 6)))), some (.int (zI v4)), some (.int (zI v5)), some (.int (zI ((mo % 36) / 6))), none, none, none, none], [], es)) i_54_84 rfl ?_
          refine x0 (r := (87, [some (.ref 132), some (.int (zI bk)), some (.int (zI n)), some (.int (zI kd)), some (.int (zI mo)), some (.int (zI sd)), some (.int (zI (mo % 36))), some (.int (zI (v1 - ((mo % 36) % 6)))), some (.int (zI v4)), some (.int (zI v5)), some (.int (zI ((mo % 36) / 6))), none, none, none, none], [.ref 132], es)) i_54_86 rfl ?_
          refine x_getr (p := 68) (k := 71) i_54_87 hs_es rfl rfl ?_
          show aW _ _ _ _ _ _ (90, [some (.ref 132), some (.int (zI bk)), some (.int (zI n)), some (.int (zI kd)), some (.int (zI mo)), some (.int (zI sd)), some (.int (zI (mo % 36))), some (.int (zI (v1 - ((mo % 36) % 6)))), some (.int (zI v4)), some (.int (zI v5)), some (.int (zI ((mo % 36) / 6))), none, none, none, none], [.ref 71], es)
          refine x0 (r := (91, [some (.ref 132), some (.int (zI bk)), some (.int (zI n)), some (.int (zI kd)), some (.int (zI mo)), some (.int (zI sd)), some (.int (zI (mo % 36))), some (.int (zI (v1 - ((mo % 36) % 6)))), some (.int (zI v4)), some (.int (zI v5)), some (.int (zI ((mo % 36) / 6))), none, none, none, none], [.int (zI bk), .ref 71], es)) i_54_90 rfl ?_
          refine x0 (r := (92, [some (.ref 132), some (.int (zI bk)), some (.int (zI n)), some (.int (zI kd)), some (.int (zI mo)), some (.int (zI sd)), some (.int (zI (mo % 36))), some (.int (zI (v1 - ((mo % 36) % 6)))), some (.int (zI v4)), some (.int (zI v5)), some (.int (zI ((mo % 36) / 6))), none, none, none, none], [.int (zI n), .int (zI bk), .ref 71], es)) i_54_91 rfl ?_
          refine x0 (r := (93, [some (.ref 132), some (.int (zI bk)), some (.int (zI n)), some (.int (zI kd)), some (.int (zI mo)), some (.int (zI sd)), some (.int (zI (mo % 36))), some (.int (zI (v1 - ((mo % 36) % 6)))), some (.int (zI v4)), some (.int (zI v5)), some (.int (zI ((mo % 36) / 6))), none, none, none, none], [.int (zI 0), .int (zI n), .int (zI bk), .ref 71], es)) i_54_92 (by rfl) ?_
          refine x_call (vs := [.ref 71, .int (zI bk), .int (zI n), .int (zI 0)]) (rs := []) i_54_93 rfl (fun _ => rfl) rfl rfl rfl rfl rfl (pCall_v (p := 7) hs_es rfl rfl rfl rfl rfl (by decide) rfl rfl rfl rfl rfl) ?_
          show aW _ _ _ _ _ _ (0, [some (.ref 71), some (.int (zI bk)), some (.int (zI n)), some (.int (zI 0))], [], es)
          refine x0 (r := (1, [some (.ref 71), some (.int (zI bk)), some (.int (zI n)), some (.int (zI 0))], [.ref 71], es)) i_43_0 rfl ?_
          refine x_getr (p := 7) (k := 78) i_43_1 hs_es rfl rfl ?_
          show aW _ _ _ _ _ _ (4, [some (.ref 71), some (.int (zI bk)), some (.int (zI n)), some (.int (zI 0))], [.ref 78], es)
          refine x0 (r := (5, [some (.ref 71), some (.int (zI bk)), some (.int (zI n)), some (.int (zI 0))], [.int (zI bk), .ref 78], es)) i_43_4 rfl ?_
          refine x0 (r := (7, [some (.ref 71), some (.int (zI bk)), some (.int (zI n)), some (.int (zI 0))], [.int (zI 24), .int (zI bk), .ref 78], es)) i_43_5 (by rfl) ?_
          refine x_imul i_43_7 ?_
          refine x0 (r := (9, [some (.ref 71), some (.int (zI bk)), some (.int (zI n)), some (.int (zI 0))], [.int (zI n), .int (zI (bk * 24)), .ref 78], es)) i_43_8 rfl ?_
          refine x_iadd i_43_9 ?_
          refine x0 (r := (11, [some (.ref 71), some (.int (zI bk)), some (.int (zI n)), some (.int (zI 0))], [.int (zI 4), .int (zI ((bk * 24) + n)), .ref 78], es)) i_43_10 (by rfl) ?_
          refine x_imul i_43_11 ?_
          refine x0 (r := (13, [some (.ref 71), some (.int (zI bk)), some (.int (zI n)), some (.int (zI 0))], [.int (zI 0), .int (zI (((bk * 24) + n) * 4)), .ref 78], es)) i_43_12 rfl ?_
          refine x_iadd i_43_13 ?_
          refine x_call (vs := [.ref 78, .int (zI ((((bk * 24) + n) * 4) + 0))]) (rs := []) i_43_14 rfl (fun _ => rfl) rfl rfl rfl rfl rfl rfl ?_
          show aW _ _ _ _ _ _ (0, [some (.ref 78), some (.int (zI ((((bk * 24) + n) * 4) + 0)))], [], es)
          refine x0 (r := (1, [some (.ref 78), some (.int (zI ((((bk * 24) + n) * 4) + 0)))], [.int (zI ((((bk * 24) + n) * 4) + 0))], es)) i_28_0 rfl ?_
          refine x_ifF i_28_1 (by unfold i32 iLO iHI; omega) rfl (by simp only [zC, cR]; omega) ?_
          refine x0 (r := (5, [some (.ref 78), some (.int (zI ((((bk * 24) + n) * 4) + 0)))], [.int (zI ((((bk * 24) + n) * 4) + 0))], es)) i_28_4 rfl ?_
          refine x0 (r := (6, [some (.ref 78), some (.int (zI ((((bk * 24) + n) * 4) + 0)))], [.ref 78, .int (zI ((((bk * 24) + n) * 4) + 0))], es)) i_28_5 rfl ?_
          refine x_alen (p := 14) (n := 288) i_28_6 hs_es rfl ?_
          refine x_cmpF i_28_7 (by unfold i32 iLO iHI; omega) (by unfold i32 iLO iHI; omega) rfl (by simp only [zC, cR]; omega) ?_
          refine x0 (r := (11, [some (.ref 78), some (.int (zI ((((bk * 24) + n) * 4) + 0)))], [.ref 78], es)) i_28_10 rfl ?_
          refine x0 (r := (12, [some (.ref 78), some (.int (zI ((((bk * 24) + n) * 4) + 0)))], [.int (zI ((((bk * 24) + n) * 4) + 0)), .ref 78], es)) i_28_11 rfl ?_
          refine x_iald (p := 14) i_28_12 hs_es rfl (by unfold i32 iLO iHI; omega) (by omega) (by omega) ?_
          obtain ⟨v14, e_v14⟩ : ∃ z : Int, z = (gA es 14 ((((bk * 24) + n) * 4) + 0).toNat).toInt := ⟨_, rfl⟩
          rw [← e_v14]
          have r_v14 : iLO ≤ v14 ∧ v14 ≤ iHI := by rw [e_v14]; exact i32_rng _
          unfold iLO iHI at r_v14
          refine x0 (r := (17, [some (.ref 78), some (.int (zI ((((bk * 24) + n) * 4) + 0)))], [.int (zI v14)], es)) i_28_13 rfl ?_
          refine x_ret (v := some (.int (zI v14))) i_28_17 rfl (fun _ => rfl) rfl rfl rfl ?_
          show aW _ _ _ _ _ _ (17, [some (.ref 71), some (.int (zI bk)), some (.int (zI n)), some (.int (zI 0))], [.int (zI v14)], es)
          refine x_ret (v := some (.int (zI v14))) i_43_17 rfl (fun _ => rfl) rfl rfl rfl ?_
          show aW _ _ _ _ _ _ (96, [some (.ref 132), some (.int (zI bk)), some (.int (zI n)), some (.int (zI kd)), some (.int (zI mo)), some (.int (zI sd)), some (.int (zI (mo % 36))), some (.int (zI (v1 - ((mo % 36) % 6)))), some (.int (zI v4)), some (.int (zI v5)), some (.int (zI ((mo % 36) / 6))), none, none, none, none], [.int (zI v14)], es)
          refine x0 (r := (97, [some (.ref 132), some (.int (zI bk)), some (.int (zI n)), some (.int (zI kd)), some (.int (zI mo)), some (.int (zI sd)), some (.int (zI (mo % 36))), some (.int (zI (v1 - ((mo % 36) % 6)))), some (.int (zI v4)), some (.int (zI v5)), some (.int (zI ((mo % 36) / 6))), none, none, none, none], [.int (zI kd), .int (zI v14)], es)) i_54_96 rfl ?_
          by_cases c15 : v14 ≠ kd
          · refine x_cmpT i_54_97 (by unfold i32 iLO iHI; omega) (by unfold i32 iLO iHI; omega) rfl (by simp only [zC, cR]; omega) ?_
            refine x0 (r := (105, [some (.ref 132), some (.int (zI bk)), some (.int (zI n)), some (.int (zI kd)), some (.int (zI mo)), some (.int (zI sd)), some (.int (zI (mo % 36))), some (.int (zI (v1 - ((mo % 36) % 6)))), some (.int (zI v4)), some (.int (zI v5)), some (.int (zI ((mo % 36) / 6))), none, none, none, none], [.int (zI 0)], es)) i_54_104 (by rfl) ?_
            refine x0 (r := (107, [some (.ref 132), some (.int (zI bk)), some (.int (zI n)), some (.int (zI kd)), some (.int (zI mo)), some (.int (zI sd)), some (.int (zI (mo % 36))), some (.int (zI (v1 - ((mo % 36) % 6)))), some (.int (zI v4)), some (.int (zI v5)), some (.int (zI ((mo % 36) / 6))), some (.int (zI 0)), none, none, none], [], es)) i_54_105 rfl ?_
            refine x0 (r := (109, [some (.ref 132), some (.int (zI bk)), some (.int (zI n)), some (.int (zI kd)), some (.int (zI mo)), some (.int (zI sd)), some (.int (zI (mo % 36))), some (.int (zI (v1 - ((mo % 36) % 6)))), some (.int (zI v4)), some (.int (zI v5)), some (.int (zI ((mo % 36) / 6))), some (.int (zI 0)), none, none, none], [.int (zI v4)], es)) i_54_107 rfl ?_
            refine x0 (r := (110, [some (.ref 132), some (.int (zI bk)), some (.int (zI n)), some (.int (zI kd)), some (.int (zI mo)), some (.int (zI sd)), some (.int (zI (mo % 36))), some (.int (zI (v1 - ((mo % 36) % 6)))), some (.int (zI v4)), some (.int (zI v5)), some (.int (zI ((mo % 36) / 6))), some (.int (zI 0)), none, none, none], [.int (zI (-1)), .int (zI v4)], es)) i_54_109 (by rfl) ?_
            by_cases c16 : v4 = (-1)
            · refine x_cmpT i_54_110 (by unfold i32 iLO iHI; omega) (by unfold i32 iLO iHI; omega) rfl (by simp only [zC, cR]; omega) ?_
              refine x0 (r := (127, [some (.ref 132), some (.int (zI bk)), some (.int (zI n)), some (.int (zI kd)), some (.int (zI mo)), some (.int (zI sd)), some (.int (zI (mo % 36))), some (.int (zI (v1 - ((mo % 36) % 6)))), some (.int (zI v4)), some (.int (zI v5)), some (.int (zI ((mo % 36) / 6))), some (.int (zI 0)), none, none, none], [.int (zI 1)], es)) i_54_126 (by rfl) ?_
              refine x0 (r := (131, [some (.ref 132), some (.int (zI bk)), some (.int (zI n)), some (.int (zI kd)), some (.int (zI mo)), some (.int (zI sd)), some (.int (zI (mo % 36))), some (.int (zI (v1 - ((mo % 36) % 6)))), some (.int (zI v4)), some (.int (zI v5)), some (.int (zI ((mo % 36) / 6))), some (.int (zI 0)), none, none, none], [.int (zI 1)], es)) i_54_127 rfl ?_
              refine x0 (r := (133, [some (.ref 132), some (.int (zI bk)), some (.int (zI n)), some (.int (zI kd)), some (.int (zI mo)), some (.int (zI sd)), some (.int (zI (mo % 36))), some (.int (zI (v1 - ((mo % 36) % 6)))), some (.int (zI v4)), some (.int (zI v5)), some (.int (zI ((mo % 36) / 6))), some (.int (zI 0)), some (.int (zI 1)), none, none], [], es)) i_54_131 rfl ?_
              exact K8 v1 e_v1 c2 c3 v4 e_v4 v5 e_v5 c6 c13 v14 e_v14 c15 c16
            · refine x_cmpF i_54_110 (by unfold i32 iLO iHI; omega) (by unfold i32 iLO iHI; omega) rfl (by simp only [zC, cR]; omega) ?_
              refine x0 (r := (115, [some (.ref 132), some (.int (zI bk)), some (.int (zI n)), some (.int (zI kd)), some (.int (zI mo)), some (.int (zI sd)), some (.int (zI (mo % 36))), some (.int (zI (v1 - ((mo % 36) % 6)))), some (.int (zI v4)), some (.int (zI v5)), some (.int (zI ((mo % 36) / 6))), some (.int (zI 0)), none, none, none], [.int (zI v4)], es)) i_54_113 rfl ?_
              refine x0 (r := (117, [some (.ref 132), some (.int (zI bk)), some (.int (zI n)), some (.int (zI kd)), some (.int (zI mo)), some (.int (zI sd)), some (.int (zI (mo % 36))), some (.int (zI (v1 - ((mo % 36) % 6)))), some (.int (zI v4)), some (.int (zI v5)), some (.int (zI ((mo % 36) / 6))), some (.int (zI 0)), none, none, none], [.int (zI mo), .int (zI v4)], es)) i_54_115 rfl ?_
              refine x0 (r := (119, [some (.ref 132), some (.int (zI bk)), some (.int (zI n)), some (.int (zI kd)), some (.int (zI mo)), some (.int (zI sd)), some (.int (zI (mo % 36))), some (.int (zI (v1 - ((mo % 36) % 6)))), some (.int (zI v4)), some (.int (zI v5)), some (.int (zI ((mo % 36) / 6))), some (.int (zI 0)), none, none, none], [.int (zI 36), .int (zI mo), .int (zI v4)], es)) i_54_117 (by rfl) ?_
              refine x_idivn i_54_119 (by omega) (by unfold i32 iLO iHI; omega) (by unfold i32 iLO iHI; omega) (by omega) ?_
              refine x0 (r := (122, [some (.ref 132), some (.int (zI bk)), some (.int (zI n)), some (.int (zI kd)), some (.int (zI mo)), some (.int (zI sd)), some (.int (zI (mo % 36))), some (.int (zI (v1 - ((mo % 36) % 6)))), some (.int (zI v4)), some (.int (zI v5)), some (.int (zI ((mo % 36) / 6))), some (.int (zI 0)), none, none, none], [.int (zI 6), .int (zI (mo / 36)), .int (zI v4)], es)) i_54_120 (by rfl) ?_
              refine x_iremn i_54_122 (by omega) (by unfold i32 iLO iHI; omega) (by unfold i32 iLO iHI; omega) (by omega) ?_
              by_cases c17 : v4 ≠ ((mo / 36) % 6)
              · refine x_cmpT i_54_123 (by unfold i32 iLO iHI; omega) (by unfold i32 iLO iHI; omega) rfl (by simp only [zC, cR]; omega) ?_
                refine x0 (r := (131, [some (.ref 132), some (.int (zI bk)), some (.int (zI n)), some (.int (zI kd)), some (.int (zI mo)), some (.int (zI sd)), some (.int (zI (mo % 36))), some (.int (zI (v1 - ((mo % 36) % 6)))), some (.int (zI v4)), some (.int (zI v5)), some (.int (zI ((mo % 36) / 6))), some (.int (zI 0)), none, none, none], [.int (zI 0)], es)) i_54_130 (by rfl) ?_
                refine x0 (r := (133, [some (.ref 132), some (.int (zI bk)), some (.int (zI n)), some (.int (zI kd)), some (.int (zI mo)), some (.int (zI sd)), some (.int (zI (mo % 36))), some (.int (zI (v1 - ((mo % 36) % 6)))), some (.int (zI v4)), some (.int (zI v5)), some (.int (zI ((mo % 36) / 6))), some (.int (zI 0)), some (.int (zI 0)), none, none], [], es)) i_54_131 rfl ?_
                exact K9 v1 e_v1 c2 c3 v4 e_v4 v5 e_v5 c6 c13 v14 e_v14 c15 c16 c17
              · refine x_cmpF i_54_123 (by unfold i32 iLO iHI; omega) (by unfold i32 iLO iHI; omega) rfl (by simp only [zC, cR]; omega) ?_
                refine x0 (r := (127, [some (.ref 132), some (.int (zI bk)), some (.int (zI n)), some (.int (zI kd)), some (.int (zI mo)), some (.int (zI sd)), some (.int (zI (mo % 36))), some (.int (zI (v1 - ((mo % 36) % 6)))), some (.int (zI v4)), some (.int (zI v5)), some (.int (zI ((mo % 36) / 6))), some (.int (zI 0)), none, none, none], [.int (zI 1)], es)) i_54_126 (by rfl) ?_
                refine x0 (r := (131, [some (.ref 132), some (.int (zI bk)), some (.int (zI n)), some (.int (zI kd)), some (.int (zI mo)), some (.int (zI sd)), some (.int (zI (mo % 36))), some (.int (zI (v1 - ((mo % 36) % 6)))), some (.int (zI v4)), some (.int (zI v5)), some (.int (zI ((mo % 36) / 6))), some (.int (zI 0)), none, none, none], [.int (zI 1)], es)) i_54_127 rfl ?_
                refine x0 (r := (133, [some (.ref 132), some (.int (zI bk)), some (.int (zI n)), some (.int (zI kd)), some (.int (zI mo)), some (.int (zI sd)), some (.int (zI (mo % 36))), some (.int (zI (v1 - ((mo % 36) % 6)))), some (.int (zI v4)), some (.int (zI v5)), some (.int (zI ((mo % 36) / 6))), some (.int (zI 0)), some (.int (zI 1)), none, none], [], es)) i_54_131 rfl ?_
                exact K10 v1 e_v1 c2 c3 v4 e_v4 v5 e_v5 c6 c13 v14 e_v14 c15 c16 c17
          · refine x_cmpF i_54_97 (by unfold i32 iLO iHI; omega) (by unfold i32 iLO iHI; omega) rfl (by simp only [zC, cR]; omega) ?_
            refine x0 (r := (101, [some (.ref 132), some (.int (zI bk)), some (.int (zI n)), some (.int (zI kd)), some (.int (zI mo)), some (.int (zI sd)), some (.int (zI (mo % 36))), some (.int (zI (v1 - ((mo % 36) % 6)))), some (.int (zI v4)), some (.int (zI v5)), some (.int (zI ((mo % 36) / 6))), none, none, none, none], [.int (zI 1)], es)) i_54_100 (by rfl) ?_
            refine x0 (r := (105, [some (.ref 132), some (.int (zI bk)), some (.int (zI n)), some (.int (zI kd)), some (.int (zI mo)), some (.int (zI sd)), some (.int (zI (mo % 36))), some (.int (zI (v1 - ((mo % 36) % 6)))), some (.int (zI v4)), some (.int (zI v5)), some (.int (zI ((mo % 36) / 6))), none, none, none, none], [.int (zI 1)], es)) i_54_101 rfl ?_
            refine x0 (r := (107, [some (.ref 132), some (.int (zI bk)), some (.int (zI n)), some (.int (zI kd)), some (.int (zI mo)), some (.int (zI sd)), some (.int (zI (mo % 36))), some (.int (zI (v1 - ((mo % 36) % 6)))), some (.int (zI v4)), some (.int (zI v5)), some (.int (zI ((mo % 36) / 6))), some (.int (zI 1)), none, none, none], [], es)) i_54_105 rfl ?_
            refine x0 (r := (109, [some (.ref 132), some (.int (zI bk)), some (.int (zI n)), some (.int (zI kd)), some (.int (zI mo)), some (.int (zI sd)), some (.int (zI (mo % 36))), some (.int (zI (v1 - ((mo % 36) % 6)))), some (.int (zI v4)), some (.int (zI v5)), some (.int (zI ((mo % 36) / 6))), some (.int (zI 1)), none, none, none], [.int (zI v4)], es)) i_54_107 rfl ?_
            refine x0 (r := (110, [some (.ref 132), some (.int (zI bk)), some (.int (zI n)), some (.int (zI kd)), some (.int (zI mo)), some (.int (zI sd)), some (.int (zI (mo % 36))), some (.int (zI (v1 - ((mo % 36) % 6)))), some (.int (zI v4)), some (.int (zI v5)), some (.int (zI ((mo % 36) / 6))), some (.int (zI 1)), none, none, none], [.int (zI (-1)), .int (zI v4)], es)) i_54_109 (by rfl) ?_
            by_cases c18 : v4 = (-1)
            · refine x_cmpT i_54_110 (by unfold i32 iLO iHI; omega) (by unfold i32 iLO iHI; omega) rfl (by simp only [zC, cR]; omega) ?_
              refine x0 (r := (127, [some (.ref 132), some (.int (zI bk)), some (.int (zI n)), some (.int (zI kd)), some (.int (zI mo)), some (.int (zI sd)), some (.int (zI (mo % 36))), some (.int (zI (v1 - ((mo % 36) % 6)))), some (.int (zI v4)), some (.int (zI v5)), some (.int (zI ((mo % 36) / 6))), some (.int (zI 1)), none, none, none], [.int (zI 1)], es)) i_54_126 (by rfl) ?_
              refine x0 (r := (131, [some (.ref 132), some (.int (zI bk)), some (.int (zI n)), some (.int (zI kd)), some (.int (zI mo)), some (.int (zI sd)), some (.int (zI (mo % 36))), some (.int (zI (v1 - ((mo % 36) % 6)))), some (.int (zI v4)), some (.int (zI v5)), some (.int (zI ((mo % 36) / 6))), some (.int (zI 1)), none, none, none], [.int (zI 1)], es)) i_54_127 rfl ?_
              refine x0 (r := (133, [some (.ref 132), some (.int (zI bk)), some (.int (zI n)), some (.int (zI kd)), some (.int (zI mo)), some (.int (zI sd)), some (.int (zI (mo % 36))), some (.int (zI (v1 - ((mo % 36) % 6)))), some (.int (zI v4)), some (.int (zI v5)), some (.int (zI ((mo % 36) / 6))), some (.int (zI 1)), some (.int (zI 1)), none, none], [], es)) i_54_131 rfl ?_
              exact K11 v1 e_v1 c2 c3 v4 e_v4 v5 e_v5 c6 c13 v14 e_v14 c15 c18
            · refine x_cmpF i_54_110 (by unfold i32 iLO iHI; omega) (by unfold i32 iLO iHI; omega) rfl (by simp only [zC, cR]; omega) ?_
              refine x0 (r := (115, [some (.ref 132), some (.int (zI bk)), some (.int (zI n)), some (.int (zI kd)), some (.int (zI mo)), some (.int (zI sd)), some (.int (zI (mo % 36))), some (.int (zI (v1 - ((mo % 36) % 6)))), some (.int (zI v4)), some (.int (zI v5)), some (.int (zI ((mo % 36) / 6))), some (.int (zI 1)), none, none, none], [.int (zI v4)], es)) i_54_113 rfl ?_
              refine x0 (r := (117, [some (.ref 132), some (.int (zI bk)), some (.int (zI n)), some (.int (zI kd)), some (.int (zI mo)), some (.int (zI sd)), some (.int (zI (mo % 36))), some (.int (zI (v1 - ((mo % 36) % 6)))), some (.int (zI v4)), some (.int (zI v5)), some (.int (zI ((mo % 36) / 6))), some (.int (zI 1)), none, none, none], [.int (zI mo), .int (zI v4)], es)) i_54_115 rfl ?_
              refine x0 (r := (119, [some (.ref 132), some (.int (zI bk)), some (.int (zI n)), some (.int (zI kd)), some (.int (zI mo)), some (.int (zI sd)), some (.int (zI (mo % 36))), some (.int (zI (v1 - ((mo % 36) % 6)))), some (.int (zI v4)), some (.int (zI v5)), some (.int (zI ((mo % 36) / 6))), some (.int (zI 1)), none, none, none], [.int (zI 36), .int (zI mo), .int (zI v4)], es)) i_54_117 (by rfl) ?_
              refine x_idivn i_54_119 (by omega) (by unfold i32 iLO iHI; omega) (by unfold i32 iLO iHI; omega) (by omega) ?_
              refine x0 (r := (122, [some (.ref 132), some (.int (zI bk)), some (.int (zI n)), some (.int (zI kd)), some (.int (zI mo)), some (.int (zI sd)), some (.int (zI (mo % 36))), some (.int (zI (v1 - ((mo % 36) % 6)))), some (.int (zI v4)), some (.int (zI v5)), some (.int (zI ((mo % 36) / 6))), some (.int (zI 1)), none, none, none], [.int (zI 6), .int (zI (mo / 36)), .int (zI v4)], es)) i_54_120 (by rfl) ?_
              refine x_iremn i_54_122 (by omega) (by unfold i32 iLO iHI; omega) (by unfold i32 iLO iHI; omega) (by omega) ?_
              by_cases c19 : v4 ≠ ((mo / 36) % 6)
              · refine x_cmpT i_54_123 (by unfold i32 iLO iHI; omega) (by unfold i32 iLO iHI; omega) rfl (by simp only [zC, cR]; omega) ?_
                refine x0 (r := (131, [some (.ref 132), some (.int (zI bk)), some (.int (zI n)), some (.int (zI kd)), some (.int (zI mo)), some (.int (zI sd)), some (.int (zI (mo % 36))), some (.int (zI (v1 - ((mo % 36) % 6)))), some (.int (zI v4)), some (.int (zI v5)), some (.int (zI ((mo % 36) / 6))), some (.int (zI 1)), none, none, none], [.int (zI 0)], es)) i_54_130 (by rfl) ?_
                refine x0 (r := (133, [some (.ref 132), some (.int (zI bk)), some (.int (zI n)), some (.int (zI kd)), some (.int (zI mo)), some (.int (zI sd)), some (.int (zI (mo % 36))), some (.int (zI (v1 - ((mo % 36) % 6)))), some (.int (zI v4)), some (.int (zI v5)), some (.int (zI ((mo % 36) / 6))), some (.int (zI 1)), some (.int (zI 0)), none, none], [], es)) i_54_131 rfl ?_
                exact K12 v1 e_v1 c2 c3 v4 e_v4 v5 e_v5 c6 c13 v14 e_v14 c15 c18 c19
              · refine x_cmpF i_54_123 (by unfold i32 iLO iHI; omega) (by unfold i32 iLO iHI; omega) rfl (by simp only [zC, cR]; omega) ?_
                refine x0 (r := (127, [some (.ref 132), some (.int (zI bk)), some (.int (zI n)), some (.int (zI kd)), some (.int (zI mo)), some (.int (zI sd)), some (.int (zI (mo % 36))), some (.int (zI (v1 - ((mo % 36) % 6)))), some (.int (zI v4)), some (.int (zI v5)), some (.int (zI ((mo % 36) / 6))), some (.int (zI 1)), none, none, none], [.int (zI 1)], es)) i_54_126 (by rfl) ?_
                refine x0 (r := (131, [some (.ref 132), some (.int (zI bk)), some (.int (zI n)), some (.int (zI kd)), some (.int (zI mo)), some (.int (zI sd)), some (.int (zI (mo % 36))), some (.int (zI (v1 - ((mo % 36) % 6)))), some (.int (zI v4)), some (.int (zI v5)), some (.int (zI ((mo % 36) / 6))), some (.int (zI 1)), none, none, none], [.int (zI 1)], es)) i_54_127 rfl ?_
                refine x0 (r := (133, [some (.ref 132), some (.int (zI bk)), some (.int (zI n)), some (.int (zI kd)), some (.int (zI mo)), some (.int (zI sd)), some (.int (zI (mo % 36))), some (.int (zI (v1 - ((mo % 36) % 6)))), some (.int (zI v4)), some (.int (zI v5)), some (.int (zI ((mo % 36) / 6))), some (.int (zI 1)), some (.int (zI 1)), none, none], [], es)) i_54_131 rfl ?_
                exact K13 v1 e_v1 c2 c3 v4 e_v4 v5 e_v5 c6 c13 v14 e_v14 c15 c18 c19
        · refine x_cmpF i_44_7 (by unfold i32 iLO iHI; omega) (by unfold i32 iLO iHI; omega) rfl (by simp only [zC, cR]; omega) ?_
          refine x0 (r := (11, [some (.int (zI ((mo % 36) / 6))), some (.int (zI wy)), some (.int (zI sd))], [.int (zI 5)], es)) i_44_10 (by rfl) ?_
          refine x0 (r := (12, [some (.int (zI ((mo % 36) / 6))), some (.int (zI wy)), some (.int (zI sd))], [.int (zI ((mo % 36) / 6)), .int (zI 5)], es)) i_44_11 rfl ?_
          refine x_isub i_44_12 ?_
          refine x0 (r := (17, [some (.int (zI ((mo % 36) / 6))), some (.int (zI wy)), some (.int (zI sd))], [.int (zI (5 - ((mo % 36) / 6)))], es)) i_44_13 rfl ?_
          refine x_ret (v := some (.int (zI (5 - ((mo % 36) / 6))))) i_44_17 rfl (fun _ => rfl) rfl rfl rfl ?_
          show aW _ _ _ _ _ _ (84, [some (.ref 132), some (.int (zI bk)), some (.int (zI n)), some (.int (zI kd)), some (.int (zI mo)), some (.int (zI sd)), some (.int (zI (mo % 36))), some (.int (zI (v1 - ((mo % 36) % 6)))), some (.int (zI v4)), some (.int (zI v5)), none, none, none, none, none], [.int (zI (5 - ((mo % 36) / 6)))], es)
          refine x0 (r := (86, [some (.ref 132), some (.int (zI bk)), some (.int (zI n)), some (.int (zI kd)), some (.int (zI mo)), some (.int (zI sd)), some (.int (zI (mo % 36))), some (.int (zI (v1 - ((mo % 36) % 6)))), some (.int (zI v4)), some (.int (zI v5)), some (.int (zI (5 - ((mo % 36) / 6)))), none, none, none, none], [], es)) i_54_84 rfl ?_
          refine x0 (r := (87, [some (.ref 132), some (.int (zI bk)), some (.int (zI n)), some (.int (zI kd)), some (.int (zI mo)), some (.int (zI sd)), some (.int (zI (mo % 36))), some (.int (zI (v1 - ((mo % 36) % 6)))), some (.int (zI v4)), some (.int (zI v5)), some (.int (zI (5 - ((mo % 36) / 6)))), none, none, none, none], [.ref 132], es)) i_54_86 rfl ?_
          refine x_getr (p := 68) (k := 71) i_54_87 hs_es rfl rfl ?_
          show aW _ _ _ _ _ _ (90, [some (.ref 132), some (.int (zI bk)), some (.int (zI n)), some (.int (zI kd)), some (.int (zI mo)), some (.int (zI sd)), some (.int (zI (mo % 36))), some (.int (zI (v1 - ((mo % 36) % 6)))), some (.int (zI v4)), some (.int (zI v5)), some (.int (zI (5 - ((mo % 36) / 6)))), none, none, none, none], [.ref 71], es)
          refine x0 (r := (91, [some (.ref 132), some (.int (zI bk)), some (.int (zI n)), some (.int (zI kd)), some (.int (zI mo)), some (.int (zI sd)), some (.int (zI (mo % 36))), some (.int (zI (v1 - ((mo % 36) % 6)))), some (.int (zI v4)), some (.int (zI v5)), some (.int (zI (5 - ((mo % 36) / 6)))), none, none, none, none], [.int (zI bk), .ref 71], es)) i_54_90 rfl ?_
          refine x0 (r := (92, [some (.ref 132), some (.int (zI bk)), some (.int (zI n)), some (.int (zI kd)), some (.int (zI mo)), some (.int (zI sd)), some (.int (zI (mo % 36))), some (.int (zI (v1 - ((mo % 36) % 6)))), some (.int (zI v4)), some (.int (zI v5)), some (.int (zI (5 - ((mo % 36) / 6)))), none, none, none, none], [.int (zI n), .int (zI bk), .ref 71], es)) i_54_91 rfl ?_
          refine x0 (r := (93, [some (.ref 132), some (.int (zI bk)), some (.int (zI n)), some (.int (zI kd)), some (.int (zI mo)), some (.int (zI sd)), some (.int (zI (mo % 36))), some (.int (zI (v1 - ((mo % 36) % 6)))), some (.int (zI v4)), some (.int (zI v5)), some (.int (zI (5 - ((mo % 36) / 6)))), none, none, none, none], [.int (zI 0), .int (zI n), .int (zI bk), .ref 71], es)) i_54_92 (by rfl) ?_
          refine x_call (vs := [.ref 71, .int (zI bk), .int (zI n), .int (zI 0)]) (rs := []) i_54_93 rfl (fun _ => rfl) rfl rfl rfl rfl rfl (pCall_v (p := 7) hs_es rfl rfl rfl rfl rfl (by decide) rfl rfl rfl rfl rfl) ?_
          show aW _ _ _ _ _ _ (0, [some (.ref 71), some (.int (zI bk)), some (.int (zI n)), some (.int (zI 0))], [], es)
          refine x0 (r := (1, [some (.ref 71), some (.int (zI bk)), some (.int (zI n)), some (.int (zI 0))], [.ref 71], es)) i_43_0 rfl ?_
          refine x_getr (p := 7) (k := 78) i_43_1 hs_es rfl rfl ?_
          show aW _ _ _ _ _ _ (4, [some (.ref 71), some (.int (zI bk)), some (.int (zI n)), some (.int (zI 0))], [.ref 78], es)
          refine x0 (r := (5, [some (.ref 71), some (.int (zI bk)), some (.int (zI n)), some (.int (zI 0))], [.int (zI bk), .ref 78], es)) i_43_4 rfl ?_
          refine x0 (r := (7, [some (.ref 71), some (.int (zI bk)), some (.int (zI n)), some (.int (zI 0))], [.int (zI 24), .int (zI bk), .ref 78], es)) i_43_5 (by rfl) ?_
          refine x_imul i_43_7 ?_
          refine x0 (r := (9, [some (.ref 71), some (.int (zI bk)), some (.int (zI n)), some (.int (zI 0))], [.int (zI n), .int (zI (bk * 24)), .ref 78], es)) i_43_8 rfl ?_
          refine x_iadd i_43_9 ?_
          refine x0 (r := (11, [some (.ref 71), some (.int (zI bk)), some (.int (zI n)), some (.int (zI 0))], [.int (zI 4), .int (zI ((bk * 24) + n)), .ref 78], es)) i_43_10 (by rfl) ?_
          refine x_imul i_43_11 ?_
          refine x0 (r := (13, [some (.ref 71), some (.int (zI bk)), some (.int (zI n)), some (.int (zI 0))], [.int (zI 0), .int (zI (((bk * 24) + n) * 4)), .ref 78], es)) i_43_12 rfl ?_
          refine x_iadd i_43_13 ?_
          refine x_call (vs := [.ref 78, .int (zI ((((bk * 24) + n) * 4) + 0))]) (rs := []) i_43_14 rfl (fun _ => rfl) rfl rfl rfl rfl rfl rfl ?_
          show aW _ _ _ _ _ _ (0, [some (.ref 78), some (.int (zI ((((bk * 24) + n) * 4) + 0)))], [], es)
          refine x0 (r := (1, [some (.ref 78), some (.int (zI ((((bk * 24) + n) * 4) + 0)))], [.int (zI ((((bk * 24) + n) * 4) + 0))], es)) i_28_0 rfl ?_
          refine x_ifF i_28_1 (by unfold i32 iLO iHI; omega) rfl (by simp only [zC, cR]; omega) ?_
          refine x0 (r := (5, [some (.ref 78), some (.int (zI ((((bk * 24) + n) * 4) + 0)))], [.int (zI ((((bk * 24) + n) * 4) + 0))], es)) i_28_4 rfl ?_
          refine x0 (r := (6, [some (.ref 78), some (.int (zI ((((bk * 24) + n) * 4) + 0)))], [.ref 78, .int (zI ((((bk * 24) + n) * 4) + 0))], es)) i_28_5 rfl ?_
          refine x_alen (p := 14) (n := 288) i_28_6 hs_es rfl ?_
          refine x_cmpF i_28_7 (by unfold i32 iLO iHI; omega) (by unfold i32 iLO iHI; omega) rfl (by simp only [zC, cR]; omega) ?_
          refine x0 (r := (11, [some (.ref 78), some (.int (zI ((((bk * 24) + n) * 4) + 0)))], [.ref 78], es)) i_28_10 rfl ?_
          refine x0 (r := (12, [some (.ref 78), some (.int (zI ((((bk * 24) + n) * 4) + 0)))], [.int (zI ((((bk * 24) + n) * 4) + 0)), .ref 78], es)) i_28_11 rfl ?_
          refine x_iald (p := 14) i_28_12 hs_es rfl (by unfold i32 iLO iHI; omega) (by omega) (by omega) ?_
          obtain ⟨v20, e_v20⟩ : ∃ z : Int, z = (gA es 14 ((((bk * 24) + n) * 4) + 0).toNat).toInt := ⟨_, rfl⟩
          rw [← e_v20]
          have r_v20 : iLO ≤ v20 ∧ v20 ≤ iHI := by rw [e_v20]; exact i32_rng _
          unfold iLO iHI at r_v20
          refine x0 (r := (17, [some (.ref 78), some (.int (zI ((((bk * 24) + n) * 4) + 0)))], [.int (zI v20)], es)) i_28_13 rfl ?_
          refine x_ret (v := some (.int (zI v20))) i_28_17 rfl (fun _ => rfl) rfl rfl rfl ?_
          show aW _ _ _ _ _ _ (17, [some (.ref 71), some (.int (zI bk)), some (.int (zI n)), some (.int (zI 0))], [.int (zI v20)], es)
          refine x_ret (v := some (.int (zI v20))) i_43_17 rfl (fun _ => rfl) rfl rfl rfl ?_
          show aW _ _ _ _ _ _ (96, [some (.ref 132), some (.int (zI bk)), some (.int (zI n)), some (.int (zI kd)), some (.int (zI mo)), some (.int (zI sd)), some (.int (zI (mo % 36))), some (.int (zI (v1 - ((mo % 36) % 6)))), some (.int (zI v4)), some (.int (zI v5)), some (.int (zI (5 - ((mo % 36) / 6)))), none, none, none, none], [.int (zI v20)], es)
          refine x0 (r := (97, [some (.ref 132), some (.int (zI bk)), some (.int (zI n)), some (.int (zI kd)), some (.int (zI mo)), some (.int (zI sd)), some (.int (zI (mo % 36))), some (.int (zI (v1 - ((mo % 36) % 6)))), some (.int (zI v4)), some (.int (zI v5)), some (.int (zI (5 - ((mo % 36) / 6)))), none, none, none, none], [.int (zI kd), .int (zI v20)], es)) i_54_96 rfl ?_
          by_cases c21 : v20 ≠ kd
          · refine x_cmpT i_54_97 (by unfold i32 iLO iHI; omega) (by unfold i32 iLO iHI; omega) rfl (by simp only [zC, cR]; omega) ?_
            refine x0 (r := (105, [some (.ref 132), some (.int (zI bk)), some (.int (zI n)), some (.int (zI kd)), some (.int (zI mo)), some (.int (zI sd)), some (.int (zI (mo % 36))), some (.int (zI (v1 - ((mo % 36) % 6)))), some (.int (zI v4)), some (.int (zI v5)), some (.int (zI (5 - ((mo % 36) / 6)))), none, none, none, none], [.int (zI 0)], es)) i_54_104 (by rfl) ?_
            refine x0 (r := (107, [some (.ref 132), some (.int (zI bk)), some (.int (zI n)), some (.int (zI kd)), some (.int (zI mo)), some (.int (zI sd)), some (.int (zI (mo % 36))), some (.int (zI (v1 - ((mo % 36) % 6)))), some (.int (zI v4)), some (.int (zI v5)), some (.int (zI (5 - ((mo % 36) / 6)))), some (.int (zI 0)), none, none, none], [], es)) i_54_105 rfl ?_
            refine x0 (r := (109, [some (.ref 132), some (.int (zI bk)), some (.int (zI n)), some (.int (zI kd)), some (.int (zI mo)), some (.int (zI sd)), some (.int (zI (mo % 36))), some (.int (zI (v1 - ((mo % 36) % 6)))), some (.int (zI v4)), some (.int (zI v5)), some (.int (zI (5 - ((mo % 36) / 6)))), some (.int (zI 0)), none, none, none], [.int (zI v4)], es)) i_54_107 rfl ?_
            refine x0 (r := (110, [some (.ref 132), some (.int (zI bk)), some (.int (zI n)), some (.int (zI kd)), some (.int (zI mo)), some (.int (zI sd)), some (.int (zI (mo % 36))), some (.int (zI (v1 - ((mo % 36) % 6)))), some (.int (zI v4)), some (.int (zI v5)), some (.int (zI (5 - ((mo % 36) / 6)))), some (.int (zI 0)), none, none, none], [.int (zI (-1)), .int (zI v4)], es)) i_54_109 (by rfl) ?_
            by_cases c22 : v4 = (-1)
            · refine x_cmpT i_54_110 (by unfold i32 iLO iHI; omega) (by unfold i32 iLO iHI; omega) rfl (by simp only [zC, cR]; omega) ?_
              refine x0 (r := (127, [some (.ref 132), some (.int (zI bk)), some (.int (zI n)), some (.int (zI kd)), some (.int (zI mo)), some (.int (zI sd)), some (.int (zI (mo % 36))), some (.int (zI (v1 - ((mo % 36) % 6)))), some (.int (zI v4)), some (.int (zI v5)), some (.int (zI (5 - ((mo % 36) / 6)))), some (.int (zI 0)), none, none, none], [.int (zI 1)], es)) i_54_126 (by rfl) ?_
              refine x0 (r := (131, [some (.ref 132), some (.int (zI bk)), some (.int (zI n)), some (.int (zI kd)), some (.int (zI mo)), some (.int (zI sd)), some (.int (zI (mo % 36))), some (.int (zI (v1 - ((mo % 36) % 6)))), some (.int (zI v4)), some (.int (zI v5)), some (.int (zI (5 - ((mo % 36) / 6)))), some (.int (zI 0)), none, none, none], [.int (zI 1)], es)) i_54_127 rfl ?_
              refine x0 (r := (133, [some (.ref 132), some (.int (zI bk)), some (.int (zI n)), some (.int (zI kd)), some (.int (zI mo)), some (.int (zI sd)), some (.int (zI (mo % 36))), some (.int (zI (v1 - ((mo % 36) % 6)))), some (.int (zI v4)), some (.int (zI v5)), some (.int (zI (5 - ((mo % 36) / 6)))), some (.int (zI 0)), some (.int (zI 1)), none, none], [], es)) i_54_131 rfl ?_
              exact K14 v1 e_v1 c2 c3 v4 e_v4 v5 e_v5 c6 c13 v20 e_v20 c21 c22
            · refine x_cmpF i_54_110 (by unfold i32 iLO iHI; omega) (by unfold i32 iLO iHI; omega) rfl (by simp only [zC, cR]; omega) ?_
              refine x0 (r := (115, [some (.ref 132), some (.int (zI bk)), some (.int (zI n)), some (.int (zI kd)), some (.int (zI mo)), some (.int (zI sd)), some (.int (zI (mo % 36))), some (.int (zI (v1 - ((mo % 36) % 6)))), some (.int (zI v4)), some (.int (zI v5)), some (.int (zI (5 - ((mo % 36) / 6)))), some (.int (zI 0)), none, none, none], [.int (zI v4)], es)) i_54_113 rfl ?_
              refine x0 (r := (117, [some (.ref 132), some (.int (zI bk)), some (.int (zI n)), some (.int (zI kd)), some (.int (zI mo)), some (.int (zI sd)), some (.int (zI (mo % 36))), some (.int (zI (v1 - ((mo % 36) % 6)))), some (.int (zI v4)), some (.int (zI v5)), some (.int (zI (5 - ((mo % 36) / 6)))), some (.int (zI 0)), none, none, none], [.int (zI mo), .int (zI v4)], es)) i_54_115 rfl ?_
              refine x0 (r := (119, [some (.ref 132), some (.int (zI bk)), some (.int (zI n)), some (.int (zI kd)), some (.int (zI mo)), some (.int (zI sd)), some (.int (zI (mo % 36))), some (.int (zI (v1 - ((mo % 36) % 6)))), some (.int (zI v4)), some (.int (zI v5)), some (.int (zI (5 - ((mo % 36) / 6)))), some (.int (zI 0)), none, none, none], [.int (zI 36), .int (zI mo), .int (zI v4)], es)) i_54_117 (by rfl) ?_
              refine x_idivn i_54_119 (by omega) (by unfold i32 iLO iHI; omega) (by unfold i32 iLO iHI; omega) (by omega) ?_
              refine x0 (r := (122, [some (.ref 132), some (.int (zI bk)), some (.int (zI n)), some (.int (zI kd)), some (.int (zI mo)), some (.int (zI sd)), some (.int (zI (mo % 36))), some (.int (zI (v1 - ((mo % 36) % 6)))), some (.int (zI v4)), some (.int (zI v5)), some (.int (zI (5 - ((mo % 36) / 6)))), some (.int (zI 0)), none, none, none], [.int (zI 6), .int (zI (mo / 36)), .int (zI v4)], es)) i_54_120 (by rfl) ?_
              refine x_iremn i_54_122 (by omega) (by unfold i32 iLO iHI; omega) (by unfold i32 iLO iHI; omega) (by omega) ?_
              by_cases c23 : v4 ≠ ((mo / 36) % 6)
              · refine x_cmpT i_54_123 (by unfold i32 iLO iHI; omega) (by unfold i32 iLO iHI; omega) rfl (by simp only [zC, cR]; omega) ?_
                refine x0 (r := (131, [some (.ref 132), some (.int (zI bk)), some (.int (zI n)), some (.int (zI kd)), some (.int (zI mo)), some (.int (zI sd)), some (.int (zI (mo % 36))), some (.int (zI (v1 - ((mo % 36) % 6)))), some (.int (zI v4)), some (.int (zI v5)), some (.int (zI (5 - ((mo % 36) / 6)))), some (.int (zI 0)), none, none, none], [.int (zI 0)], es)) i_54_130 (by rfl) ?_
                refine x0 (r := (133, [some (.ref 132), some (.int (zI bk)), some (.int (zI n)), some (.int (zI kd)), some (.int (zI mo)), some (.int (zI sd)), some (.int (zI (mo % 36))), some (.int (zI (v1 - ((mo % 36) % 6)))), some (.int (zI v4)), some (.int (zI v5)), some (.int (zI (5 - ((mo % 36) / 6)))), some (.int (zI 0)), some (.int (zI 0)), none, none], [], es)) i_54_131 rfl ?_
                exact K15 v1 e_v1 c2 c3 v4 e_v4 v5 e_v5 c6 c13 v20 e_v20 c21 c22 c23
              · refine x_cmpF i_54_123 (by unfold i32 iLO iHI; omega) (by unfold i32 iLO iHI; omega) rfl (by simp only [zC, cR]; omega) ?_
                refine x0 (r := (127, [some (.ref 132), some (.int (zI bk)), some (.int (zI n)), some (.int (zI kd)), some (.int (zI mo)), some (.int (zI sd)), some (.int (zI (mo % 36))), some (.int (zI (v1 - ((mo % 36) % 6)))), some (.int (zI v4)), some (.int (zI v5)), some (.int (zI (5 - ((mo % 36) / 6)))), some (.int (zI 0)), none, none, none], [.int (zI 1)], es)) i_54_126 (by rfl) ?_
                refine x0 (r := (131, [some (.ref 132), some (.int (zI bk)), some (.int (zI n)), some (.int (zI kd)), some (.int (zI mo)), some (.int (zI sd)), some (.int (zI (mo % 36))), some (.int (zI (v1 - ((mo % 36) % 6)))), some (.int (zI v4)), some (.int (zI v5)), some (.int (zI (5 - ((mo % 36) / 6)))), some (.int (zI 0)), none, none, none], [.int (zI 1)], es)) i_54_127 rfl ?_
                refine x0 (r := (133, [some (.ref 132), some (.int (zI bk)), some (.int (zI n)), some (.int (zI kd)), some (.int (zI mo)), some (.int (zI sd)), some (.int (zI (mo % 36))), some (.int (zI (v1 - ((mo % 36) % 6)))), some (.int (zI v4)), some (.int (zI v5)), some (.int (zI (5 - ((mo % 36) / 6)))), some (.int (zI 0)), some (.int (zI 1)), none, none], [], es)) i_54_131 rfl ?_
                exact K16 v1 e_v1 c2 c3 v4 e_v4 v5 e_v5 c6 c13 v20 e_v20 c21 c22 c23
          · refine x_cmpF i_54_97 (by unfold i32 iLO iHI; omega) (by unfold i32 iLO iHI; omega) rfl (by simp only [zC, cR]; omega) ?_
            refine x0 (r := (101, [some (.ref 132), some (.int (zI bk)), some (.int (zI n)), some (.int (zI kd)), some (.int (zI mo)), some (.int (zI sd)), some (.int (zI (mo % 36))), some (.int (zI (v1 - ((mo % 36) % 6)))), some (.int (zI v4)), some (.int (zI v5)), some (.int (zI (5 - ((mo % 36) / 6)))), none, none, none, none], [.int (zI 1)], es)) i_54_100 (by rfl) ?_
            refine x0 (r := (105, [some (.ref 132), some (.int (zI bk)), some (.int (zI n)), some (.int (zI kd)), some (.int (zI mo)), some (.int (zI sd)), some (.int (zI (mo % 36))), some (.int (zI (v1 - ((mo % 36) % 6)))), some (.int (zI v4)), some (.int (zI v5)), some (.int (zI (5 - ((mo % 36) / 6)))), none, none, none, none], [.int (zI 1)], es)) i_54_101 rfl ?_
            refine x0 (r := (107, [some (.ref 132), some (.int (zI bk)), some (.int (zI n)), some (.int (zI kd)), some (.int (zI mo)), some (.int (zI sd)), some (.int (zI (mo % 36))), some (.int (zI (v1 - ((mo % 36) % 6)))), some (.int (zI v4)), some (.int (zI v5)), some (.int (zI (5 - ((mo % 36) / 6)))), some (.int (zI 1)), none, none, none], [], es)) i_54_105 rfl ?_
            refine x0 (r := (109, [some (.ref 132), some (.int (zI bk)), some (.int (zI n)), some (.int (zI kd)), some (.int (zI mo)), some (.int (zI sd)), some (.int (zI (mo % 36))), some (.int (zI (v1 - ((mo % 36) % 6)))), some (.int (zI v4)), some (.int (zI v5)), some (.int (zI (5 - ((mo % 36) / 6)))), some (.int (zI 1)), none, none, none], [.int (zI v4)], es)) i_54_107 rfl ?_
            refine x0 (r := (110, [some (.ref 132), some (.int (zI bk)), some (.int (zI n)), some (.int (zI kd)), some (.int (zI mo)), some (.int (zI sd)), some (.int (zI (mo % 36))), some (.int (zI (v1 - ((mo % 36) % 6)))), some (.int (zI v4)), some (.int (zI v5)), some (.int (zI (5 - ((mo % 36) / 6)))), some (.int (zI 1)), none, none, none], [.int (zI (-1)), .int (zI v4)], es)) i_54_109 (by rfl) ?_
            by_cases c24 : v4 = (-1)
            · refine x_cmpT i_54_110 (by unfold i32 iLO iHI; omega) (by unfold i32 iLO iHI; omega) rfl (by simp only [zC, cR]; omega) ?_
              refine x0 (r := (127, [some (.ref 132), some (.int (zI bk)), some (.int (zI n)), some (.int (zI kd)), some (.int (zI mo)), some (.int (zI sd)), some (.int (zI (mo % 36))), some (.int (zI (v1 - ((mo % 36) % 6)))), some (.int (zI v4)), some (.int (zI v5)), some (.int (zI (5 - ((mo % 36) / 6)))), some (.int (zI 1)), none, none, none], [.int (zI 1)], es)) i_54_126 (by rfl) ?_
              refine x0 (r := (131, [some (.ref 132), some (.int (zI bk)), some (.int (zI n)), some (.int (zI kd)), some (.int (zI mo)), some (.int (zI sd)), some (.int (zI (mo % 36))), some (.int (zI (v1 - ((mo % 36) % 6)))), some (.int (zI v4)), some (.int (zI v5)), some (.int (zI (5 - ((mo % 36) / 6)))), some (.int (zI 1)), none, none, none], [.int (zI 1)], es)) i_54_127 rfl ?_
              refine x0 (r := (133, [some (.ref 132), some (.int (zI bk)), some (.int (zI n)), some (.int (zI kd)), some (.int (zI mo)), some (.int (zI sd)), some (.int (zI (mo % 36))), some (.int (zI (v1 - ((mo % 36) % 6)))), some (.int (zI v4)), some (.int (zI v5)), some (.int (zI (5 - ((mo % 36) / 6)))), some (.int (zI 1)), some (.int (zI 1)), none, none], [], es)) i_54_131 rfl ?_
              exact K17 v1 e_v1 c2 c3 v4 e_v4 v5 e_v5 c6 c13 v20 e_v20 c21 c24
            · refine x_cmpF i_54_110 (by unfold i32 iLO iHI; omega) (by unfold i32 iLO iHI; omega) rfl (by simp only [zC, cR]; omega) ?_
              refine x0 (r := (115, [some (.ref 132), some (.int (zI bk)), some (.int (zI n)), some (.int (zI kd)), some (.int (zI mo)), some (.int (zI sd)), some (.int (zI (mo % 36))), some (.int (zI (v1 - ((mo % 36) % 6)))), some (.int (zI v4)), some (.int (zI v5)), some (.int (zI (5 - ((mo % 36) / 6)))), some (.int (zI 1)), none, none, none], [.int (zI v4)], es)) i_54_113 rfl ?_
              refine x0 (r := (117, [some (.ref 132), some (.int (zI bk)), some (.int (zI n)), some (.int (zI kd)), some (.int (zI mo)), some (.int (zI sd)), some (.int (zI (mo % 36))), some (.int (zI (v1 - ((mo % 36) % 6)))), some (.int (zI v4)), some (.int (zI v5)), some (.int (zI (5 - ((mo % 36) / 6)))), some (.int (zI 1)), none, none, none], [.int (zI mo), .int (zI v4)], es)) i_54_115 rfl ?_
              refine x0 (r := (119, [some (.ref 132), some (.int (zI bk)), some (.int (zI n)), some (.int (zI kd)), some (.int (zI mo)), some (.int (zI sd)), some (.int (zI (mo % 36))), some (.int (zI (v1 - ((mo % 36) % 6)))), some (.int (zI v4)), some (.int (zI v5)), some (.int (zI (5 - ((mo % 36) / 6)))), some (.int (zI 1)), none, none, none], [.int (zI 36), .int (zI mo), .int (zI v4)], es)) i_54_117 (by rfl) ?_
              refine x_idivn i_54_119 (by omega) (by unfold i32 iLO iHI; omega) (by unfold i32 iLO iHI; omega) (by omega) ?_
              refine x0 (r := (122, [some (.ref 132), some (.int (zI bk)), some (.int (zI n)), some (.int (zI kd)), some (.int (zI mo)), some (.int (zI sd)), some (.int (zI (mo % 36))), some (.int (zI (v1 - ((mo % 36) % 6)))), some (.int (zI v4)), some (.int (zI v5)), some (.int (zI (5 - ((mo % 36) / 6)))), some (.int (zI 1)), none, none, none], [.int (zI 6), .int (zI (mo / 36)), .int (zI v4)], es)) i_54_120 (by rfl) ?_
              refine x_iremn i_54_122 (by omega) (by unfold i32 iLO iHI; omega) (by unfold i32 iLO iHI; omega) (by omega) ?_
              by_cases c25 : v4 ≠ ((mo / 36) % 6)
              · refine x_cmpT i_54_123 (by unfold i32 iLO iHI; omega) (by unfold i32 iLO iHI; omega) rfl (by simp only [zC, cR]; omega) ?_
                refine x0 (r := (131, [some (.ref 132), some (.int (zI bk)), some (.int (zI n)), some (.int (zI kd)), some (.int (zI mo)), some (.int (zI sd)), some (.int (zI (mo % 36))), some (.int (zI (v1 - ((mo % 36) % 6)))), some (.int (zI v4)), some (.int (zI v5)), some (.int (zI (5 - ((mo % 36) / 6)))), some (.int (zI 1)), none, none, none], [.int (zI 0)], es)) i_54_130 (by rfl) ?_
                refine x0 (r := (133, [some (.ref 132), some (.int (zI bk)), some (.int (zI n)), some (.int (zI kd)), some (.int (zI mo)), some (.int (zI sd)), some (.int (zI (mo % 36))), some (.int (zI (v1 - ((mo % 36) % 6)))), some (.int (zI v4)), some (.int (zI v5)), some (.int (zI (5 - ((mo % 36) / 6)))), some (.int (zI 1)), some (.int (zI 0)), none, none], [], es)) i_54_131 rfl ?_
                exact K18 v1 e_v1 c2 c3 v4 e_v4 v5 e_v5 c6 c13 v20 e_v20 c21 c24 c25
              · refine x_cmpF i_54_123 (by unfold i32 iLO iHI; omega) (by unfold i32 iLO iHI; omega) rfl (by simp only [zC, cR]; omega) ?_
                refine x0 (r := (127, [some (.ref 132), some (.int (zI bk)), some (.int (zI n)), some (.int (zI kd)), some (.int (zI mo)), some (.int (zI sd)), some (.int (zI (mo % 36))), some (.int (zI (v1 - ((mo % 36) % 6)))), some (.int (zI v4)), some (.int (zI v5)), some (.int (zI (5 - ((mo % 36) / 6)))), some (.int (zI 1)), none, none, none], [.int (zI 1)], es)) i_54_126 (by rfl) ?_
                refine x0 (r := (131, [some (.ref 132), some (.int (zI bk)), some (.int (zI n)), some (.int (zI kd)), some (.int (zI mo)), some (.int (zI sd)), some (.int (zI (mo % 36))), some (.int (zI (v1 - ((mo % 36) % 6)))), some (.int (zI v4)), some (.int (zI v5)), some (.int (zI (5 - ((mo % 36) / 6)))), some (.int (zI 1)), none, none, none], [.int (zI 1)], es)) i_54_127 rfl ?_
                refine x0 (r := (133, [some (.ref 132), some (.int (zI bk)), some (.int (zI n)), some (.int (zI kd)), some (.int (zI mo)), some (.int (zI sd)), some (.int (zI (mo % 36))), some (.int (zI (v1 - ((mo % 36) % 6)))), some (.int (zI v4)), some (.int (zI v5)), some (.int (zI (5 - ((mo % 36) / 6)))), some (.int (zI 1)), some (.int (zI 1)), none, none], [], es)) i_54_131 rfl ?_
                exact K19 v1 e_v1 c2 c3 v4 e_v4 v5 e_v5 c6 c13 v20 e_v20 c21 c24 c25
    · refine x_cmpF i_54_34 (by unfold i32 iLO iHI; omega) (by unfold i32 iLO iHI; omega) rfl (by simp only [zC, cR]; omega) ?_
      refine x0 (r := (38, [some (.ref 132), some (.int (zI bk)), some (.int (zI n)), some (.int (zI kd)), some (.int (zI mo)), some (.int (zI sd)), some (.int (zI (mo % 36))), some (.int (zI (v1 - ((mo % 36) % 6)))), none, none, none, none, none, none, none], [.int (zI (-1))], es)) i_54_37 (by rfl) ?_
      refine x_ret (v := some (.int (zI (-1)))) i_54_38 rfl (fun _ => rfl) rfl rfl rfl ?_
      exact K20 v1 e_v1 c2 c3
theorem s_sl133 {O : pOut} {d kc ks : Nat} {Q : pRes → Prop} {es : PH} {bk n kd mo sd fi fr ra du ik ir : Int} (hs_es : sh es) (hb : 0 ≤ bk ∧ bk ≤ 2) (hn : 0 ≤ n ∧ n ≤ 23) (hk : 0 ≤ kd ∧ kd ≤ 4) (hmo : 0 ≤ mo ∧ mo ≤ 1295) (hsd : 0 ≤ sd ∧ sd ≤ 1) (hpo : ∀ i, i < 8 → (gA es 55 i).toInt = 0) (h1 : 0 ≤ ik ∧ ik ≤ 1) (h2 : 0 ≤ ir ∧ ir ≤ 1) (h3 : -1 ≤ fi ∧ fi ≤ 1) (h4 : -40 ≤ ra ∧ ra ≤ 40) (h5 : 0 ≤ du ∧ du ≤ 5)
    (K1 : ik = 0 → ir = 0 → fi ≠ 0 → ra ≠ du → Q (.inl (some (.int (zI (-1)))), es, kc, ks))
    (K2 : ik = 0 → ir = 0 → fi ≠ 0 → ¬ (ra ≠ du) → Q (.inl (some (.int (zI (-1)))), es, kc, ks))
    (K3 : ik = 0 → ir = 0 → ¬ (fi ≠ 0) → ra ≠ du → Q (.inl (some (.int (zI (-1)))), es, kc, ks))
    (K4 : ik = 0 → ir = 0 → ¬ (fi ≠ 0) → ¬ (ra ≠ du) → Q (.inl (some (.int (zI (-1)))), es, kc, ks))
    (K5 : ik = 0 → ¬ (ir = 0) → fi ≠ 0 → ra ≠ du → Q (.inl (some (.int (zI (-1)))), es, kc, ks))
    (K6 : ik = 0 → ¬ (ir = 0) → fi ≠ 0 → ¬ (ra ≠ du) → Q (.inl (some (.int (zI (-1)))), es, kc, ks))
    (K7 : ik = 0 → ¬ (ir = 0) → ¬ (fi ≠ 0) → ra ≠ du → Q (.inl (some (.int (zI (-1)))), es, kc, ks))
    (K8 : ik = 0 → ¬ (ir = 0) → ¬ (fi ≠ 0) → ¬ (ra ≠ du) → Q (.inl (some (.int (zI (-1)))), es, kc, ks))
    (K9 : ¬ (ik = 0) → ir = 0 → fi ≠ 0 → ra ≠ du → Q (.inl (some (.int (zI (-1)))), es, kc, ks))
    (K10 : ¬ (ik = 0) → ir = 0 → fi ≠ 0 → ¬ (ra ≠ du) → Q (.inl (some (.int (zI (-1)))), es, kc, ks))
    (K11 : ¬ (ik = 0) → ir = 0 → ¬ (fi ≠ 0) → ra ≠ du → Q (.inl (some (.int (zI (-1)))), es, kc, ks))
    (K12 : ¬ (ik = 0) → ir = 0 → ¬ (fi ≠ 0) → ¬ (ra ≠ du) → Q (.inl (some (.int (zI (-1)))), es, kc, ks))
    (K13 : ¬ (ik = 0) → ¬ (ir = 0) → fi ≠ 0 → ra ≠ du → Q (.inl (some (.int (zI (-1)))), es, kc, ks))
    (K14 : ¬ (ik = 0) → ¬ (ir = 0) → fi ≠ 0 → ¬ (ra ≠ du) → Q (.inl (some (.int (zI (-1)))), es, kc, ks))
    (K15 : ¬ (ik = 0) → ¬ (ir = 0) → ¬ (fi ≠ 0) → ra ≠ du → (ra - du) = 1 → (5 - ra) ≠ du → Q (.inl (some (.int (zI (-1)))), es, kc, ks))
    (K16 : ¬ (ik = 0) → ¬ (ir = 0) → ¬ (fi ≠ 0) → ra ≠ du → (ra - du) = 1 → ¬ ((5 - ra) ≠ du) → Q (.inl (some (.int (zI (-1)))), es, kc, ks))
    (K17 : ¬ (ik = 0) → ¬ (ir = 0) → ¬ (fi ≠ 0) → ra ≠ du → ¬ ((ra - du) = 1) → (du - ra) ≠ 1 → (5 - ra) ≠ du → Q (.inl (some (.int (zI (-1)))), es, kc, ks))
    (K18 : ¬ (ik = 0) → ¬ (ir = 0) → ¬ (fi ≠ 0) → ra ≠ du → ¬ ((ra - du) = 1) → (du - ra) ≠ 1 → ¬ ((5 - ra) ≠ du) → Q (.inl (some (.int (zI (-1)))), es, kc, ks))
    (K19 : ¬ (ik = 0) → ¬ (ir = 0) → ¬ (fi ≠ 0) → ra ≠ du → ¬ ((ra - du) = 1) → ¬ ((du - ra) ≠ 1) → (5 - ra) ≠ du → Q (.inl (some (.int (zI (-1)))), es, kc, ks))
    (K20 : ¬ (ik = 0) → ¬ (ir = 0) → ¬ (fi ≠ 0) → ra ≠ du → ¬ ((ra - du) = 1) → ¬ ((du - ra) ≠ 1) → ¬ ((5 - ra) ≠ du) → Q (.inl (some (.int (zI (-1)))), es, kc, ks))
    (K21 : ¬ (ik = 0) → ¬ (ir = 0) → ¬ (fi ≠ 0) → ¬ (ra ≠ du) → Q (.inl (some (.int (zI 0))), es, kc, ks)) :
    aW O (d + 2) 54 kc ks Q (133, [some (.ref 132), some (.int (zI bk)), some (.int (zI n)), some (.int (zI kd)), some (.int (zI mo)), some (.int (zI sd)), some (.int (zI (mo % 36))), some (.int (zI fi)), some (.int (zI fr)), some (.int (zI ra)), some (.int (zI du)), some (.int (zI ik)), some (.int (zI ir)), none, none], [], es) := by
  refine x0 (r := (135, [some (.ref 132), some (.int (zI bk)), some (.int (zI n)), some (.int (zI kd)), some (.int (zI mo)), some (.int (zI sd)), some (.int (zI (mo % 36))), some (.int (zI fi)), some (.int (zI fr)), some (.int (zI ra)), some (.int (zI du)), some (.int (zI ik)), some (.int (zI ir)), none, none], [.int (zI ik)], es)) i_54_133 rfl ?_
  by_cases c1 : ik = 0
  · refine x_ifT i_54_135 (by unfold i32 iLO iHI; omega) rfl (by simp only [zC, cR]; omega) ?_
    refine x0 (r := (143, [some (.ref 132), some (.int (zI bk)), some (.int (zI n)), some (.int (zI kd)), some (.int (zI mo)), some (.int (zI sd)), some (.int (zI (mo % 36))), some (.int (zI fi)), some (.int (zI fr)), some (.int (zI ra)), some (.int (zI du)), some (.int (zI ik)), some (.int (zI ir)), none, none], [.int (zI 1)], es)) i_54_142 (by rfl) ?_
    refine x0 (r := (145, [some (.ref 132), some (.int (zI bk)), some (.int (zI n)), some (.int (zI kd)), some (.int (zI mo)), some (.int (zI sd)), some (.int (zI (mo % 36))), some (.int (zI fi)), some (.int (zI fr)), some (.int (zI ra)), some (.int (zI du)), some (.int (zI ik)), some (.int (zI ir)), none, none], [.int (zI ir), .int (zI 1)], es)) i_54_143 rfl ?_
    by_cases c2 : ir = 0
    · refine x_ifT i_54_145 (by unfold i32 iLO iHI; omega) rfl (by simp only [zC, cR]; omega) ?_
      refine x0 (r := (153, [some (.ref 132), some (.int (zI bk)), some (.int (zI n)), some (.int (zI kd)), some (.int (zI mo)), some (.int (zI sd)), some (.int (zI (mo % 36))), some (.int (zI fi)), some (.int (zI fr)), some (.int (zI ra)), some (.int (zI du)), some (.int (zI ik)), some (.int (zI ir)), none, none], [.int (zI 1), .int (zI 1)], es)) i_54_152 (by rfl) ?_
      refine x_iadd i_54_153 ?_
      show aW _ _ _ _ _ _ (154, [some (.ref 132), some (.int (zI bk)), some (.int (zI n)), some (.int (zI kd)), some (.int (zI mo)), some (.int (zI sd)), some (.int (zI (mo % 36))), some (.int (zI fi)), some (.int (zI fr)), some (.int (zI ra)), some (.int (zI du)), some (.int (zI ik)), some (.int (zI ir)), none, none], [.int (zI 2)], es)
      refine x0 (r := (156, [some (.ref 132), some (.int (zI bk)), some (.int (zI n)), some (.int (zI kd)), some (.int (zI mo)), some (.int (zI sd)), some (.int (zI (mo % 36))), some (.int (zI fi)), some (.int (zI fr)), some (.int (zI ra)), some (.int (zI du)), some (.int (zI ik)), some (.int (zI ir)), none, none], [.int (zI fi), .int (zI 2)], es)) i_54_154 rfl ?_
      by_cases c3 : fi ≠ 0
      · refine x_ifT i_54_156 (by unfold i32 iLO iHI; omega) rfl (by simp only [zC, cR]; omega) ?_
        refine x0 (r := (164, [some (.ref 132), some (.int (zI bk)), some (.int (zI n)), some (.int (zI kd)), some (.int (zI mo)), some (.int (zI sd)), some (.int (zI (mo % 36))), some (.int (zI fi)), some (.int (zI fr)), some (.int (zI ra)), some (.int (zI du)), some (.int (zI ik)), some (.int (zI ir)), none, none], [.int (zI 1), .int (zI 2)], es)) i_54_163 (by rfl) ?_
        refine x_iadd i_54_164 ?_
        show aW _ _ _ _ _ _ (165, [some (.ref 132), some (.int (zI bk)), some (.int (zI n)), some (.int (zI kd)), some (.int (zI mo)), some (.int (zI sd)), some (.int (zI (mo % 36))), some (.int (zI fi)), some (.int (zI fr)), some (.int (zI ra)), some (.int (zI du)), some (.int (zI ik)), some (.int (zI ir)), none, none], [.int (zI 3)], es)
        refine x0 (r := (167, [some (.ref 132), some (.int (zI bk)), some (.int (zI n)), some (.int (zI kd)), some (.int (zI mo)), some (.int (zI sd)), some (.int (zI (mo % 36))), some (.int (zI fi)), some (.int (zI fr)), some (.int (zI ra)), some (.int (zI du)), some (.int (zI ik)), some (.int (zI ir)), none, none], [.int (zI ra), .int (zI 3)], es)) i_54_165 rfl ?_
        refine x0 (r := (169, [some (.ref 132), some (.int (zI bk)), some (.int (zI n)), some (.int (zI kd)), some (.int (zI mo)), some (.int (zI sd)), some (.int (zI (mo % 36))), some (.int (zI fi)), some (.int (zI fr)), some (.int (zI ra)), some (.int (zI du)), some (.int (zI ik)), some (.int (zI ir)), none, none], [.int (zI du), .int (zI ra), .int (zI 3)], es)) i_54_167 rfl ?_
        by_cases c4 : ra ≠ du
        · refine x_cmpT i_54_169 (by unfold i32 iLO iHI; omega) (by unfold i32 iLO iHI; omega) rfl (by simp only [zC, cR]; omega) ?_
          refine x0 (r := (177, [some (.ref 132), some (.int (zI bk)), some (.int (zI n)), some (.int (zI kd)), some (.int (zI mo)), some (.int (zI sd)), some (.int (zI (mo % 36))), some (.int (zI fi)), some (.int (zI fr)), some (.int (zI ra)), some (.int (zI du)), some (.int (zI ik)), some (.int (zI ir)), none, none], [.int (zI 1), .int (zI 3)], es)) i_54_176 (by rfl) ?_
          refine x_iadd i_54_177 ?_
          show aW _ _ _ _ _ _ (178, [some (.ref 132), some (.int (zI bk)), some (.int (zI n)), some (.int (zI kd)), some (.int (zI mo)), some (.int (zI sd)), some (.int (zI (mo % 36))), some (.int (zI fi)), some (.int (zI fr)), some (.int (zI ra)), some (.int (zI du)), some (.int (zI ik)), some (.int (zI ir)), none, none], [.int (zI 4)], es)
          refine x0 (r := (180, [some (.ref 132), some (.int (zI bk)), some (.int (zI n)), some (.int (zI kd)), some (.int (zI mo)), some (.int (zI sd)), some (.int (zI (mo % 36))), some (.int (zI fi)), some (.int (zI fr)), some (.int (zI ra)), some (.int (zI du)), some (.int (zI ik)), some (.int (zI ir)), some (.int (zI 4)), none], [], es)) i_54_178 rfl ?_
          refine x0 (r := (182, [some (.ref 132), some (.int (zI bk)), some (.int (zI n)), some (.int (zI kd)), some (.int (zI mo)), some (.int (zI sd)), some (.int (zI (mo % 36))), some (.int (zI fi)), some (.int (zI fr)), some (.int (zI ra)), some (.int (zI du)), some (.int (zI ik)), some (.int (zI ir)), some (.int (zI 4)), none], [.int (zI 4)], es)) i_54_180 rfl ?_
          refine x0 (r := (183, [some (.ref 132), some (.int (zI bk)), some (.int (zI n)), some (.int (zI kd)), some (.int (zI mo)), some (.int (zI sd)), some (.int (zI (mo % 36))), some (.int (zI fi)), some (.int (zI fr)), some (.int (zI ra)), some (.int (zI du)), some (.int (zI ik)), some (.int (zI ir)), some (.int (zI 4)), none], [.int (zI 1), .int (zI 4)], es)) i_54_182 (by rfl) ?_
          refine x_cmpF i_54_183 (by unfold i32 iLO iHI; omega) (by unfold i32 iLO iHI; omega) rfl (by simp only [zC, cR]; omega) ?_
          refine x0 (r := (188, [some (.ref 132), some (.int (zI bk)), some (.int (zI n)), some (.int (zI kd)), some (.int (zI mo)), some (.int (zI sd)), some (.int (zI (mo % 36))), some (.int (zI fi)), some (.int (zI fr)), some (.int (zI ra)), some (.int (zI du)), some (.int (zI ik)), some (.int (zI ir)), some (.int (zI 4)), none], [.int (zI 4)], es)) i_54_186 rfl ?_
          refine x_ifT i_54_188 (by unfold i32 iLO iHI; omega) rfl (by simp only [zC, cR]; omega) ?_
          refine x0 (r := (196, [some (.ref 132), some (.int (zI bk)), some (.int (zI n)), some (.int (zI kd)), some (.int (zI mo)), some (.int (zI sd)), some (.int (zI (mo % 36))), some (.int (zI fi)), some (.int (zI fr)), some (.int (zI ra)), some (.int (zI du)), some (.int (zI ik)), some (.int (zI ir)), some (.int (zI 4)), none], [.int (zI (-1))], es)) i_54_195 (by rfl) ?_
          refine x_ret (v := some (.int (zI (-1)))) i_54_196 rfl (fun _ => rfl) rfl rfl rfl ?_
          exact K1 c1 c2 c3 c4
        · refine x_cmpF i_54_169 (by unfold i32 iLO iHI; omega) (by unfold i32 iLO iHI; omega) rfl (by simp only [zC, cR]; omega) ?_
          refine x0 (r := (173, [some (.ref 132), some (.int (zI bk)), some (.int (zI n)), some (.int (zI kd)), some (.int (zI mo)), some (.int (zI sd)), some (.int (zI (mo % 36))), some (.int (zI fi)), some (.int (zI fr)), some (.int (zI ra)), some (.int (zI du)), some (.int (zI ik)), some (.int (zI ir)), none, none], [.int (zI 0), .int (zI 3)], es)) i_54_172 (by rfl) ?_
          refine x0 (r := (177, [some (.ref 132), some (.int (zI bk)), some (.int (zI n)), some (.int (zI kd)), some (.int (zI mo)), some (.int (zI sd)), some (.int (zI (mo % 36))), some (.int (zI fi)), some (.int (zI fr)), some (.int (zI ra)), some (.int (zI du)), some (.int (zI ik)), some (.int (zI ir)), none, none], [.int (zI 0), .int (zI 3)], es)) i_54_173 rfl ?_
          refine x_iadd i_54_177 ?_
          show aW _ _ _ _ _ _ (178, [some (.ref 132), some (.int (zI bk)), some (.int (zI n)), some (.int (zI kd)), some (.int (zI mo)), some (.int (zI sd)), some (.int (zI (mo % 36))), some (.int (zI fi)), some (.int (zI fr)), some (.int (zI ra)), some (.int (zI du)), some (.int (zI ik)), some (.int (zI ir)), none, none], [.int (zI 3)], es)
          refine x0 (r := (180, [some (.ref 132), some (.int (zI bk)), some (.int (zI n)), some (.int (zI kd)), some (.int (zI mo)), some (.int (zI sd)), some (.int (zI (mo % 36))), some (.int (zI fi)), some (.int (zI fr)), some (.int (zI ra)), some (.int (zI du)), some (.int (zI ik)), some (.int (zI ir)), some (.int (zI 3)), none], [], es)) i_54_178 rfl ?_
          refine x0 (r := (182, [some (.ref 132), some (.int (zI bk)), some (.int (zI n)), some (.int (zI kd)), some (.int (zI mo)), some (.int (zI sd)), some (.int (zI (mo % 36))), some (.int (zI fi)), some (.int (zI fr)), some (.int (zI ra)), some (.int (zI du)), some (.int (zI ik)), some (.int (zI ir)), some (.int (zI 3)), none], [.int (zI 3)], es)) i_54_180 rfl ?_
          refine x0 (r := (183, [some (.ref 132), some (.int (zI bk)), some (.int (zI n)), some (.int (zI kd)), some (.int (zI mo)), some (.int (zI sd)), some (.int (zI (mo % 36))), some (.int (zI fi)), some (.int (zI fr)), some (.int (zI ra)), some (.int (zI du)), some (.int (zI ik)), some (.int (zI ir)), some (.int (zI 3)), none], [.int (zI 1), .int (zI 3)], es)) i_54_182 (by rfl) ?_
          refine x_cmpF i_54_183 (by unfold i32 iLO iHI; omega) (by unfold i32 iLO iHI; omega) rfl (by simp only [zC, cR]; omega) ?_
          refine x0 (r := (188, [some (.ref 132), some (.int (zI bk)), some (.int (zI n)), some (.int (zI kd)), some (.int (zI mo)), some (.int (zI sd)), some (.int (zI (mo % 36))), some (.int (zI fi)), some (.int (zI fr)), some (.int (zI ra)), some (.int (zI du)), some (.int (zI ik)), some (.int (zI ir)), some (.int (zI 3)), none], [.int (zI 3)], es)) i_54_186 rfl ?_
          refine x_ifT i_54_188 (by unfold i32 iLO iHI; omega) rfl (by simp only [zC, cR]; omega) ?_
          refine x0 (r := (196, [some (.ref 132), some (.int (zI bk)), some (.int (zI n)), some (.int (zI kd)), some (.int (zI mo)), some (.int (zI sd)), some (.int (zI (mo % 36))), some (.int (zI fi)), some (.int (zI fr)), some (.int (zI ra)), some (.int (zI du)), some (.int (zI ik)), some (.int (zI ir)), some (.int (zI 3)), none], [.int (zI (-1))], es)) i_54_195 (by rfl) ?_
          refine x_ret (v := some (.int (zI (-1)))) i_54_196 rfl (fun _ => rfl) rfl rfl rfl ?_
          exact K2 c1 c2 c3 c4
      · refine x_ifF i_54_156 (by unfold i32 iLO iHI; omega) rfl (by simp only [zC, cR]; omega) ?_
        refine x0 (r := (160, [some (.ref 132), some (.int (zI bk)), some (.int (zI n)), some (.int (zI kd)), some (.int (zI mo)), some (.int (zI sd)), some (.int (zI (mo % 36))), some (.int (zI fi)), some (.int (zI fr)), some (.int (zI ra)), some (.int (zI du)), some (.int (zI ik)), some (.int (zI ir)), none, none], [.int (zI 0), .int (zI 2)], es)) i_54_159 (by rfl) ?_
        refine x0 (r := (164, [some (.ref 132), some (.int (zI bk)), some (.int (zI n)), some (.int (zI kd)), some (.int (zI mo)), some (.int (zI sd)), some (.int (zI (mo % 36))), some (.int (zI fi)), some (.int (zI fr)), some (.int (zI ra)), some (.int (zI du)), some (.int (zI ik)), some (.int (zI ir)), none, none], [.int (zI 0), .int (zI 2)], es)) i_54_160 rfl ?_
        refine x_iadd i_54_164 ?_
        show aW _ _ _ _ _ _ (165, [some (.ref 132), some (.int (zI bk)), some (.int (zI n)), some (.int (zI kd)), some (.int (zI mo)), some (.int (zI sd)), some (.int (zI (mo % 36))), some (.int (zI fi)), some (.int (zI fr)), some (.int (zI ra)), some (.int (zI du)), some (.int (zI ik)), some (.int (zI ir)), none, none], [.int (zI 2)], es)
        refine x0 (r := (167, [some (.ref 132), some (.int (zI bk)), some (.int (zI n)), some (.int (zI kd)), some (.int (zI mo)), some (.int (zI sd)), some (.int (zI (mo % 36))), some (.int (zI fi)), some (.int (zI fr)), some (.int (zI ra)), some (.int (zI du)), some (.int (zI ik)), some (.int (zI ir)), none, none], [.int (zI ra), .int (zI 2)], es)) i_54_165 rfl ?_
        refine x0 (r := (169, [some (.ref 132), some (.int (zI bk)), some (.int (zI n)), some (.int (zI kd)), some (.int (zI mo)), some (.int (zI sd)), some (.int (zI (mo % 36))), some (.int (zI fi)), some (.int (zI fr)), some (.int (zI ra)), some (.int (zI du)), some (.int (zI ik)), some (.int (zI ir)), none, none], [.int (zI du), .int (zI ra), .int (zI 2)], es)) i_54_167 rfl ?_
        by_cases c5 : ra ≠ du
        · refine x_cmpT i_54_169 (by unfold i32 iLO iHI; omega) (by unfold i32 iLO iHI; omega) rfl (by simp only [zC, cR]; omega) ?_
          refine x0 (r := (177, [some (.ref 132), some (.int (zI bk)), some (.int (zI n)), some (.int (zI kd)), some (.int (zI mo)), some (.int (zI sd)), some (.int (zI (mo % 36))), some (.int (zI fi)), some (.int (zI fr)), some (.int (zI ra)), some (.int (zI du)), some (.int (zI ik)), some (.int (zI ir)), none, none], [.int (zI 1), .int (zI 2)], es)) i_54_176 (by rfl) ?_
          refine x_iadd i_54_177 ?_
          show aW _ _ _ _ _ _ (178, [some (.ref 132), some (.int (zI bk)), some (.int (zI n)), some (.int (zI kd)), some (.int (zI mo)), some (.int (zI sd)), some (.int (zI (mo % 36))), some (.int (zI fi)), some (.int (zI fr)), some (.int (zI ra)), some (.int (zI du)), some (.int (zI ik)), some (.int (zI ir)), none, none], [.int (zI 3)], es)
          refine x0 (r := (180, [some (.ref 132), some (.int (zI bk)), some (.int (zI n)), some (.int (zI kd)), some (.int (zI mo)), some (.int (zI sd)), some (.int (zI (mo % 36))), some (.int (zI fi)), some (.int (zI fr)), some (.int (zI ra)), some (.int (zI du)), some (.int (zI ik)), some (.int (zI ir)), some (.int (zI 3)), none], [], es)) i_54_178 rfl ?_
          refine x0 (r := (182, [some (.ref 132), some (.int (zI bk)), some (.int (zI n)), some (.int (zI kd)), some (.int (zI mo)), some (.int (zI sd)), some (.int (zI (mo % 36))), some (.int (zI fi)), some (.int (zI fr)), some (.int (zI ra)), some (.int (zI du)), some (.int (zI ik)), some (.int (zI ir)), some (.int (zI 3)), none], [.int (zI 3)], es)) i_54_180 rfl ?_
          refine x0 (r := (183, [some (.ref 132), some (.int (zI bk)), some (.int (zI n)), some (.int (zI kd)), some (.int (zI mo)), some (.int (zI sd)), some (.int (zI (mo % 36))), some (.int (zI fi)), some (.int (zI fr)), some (.int (zI ra)), some (.int (zI du)), some (.int (zI ik)), some (.int (zI ir)), some (.int (zI 3)), none], [.int (zI 1), .int (zI 3)], es)) i_54_182 (by rfl) ?_
          refine x_cmpF i_54_183 (by unfold i32 iLO iHI; omega) (by unfold i32 iLO iHI; omega) rfl (by simp only [zC, cR]; omega) ?_
          refine x0 (r := (188, [some (.ref 132), some (.int (zI bk)), some (.int (zI n)), some (.int (zI kd)), some (.int (zI mo)), some (.int (zI sd)), some (.int (zI (mo % 36))), some (.int (zI fi)), some (.int (zI fr)), some (.int (zI ra)), some (.int (zI du)), some (.int (zI ik)), some (.int (zI ir)), some (.int (zI 3)), none], [.int (zI 3)], es)) i_54_186 rfl ?_
          refine x_ifT i_54_188 (by unfold i32 iLO iHI; omega) rfl (by simp only [zC, cR]; omega) ?_
          refine x0 (r := (196, [some (.ref 132), some (.int (zI bk)), some (.int (zI n)), some (.int (zI kd)), some (.int (zI mo)), some (.int (zI sd)), some (.int (zI (mo % 36))), some (.int (zI fi)), some (.int (zI fr)), some (.int (zI ra)), some (.int (zI du)), some (.int (zI ik)), some (.int (zI ir)), some (.int (zI 3)), none], [.int (zI (-1))], es)) i_54_195 (by rfl) ?_
          refine x_ret (v := some (.int (zI (-1)))) i_54_196 rfl (fun _ => rfl) rfl rfl rfl ?_
          exact K3 c1 c2 c3 c5
        · refine x_cmpF i_54_169 (by unfold i32 iLO iHI; omega) (by unfold i32 iLO iHI; omega) rfl (by simp only [zC, cR]; omega) ?_
          refine x0 (r := (173, [some (.ref 132), some (.int (zI bk)), some (.int (zI n)), some (.int (zI kd)), some (.int (zI mo)), some (.int (zI sd)), some (.int (zI (mo % 36))), some (.int (zI fi)), some (.int (zI fr)), some (.int (zI ra)), some (.int (zI du)), some (.int (zI ik)), some (.int (zI ir)), none, none], [.int (zI 0), .int (zI 2)], es)) i_54_172 (by rfl) ?_
          refine x0 (r := (177, [some (.ref 132), some (.int (zI bk)), some (.int (zI n)), some (.int (zI kd)), some (.int (zI mo)), some (.int (zI sd)), some (.int (zI (mo % 36))), some (.int (zI fi)), some (.int (zI fr)), some (.int (zI ra)), some (.int (zI du)), some (.int (zI ik)), some (.int (zI ir)), none, none], [.int (zI 0), .int (zI 2)], es)) i_54_173 rfl ?_
          refine x_iadd i_54_177 ?_
          show aW _ _ _ _ _ _ (178, [some (.ref 132), some (.int (zI bk)), some (.int (zI n)), some (.int (zI kd)), some (.int (zI mo)), some (.int (zI sd)), some (.int (zI (mo % 36))), some (.int (zI fi)), some (.int (zI fr)), some (.int (zI ra)), some (.int (zI du)), some (.int (zI ik)), some (.int (zI ir)), none, none], [.int (zI 2)], es)
          refine x0 (r := (180, [some (.ref 132), some (.int (zI bk)), some (.int (zI n)), some (.int (zI kd)), some (.int (zI mo)), some (.int (zI sd)), some (.int (zI (mo % 36))), some (.int (zI fi)), some (.int (zI fr)), some (.int (zI ra)), some (.int (zI du)), some (.int (zI ik)), some (.int (zI ir)), some (.int (zI 2)), none], [], es)) i_54_178 rfl ?_
          refine x0 (r := (182, [some (.ref 132), some (.int (zI bk)), some (.int (zI n)), some (.int (zI kd)), some (.int (zI mo)), some (.int (zI sd)), some (.int (zI (mo % 36))), some (.int (zI fi)), some (.int (zI fr)), some (.int (zI ra)), some (.int (zI du)), some (.int (zI ik)), some (.int (zI ir)), some (.int (zI 2)), none], [.int (zI 2)], es)) i_54_180 rfl ?_
          refine x0 (r := (183, [some (.ref 132), some (.int (zI bk)), some (.int (zI n)), some (.int (zI kd)), some (.int (zI mo)), some (.int (zI sd)), some (.int (zI (mo % 36))), some (.int (zI fi)), some (.int (zI fr)), some (.int (zI ra)), some (.int (zI du)), some (.int (zI ik)), some (.int (zI ir)), some (.int (zI 2)), none], [.int (zI 1), .int (zI 2)], es)) i_54_182 (by rfl) ?_
          refine x_cmpF i_54_183 (by unfold i32 iLO iHI; omega) (by unfold i32 iLO iHI; omega) rfl (by simp only [zC, cR]; omega) ?_
          refine x0 (r := (188, [some (.ref 132), some (.int (zI bk)), some (.int (zI n)), some (.int (zI kd)), some (.int (zI mo)), some (.int (zI sd)), some (.int (zI (mo % 36))), some (.int (zI fi)), some (.int (zI fr)), some (.int (zI ra)), some (.int (zI du)), some (.int (zI ik)), some (.int (zI ir)), some (.int (zI 2)), none], [.int (zI 2)], es)) i_54_186 rfl ?_
          refine x_ifT i_54_188 (by unfold i32 iLO iHI; omega) rfl (by simp only [zC, cR]; omega) ?_
          refine x0 (r := (196, [some (.ref 132), some (.int (zI bk)), some (.int (zI n)), some (.int (zI kd)), some (.int (zI mo)), some (.int (zI sd)), some (.int (zI (mo % 36))), some (.int (zI fi)), some (.int (zI fr)), some (.int (zI ra)), some (.int (zI du)), some (.int (zI ik)), some (.int (zI ir)), some (.int (zI 2)), none], [.int (zI (-1))], es)) i_54_195 (by rfl) ?_
          refine x_ret (v := some (.int (zI (-1)))) i_54_196 rfl (fun _ => rfl) rfl rfl rfl ?_
          exact K4 c1 c2 c3 c5
    · refine x_ifF i_54_145 (by unfold i32 iLO iHI; omega) rfl (by simp only [zC, cR]; omega) ?_
      refine x0 (r := (149, [some (.ref 132), some (.int (zI bk)), some (.int (zI n)), some (.int (zI kd)), some (.int (zI mo)), some (.int (zI sd)), some (.int (zI (mo % 36))), some (.int (zI fi)), some (.int (zI fr)), some (.int (zI ra)), some (.int (zI du)), some (.int (zI ik)), some (.int (zI ir)), none, none], [.int (zI 0), .int (zI 1)], es)) i_54_148 (by rfl) ?_
      refine x0 (r := (153, [some (.ref 132), some (.int (zI bk)), some (.int (zI n)), some (.int (zI kd)), some (.int (zI mo)), some (.int (zI sd)), some (.int (zI (mo % 36))), some (.int (zI fi)), some (.int (zI fr)), some (.int (zI ra)), some (.int (zI du)), some (.int (zI ik)), some (.int (zI ir)), none, none], [.int (zI 0), .int (zI 1)], es)) i_54_149 rfl ?_
      refine x_iadd i_54_153 ?_
      show aW _ _ _ _ _ _ (154, [some (.ref 132), some (.int (zI bk)), some (.int (zI n)), some (.int (zI kd)), some (.int (zI mo)), some (.int (zI sd)), some (.int (zI (mo % 36))), some (.int (zI fi)), some (.int (zI fr)), some (.int (zI ra)), some (.int (zI du)), some (.int (zI ik)), some (.int (zI ir)), none, none], [.int (zI 1)], es)
      refine x0 (r := (156, [some (.ref 132), some (.int (zI bk)), some (.int (zI n)), some (.int (zI kd)), some (.int (zI mo)), some (.int (zI sd)), some (.int (zI (mo % 36))), some (.int (zI fi)), some (.int (zI fr)), some (.int (zI ra)), some (.int (zI du)), some (.int (zI ik)), some (.int (zI ir)), none, none], [.int (zI fi), .int (zI 1)], es)) i_54_154 rfl ?_
      by_cases c6 : fi ≠ 0
      · refine x_ifT i_54_156 (by unfold i32 iLO iHI; omega) rfl (by simp only [zC, cR]; omega) ?_
        refine x0 (r := (164, [some (.ref 132), some (.int (zI bk)), some (.int (zI n)), some (.int (zI kd)), some (.int (zI mo)), some (.int (zI sd)), some (.int (zI (mo % 36))), some (.int (zI fi)), some (.int (zI fr)), some (.int (zI ra)), some (.int (zI du)), some (.int (zI ik)), some (.int (zI ir)), none, none], [.int (zI 1), .int (zI 1)], es)) i_54_163 (by rfl) ?_
        refine x_iadd i_54_164 ?_
        show aW _ _ _ _ _ _ (165, [some (.ref 132), some (.int (zI bk)), some (.int (zI n)), some (.int (zI kd)), some (.int (zI mo)), some (.int (zI sd)), some (.int (zI (mo % 36))), some (.int (zI fi)), some (.int (zI fr)), some (.int (zI ra)), some (.int (zI du)), some (.int (zI ik)), some (.int (zI ir)), none, none], [.int (zI 2)], es)
        refine x0 (r := (167, [some (.ref 132), some (.int (zI bk)), some (.int (zI n)), some (.int (zI kd)), some (.int (zI mo)), some (.int (zI sd)), some (.int (zI (mo % 36))), some (.int (zI fi)), some (.int (zI fr)), some (.int (zI ra)), some (.int (zI du)), some (.int (zI ik)), some (.int (zI ir)), none, none], [.int (zI ra), .int (zI 2)], es)) i_54_165 rfl ?_
        refine x0 (r := (169, [some (.ref 132), some (.int (zI bk)), some (.int (zI n)), some (.int (zI kd)), some (.int (zI mo)), some (.int (zI sd)), some (.int (zI (mo % 36))), some (.int (zI fi)), some (.int (zI fr)), some (.int (zI ra)), some (.int (zI du)), some (.int (zI ik)), some (.int (zI ir)), none, none], [.int (zI du), .int (zI ra), .int (zI 2)], es)) i_54_167 rfl ?_
        by_cases c7 : ra ≠ du
        · refine x_cmpT i_54_169 (by unfold i32 iLO iHI; omega) (by unfold i32 iLO iHI; omega) rfl (by simp only [zC, cR]; omega) ?_
          refine x0 (r := (177, [some (.ref 132), some (.int (zI bk)), some (.int (zI n)), some (.int (zI kd)), some (.int (zI mo)), some (.int (zI sd)), some (.int (zI (mo % 36))), some (.int (zI fi)), some (.int (zI fr)), some (.int (zI ra)), some (.int (zI du)), some (.int (zI ik)), some (.int (zI ir)), none, none], [.int (zI 1), .int (zI 2)], es)) i_54_176 (by rfl) ?_
          refine x_iadd i_54_177 ?_
          show aW _ _ _ _ _ _ (178, [some (.ref 132), some (.int (zI bk)), some (.int (zI n)), some (.int (zI kd)), some (.int (zI mo)), some (.int (zI sd)), some (.int (zI (mo % 36))), some (.int (zI fi)), some (.int (zI fr)), some (.int (zI ra)), some (.int (zI du)), some (.int (zI ik)), some (.int (zI ir)), none, none], [.int (zI 3)], es)
          refine x0 (r := (180, [some (.ref 132), some (.int (zI bk)), some (.int (zI n)), some (.int (zI kd)), some (.int (zI mo)), some (.int (zI sd)), some (.int (zI (mo % 36))), some (.int (zI fi)), some (.int (zI fr)), some (.int (zI ra)), some (.int (zI du)), some (.int (zI ik)), some (.int (zI ir)), some (.int (zI 3)), none], [], es)) i_54_178 rfl ?_
          refine x0 (r := (182, [some (.ref 132), some (.int (zI bk)), some (.int (zI n)), some (.int (zI kd)), some (.int (zI mo)), some (.int (zI sd)), some (.int (zI (mo % 36))), some (.int (zI fi)), some (.int (zI fr)), some (.int (zI ra)), some (.int (zI du)), some (.int (zI ik)), some (.int (zI ir)), some (.int (zI 3)), none], [.int (zI 3)], es)) i_54_180 rfl ?_
          refine x0 (r := (183, [some (.ref 132), some (.int (zI bk)), some (.int (zI n)), some (.int (zI kd)), some (.int (zI mo)), some (.int (zI sd)), some (.int (zI (mo % 36))), some (.int (zI fi)), some (.int (zI fr)), some (.int (zI ra)), some (.int (zI du)), some (.int (zI ik)), some (.int (zI ir)), some (.int (zI 3)), none], [.int (zI 1), .int (zI 3)], es)) i_54_182 (by rfl) ?_
          refine x_cmpF i_54_183 (by unfold i32 iLO iHI; omega) (by unfold i32 iLO iHI; omega) rfl (by simp only [zC, cR]; omega) ?_
          refine x0 (r := (188, [some (.ref 132), some (.int (zI bk)), some (.int (zI n)), some (.int (zI kd)), some (.int (zI mo)), some (.int (zI sd)), some (.int (zI (mo % 36))), some (.int (zI fi)), some (.int (zI fr)), some (.int (zI ra)), some (.int (zI du)), some (.int (zI ik)), some (.int (zI ir)), some (.int (zI 3)), none], [.int (zI 3)], es)) i_54_186 rfl ?_
          refine x_ifT i_54_188 (by unfold i32 iLO iHI; omega) rfl (by simp only [zC, cR]; omega) ?_
          refine x0 (r := (196, [some (.ref 132), some (.int (zI bk)), some (.int (zI n)), some (.int (zI kd)), some (.int (zI mo)), some (.int (zI sd)), some (.int (zI (mo % 36))), some (.int (zI fi)), some (.int (zI fr)), some (.int (zI ra)), some (.int (zI du)), some (.int (zI ik)), some (.int (zI ir)), some (.int (zI 3)), none], [.int (zI (-1))], es)) i_54_195 (by rfl) ?_
          refine x_ret (v := some (.int (zI (-1)))) i_54_196 rfl (fun _ => rfl) rfl rfl rfl ?_
          exact K5 c1 c2 c6 c7
        · refine x_cmpF i_54_169 (by unfold i32 iLO iHI; omega) (by unfold i32 iLO iHI; omega) rfl (by simp only [zC, cR]; omega) ?_
          refine x0 (r := (173, [some (.ref 132), some (.int (zI bk)), some (.int (zI n)), some (.int (zI kd)), some (.int (zI mo)), some (.int (zI sd)), some (.int (zI (mo % 36))), some (.int (zI fi)), some (.int (zI fr)), some (.int (zI ra)), some (.int (zI du)), some (.int (zI ik)), some (.int (zI ir)), none, none], [.int (zI 0), .int (zI 2)], es)) i_54_172 (by rfl) ?_
          refine x0 (r := (177, [some (.ref 132), some (.int (zI bk)), some (.int (zI n)), some (.int (zI kd)), some (.int (zI mo)), some (.int (zI sd)), some (.int (zI (mo % 36))), some (.int (zI fi)), some (.int (zI fr)), some (.int (zI ra)), some (.int (zI du)), some (.int (zI ik)), some (.int (zI ir)), none, none], [.int (zI 0), .int (zI 2)], es)) i_54_173 rfl ?_
          refine x_iadd i_54_177 ?_
          show aW _ _ _ _ _ _ (178, [some (.ref 132), some (.int (zI bk)), some (.int (zI n)), some (.int (zI kd)), some (.int (zI mo)), some (.int (zI sd)), some (.int (zI (mo % 36))), some (.int (zI fi)), some (.int (zI fr)), some (.int (zI ra)), some (.int (zI du)), some (.int (zI ik)), some (.int (zI ir)), none, none], [.int (zI 2)], es)
          refine x0 (r := (180, [some (.ref 132), some (.int (zI bk)), some (.int (zI n)), some (.int (zI kd)), some (.int (zI mo)), some (.int (zI sd)), some (.int (zI (mo % 36))), some (.int (zI fi)), some (.int (zI fr)), some (.int (zI ra)), some (.int (zI du)), some (.int (zI ik)), some (.int (zI ir)), some (.int (zI 2)), none], [], es)) i_54_178 rfl ?_
          refine x0 (r := (182, [some (.ref 132), some (.int (zI bk)), some (.int (zI n)), some (.int (zI kd)), some (.int (zI mo)), some (.int (zI sd)), some (.int (zI (mo % 36))), some (.int (zI fi)), some (.int (zI fr)), some (.int (zI ra)), some (.int (zI du)), some (.int (zI ik)), some (.int (zI ir)), some (.int (zI 2)), none], [.int (zI 2)], es)) i_54_180 rfl ?_
          refine x0 (r := (183, [some (.ref 132), some (.int (zI bk)), some (.int (zI n)), some (.int (zI kd)), some (.int (zI mo)), some (.int (zI sd)), some (.int (zI (mo % 36))), some (.int (zI fi)), some (.int (zI fr)), some (.int (zI ra)), some (.int (zI du)), some (.int (zI ik)), some (.int (zI ir)), some (.int (zI 2)), none], [.int (zI 1), .int (zI 2)], es)) i_54_182 (by rfl) ?_
          refine x_cmpF i_54_183 (by unfold i32 iLO iHI; omega) (by unfold i32 iLO iHI; omega) rfl (by simp only [zC, cR]; omega) ?_
          refine x0 (r := (188, [some (.ref 132), some (.int (zI bk)), some (.int (zI n)), some (.int (zI kd)), some (.int (zI mo)), some (.int (zI sd)), some (.int (zI (mo % 36))), some (.int (zI fi)), some (.int (zI fr)), some (.int (zI ra)), some (.int (zI du)), some (.int (zI ik)), some (.int (zI ir)), some (.int (zI 2)), none], [.int (zI 2)], es)) i_54_186 rfl ?_
          refine x_ifT i_54_188 (by unfold i32 iLO iHI; omega) rfl (by simp only [zC, cR]; omega) ?_
          refine x0 (r := (196, [some (.ref 132), some (.int (zI bk)), some (.int (zI n)), some (.int (zI kd)), some (.int (zI mo)), some (.int (zI sd)), some (.int (zI (mo % 36))), some (.int (zI fi)), some (.int (zI fr)), some (.int (zI ra)), some (.int (zI du)), some (.int (zI ik)), some (.int (zI ir)), some (.int (zI 2)), none], [.int (zI (-1))], es)) i_54_195 (by rfl) ?_
          refine x_ret (v := some (.int (zI (-1)))) i_54_196 rfl (fun _ => rfl) rfl rfl rfl ?_
          exact K6 c1 c2 c6 c7
      · refine x_ifF i_54_156 (by unfold i32 iLO iHI; omega) rfl (by simp only [zC, cR]; omega) ?_
        refine x0 (r := (160, [some (.ref 132), some (.int (zI bk)), some (.int (zI n)), some (.int (zI kd)), some (.int (zI mo)), some (.int (zI sd)), some (.int (zI (mo % 36))), some (.int (zI fi)), some (.int (zI fr)), some (.int (zI ra)), some (.int (zI du)), some (.int (zI ik)), some (.int (zI ir)), none, none], [.int (zI 0), .int (zI 1)], es)) i_54_159 (by rfl) ?_
        refine x0 (r := (164, [some (.ref 132), some (.int (zI bk)), some (.int (zI n)), some (.int (zI kd)), some (.int (zI mo)), some (.int (zI sd)), some (.int (zI (mo % 36))), some (.int (zI fi)), some (.int (zI fr)), some (.int (zI ra)), some (.int (zI du)), some (.int (zI ik)), some (.int (zI ir)), none, none], [.int (zI 0), .int (zI 1)], es)) i_54_160 rfl ?_
        refine x_iadd i_54_164 ?_
        show aW _ _ _ _ _ _ (165, [some (.ref 132), some (.int (zI bk)), some (.int (zI n)), some (.int (zI kd)), some (.int (zI mo)), some (.int (zI sd)), some (.int (zI (mo % 36))), some (.int (zI fi)), some (.int (zI fr)), some (.int (zI ra)), some (.int (zI du)), some (.int (zI ik)), some (.int (zI ir)), none, none], [.int (zI 1)], es)
        refine x0 (r := (167, [some (.ref 132), some (.int (zI bk)), some (.int (zI n)), some (.int (zI kd)), some (.int (zI mo)), some (.int (zI sd)), some (.int (zI (mo % 36))), some (.int (zI fi)), some (.int (zI fr)), some (.int (zI ra)), some (.int (zI du)), some (.int (zI ik)), some (.int (zI ir)), none, none], [.int (zI ra), .int (zI 1)], es)) i_54_165 rfl ?_
        refine x0 (r := (169, [some (.ref 132), some (.int (zI bk)), some (.int (zI n)), some (.int (zI kd)), some (.int (zI mo)), some (.int (zI sd)), some (.int (zI (mo % 36))), some (.int (zI fi)), some (.int (zI fr)), some (.int (zI ra)), some (.int (zI du)), some (.int (zI ik)), some (.int (zI ir)), none, none], [.int (zI du), .int (zI ra), .int (zI 1)], es)) i_54_167 rfl ?_
        by_cases c8 : ra ≠ du
        · refine x_cmpT i_54_169 (by unfold i32 iLO iHI; omega) (by unfold i32 iLO iHI; omega) rfl (by simp only [zC, cR]; omega) ?_
          refine x0 (r := (177, [some (.ref 132), some (.int (zI bk)), some (.int (zI n)), some (.int (zI kd)), some (.int (zI mo)), some (.int (zI sd)), some (.int (zI (mo % 36))), some (.int (zI fi)), some (.int (zI fr)), some (.int (zI ra)), some (.int (zI du)), some (.int (zI ik)), some (.int (zI ir)), none, none], [.int (zI 1), .int (zI 1)], es)) i_54_176 (by rfl) ?_
          refine x_iadd i_54_177 ?_
          show aW _ _ _ _ _ _ (178, [some (.ref 132), some (.int (zI bk)), some (.int (zI n)), some (.int (zI kd)), some (.int (zI mo)), some (.int (zI sd)), some (.int (zI (mo % 36))), some (.int (zI fi)), some (.int (zI fr)), some (.int (zI ra)), some (.int (zI du)), some (.int (zI ik)), some (.int (zI ir)), none, none], [.int (zI 2)], es)
          refine x0 (r := (180, [some (.ref 132), some (.int (zI bk)), some (.int (zI n)), some (.int (zI kd)), some (.int (zI mo)), some (.int (zI sd)), some (.int (zI (mo % 36))), some (.int (zI fi)), some (.int (zI fr)), some (.int (zI ra)), some (.int (zI du)), some (.int (zI ik)), some (.int (zI ir)), some (.int (zI 2)), none], [], es)) i_54_178 rfl ?_
          refine x0 (r := (182, [some (.ref 132), some (.int (zI bk)), some (.int (zI n)), some (.int (zI kd)), some (.int (zI mo)), some (.int (zI sd)), some (.int (zI (mo % 36))), some (.int (zI fi)), some (.int (zI fr)), some (.int (zI ra)), some (.int (zI du)), some (.int (zI ik)), some (.int (zI ir)), some (.int (zI 2)), none], [.int (zI 2)], es)) i_54_180 rfl ?_
          refine x0 (r := (183, [some (.ref 132), some (.int (zI bk)), some (.int (zI n)), some (.int (zI kd)), some (.int (zI mo)), some (.int (zI sd)), some (.int (zI (mo % 36))), some (.int (zI fi)), some (.int (zI fr)), some (.int (zI ra)), some (.int (zI du)), some (.int (zI ik)), some (.int (zI ir)), some (.int (zI 2)), none], [.int (zI 1), .int (zI 2)], es)) i_54_182 (by rfl) ?_
          refine x_cmpF i_54_183 (by unfold i32 iLO iHI; omega) (by unfold i32 iLO iHI; omega) rfl (by simp only [zC, cR]; omega) ?_
          refine x0 (r := (188, [some (.ref 132), some (.int (zI bk)), some (.int (zI n)), some (.int (zI kd)), some (.int (zI mo)), some (.int (zI sd)), some (.int (zI (mo % 36))), some (.int (zI fi)), some (.int (zI fr)), some (.int (zI ra)), some (.int (zI du)), some (.int (zI ik)), some (.int (zI ir)), some (.int (zI 2)), none], [.int (zI 2)], es)) i_54_186 rfl ?_
          refine x_ifT i_54_188 (by unfold i32 iLO iHI; omega) rfl (by simp only [zC, cR]; omega) ?_
          refine x0 (r := (196, [some (.ref 132), some (.int (zI bk)), some (.int (zI n)), some (.int (zI kd)), some (.int (zI mo)), some (.int (zI sd)), some (.int (zI (mo % 36))), some (.int (zI fi)), some (.int (zI fr)), some (.int (zI ra)), some (.int (zI du)), some (.int (zI ik)), some (.int (zI ir)), some (.int (zI 2)), none], [.int (zI (-1))], es)) i_54_195 (by rfl) ?_
          refine x_ret (v := some (.int (zI (-1)))) i_54_196 rfl (fun _ => rfl) rfl rfl rfl ?_
          exact K7 c1 c2 c6 c8
        · refine x_cmpF i_54_169 (by unfold i32 iLO iHI; omega) (by unfold i32 iLO iHI; omega) rfl (by simp only [zC, cR]; omega) ?_
          refine x0 (r := (173, [some (.ref 132), some (.int (zI bk)), some (.int (zI n)), some (.int (zI kd)), some (.int (zI mo)), some (.int (zI sd)), some (.int (zI (mo % 36))), some (.int (zI fi)), some (.int (zI fr)), some (.int (zI ra)), some (.int (zI du)), some (.int (zI ik)), some (.int (zI ir)), none, none], [.int (zI 0), .int (zI 1)], es)) i_54_172 (by rfl) ?_
          refine x0 (r := (177, [some (.ref 132), some (.int (zI bk)), some (.int (zI n)), some (.int (zI kd)), some (.int (zI mo)), some (.int (zI sd)), some (.int (zI (mo % 36))), some (.int (zI fi)), some (.int (zI fr)), some (.int (zI ra)), some (.int (zI du)), some (.int (zI ik)), some (.int (zI ir)), none, none], [.int (zI 0), .int (zI 1)], es)) i_54_173 rfl ?_
          refine x_iadd i_54_177 ?_
          show aW _ _ _ _ _ _ (178, [some (.ref 132), some (.int (zI bk)), some (.int (zI n)), some (.int (zI kd)), some (.int (zI mo)), some (.int (zI sd)), some (.int (zI (mo % 36))), some (.int (zI fi)), some (.int (zI fr)), some (.int (zI ra)), some (.int (zI du)), some (.int (zI ik)), some (.int (zI ir)), none, none], [.int (zI 1)], es)
          refine x0 (r := (180, [some (.ref 132), some (.int (zI bk)), some (.int (zI n)), some (.int (zI kd)), some (.int (zI mo)), some (.int (zI sd)), some (.int (zI (mo % 36))), some (.int (zI fi)), some (.int (zI fr)), some (.int (zI ra)), some (.int (zI du)), some (.int (zI ik)), some (.int (zI ir)), some (.int (zI 1)), none], [], es)) i_54_178 rfl ?_
          refine x0 (r := (182, [some (.ref 132), some (.int (zI bk)), some (.int (zI n)), some (.int (zI kd)), some (.int (zI mo)), some (.int (zI sd)), some (.int (zI (mo % 36))), some (.int (zI fi)), some (.int (zI fr)), some (.int (zI ra)), some (.int (zI du)), some (.int (zI ik)), some (.int (zI ir)), some (.int (zI 1)), none], [.int (zI 1)], es)) i_54_180 rfl ?_
          refine x0 (r := (183, [some (.ref 132), some (.int (zI bk)), some (.int (zI n)), some (.int (zI kd)), some (.int (zI mo)), some (.int (zI sd)), some (.int (zI (mo % 36))), some (.int (zI fi)), some (.int (zI fr)), some (.int (zI ra)), some (.int (zI du)), some (.int (zI ik)), some (.int (zI ir)), some (.int (zI 1)), none], [.int (zI 1), .int (zI 1)], es)) i_54_182 (by rfl) ?_
          refine x_cmpT i_54_183 (by unfold i32 iLO iHI; omega) (by unfold i32 iLO iHI; omega) rfl (by simp only [zC, cR]; omega) ?_
          refine x0 (r := (199, [some (.ref 132), some (.int (zI bk)), some (.int (zI n)), some (.int (zI kd)), some (.int (zI mo)), some (.int (zI sd)), some (.int (zI (mo % 36))), some (.int (zI fi)), some (.int (zI fr)), some (.int (zI ra)), some (.int (zI du)), some (.int (zI ik)), some (.int (zI ir)), some (.int (zI 1)), none], [.int (zI ra)], es)) i_54_197 rfl ?_
          refine x0 (r := (201, [some (.ref 132), some (.int (zI bk)), some (.int (zI n)), some (.int (zI kd)), some (.int (zI mo)), some (.int (zI sd)), some (.int (zI (mo % 36))), some (.int (zI fi)), some (.int (zI fr)), some (.int (zI ra)), some (.int (zI du)), some (.int (zI ik)), some (.int (zI ir)), some (.int (zI 1)), none], [.int (zI du), .int (zI ra)], es)) i_54_199 rfl ?_
          refine x_cmpT i_54_201 (by unfold i32 iLO iHI; omega) (by unfold i32 iLO iHI; omega) rfl (by simp only [zC, cR]; omega) ?_
          refine x0 (r := (215, [some (.ref 132), some (.int (zI bk)), some (.int (zI n)), some (.int (zI kd)), some (.int (zI mo)), some (.int (zI sd)), some (.int (zI (mo % 36))), some (.int (zI fi)), some (.int (zI fr)), some (.int (zI ra)), some (.int (zI du)), some (.int (zI ik)), some (.int (zI ir)), some (.int (zI 1)), none], [.int (zI ik)], es)) i_54_213 rfl ?_
          refine x_ifF i_54_215 (by unfold i32 iLO iHI; omega) rfl (by simp only [zC, cR]; omega) ?_
          refine x0 (r := (219, [some (.ref 132), some (.int (zI bk)), some (.int (zI n)), some (.int (zI kd)), some (.int (zI mo)), some (.int (zI sd)), some (.int (zI (mo % 36))), some (.int (zI fi)), some (.int (zI fr)), some (.int (zI ra)), some (.int (zI du)), some (.int (zI ik)), some (.int (zI ir)), some (.int (zI 1)), none], [.int (zI 1)], es)) i_54_218 (by rfl) ?_
          refine x0 (r := (232, [some (.ref 132), some (.int (zI bk)), some (.int (zI n)), some (.int (zI kd)), some (.int (zI mo)), some (.int (zI sd)), some (.int (zI (mo % 36))), some (.int (zI fi)), some (.int (zI fr)), some (.int (zI ra)), some (.int (zI du)), some (.int (zI ik)), some (.int (zI ir)), some (.int (zI 1)), none], [.int (zI 1)], es)) i_54_219 rfl ?_
          refine x0 (r := (234, [some (.ref 132), some (.int (zI bk)), some (.int (zI n)), some (.int (zI kd)), some (.int (zI mo)), some (.int (zI sd)), some (.int (zI (mo % 36))), some (.int (zI fi)), some (.int (zI fr)), some (.int (zI ra)), some (.int (zI du)), some (.int (zI ik)), some (.int (zI ir)), some (.int (zI 1)), some (.int (zI 1))], [], es)) i_54_232 rfl ?_
          refine x0 (r := (235, [some (.ref 132), some (.int (zI bk)), some (.int (zI n)), some (.int (zI kd)), some (.int (zI mo)), some (.int (zI sd)), some (.int (zI (mo % 36))), some (.int (zI fi)), some (.int (zI fr)), some (.int (zI ra)), some (.int (zI du)), some (.int (zI ik)), some (.int (zI ir)), some (.int (zI 1)), some (.int (zI 1))], [.ref 132], es)) i_54_234 rfl ?_
          refine x_getr (p := 68) (k := 117) i_54_235 hs_es rfl rfl ?_
          show aW _ _ _ _ _ _ (238, [some (.ref 132), some (.int (zI bk)), some (.int (zI n)), some (.int (zI kd)), some (.int (zI mo)), some (.int (zI sd)), some (.int (zI (mo % 36))), some (.int (zI fi)), some (.int (zI fr)), some (.int (zI ra)), some (.int (zI du)), some (.int (zI ik)), some (.int (zI ir)), some (.int (zI 1)), some (.int (zI 1))], [.ref 117], es)
          refine x_getr (p := 53) (k := 119) i_54_238 hs_es rfl rfl ?_
          show aW _ _ _ _ _ _ (241, [some (.ref 132), some (.int (zI bk)), some (.int (zI n)), some (.int (zI kd)), some (.int (zI mo)), some (.int (zI sd)), some (.int (zI (mo % 36))), some (.int (zI fi)), some (.int (zI fr)), some (.int (zI ra)), some (.int (zI du)), some (.int (zI ik)), some (.int (zI ir)), some (.int (zI 1)), some (.int (zI 1))], [.ref 119], es)
          refine x0 (r := (243, [some (.ref 132), some (.int (zI bk)), some (.int (zI n)), some (.int (zI kd)), some (.int (zI mo)), some (.int (zI sd)), some (.int (zI (mo % 36))), some (.int (zI fi)), some (.int (zI fr)), some (.int (zI ra)), some (.int (zI du)), some (.int (zI ik)), some (.int (zI ir)), some (.int (zI 1)), some (.int (zI 1))], [.int (zI 1), .ref 119], es)) i_54_241 rfl ?_
          refine x_call (vs := [.ref 119, .int (zI 1)]) (rs := []) i_54_243 rfl (fun _ => rfl) rfl rfl rfl rfl rfl rfl ?_
          show aW _ _ _ _ _ _ (0, [some (.ref 119), some (.int (zI 1))], [], es)
          refine x0 (r := (1, [some (.ref 119), some (.int (zI 1))], [.int (zI 1)], es)) i_28_0 rfl ?_
          refine x_ifF i_28_1 (by unfold i32 iLO iHI; omega) rfl (by simp only [zC, cR]; omega) ?_
          refine x0 (r := (5, [some (.ref 119), some (.int (zI 1))], [.int (zI 1)], es)) i_28_4 rfl ?_
          refine x0 (r := (6, [some (.ref 119), some (.int (zI 1))], [.ref 119, .int (zI 1)], es)) i_28_5 rfl ?_
          refine x_alen (p := 55) (n := 8) i_28_6 hs_es rfl ?_
          refine x_cmpF i_28_7 (by unfold i32 iLO iHI; omega) (by unfold i32 iLO iHI; omega) rfl (by simp only [zC, cR]; omega) ?_
          refine x0 (r := (11, [some (.ref 119), some (.int (zI 1))], [.ref 119], es)) i_28_10 rfl ?_
          refine x0 (r := (12, [some (.ref 119), some (.int (zI 1))], [.int (zI 1), .ref 119], es)) i_28_11 rfl ?_
          refine x_iald (p := 55) i_28_12 hs_es rfl (by unfold i32 iLO iHI; omega) (by omega) (by omega) ?_
          rw [show (gA es 55 (Int.toNat 1)).toInt = 0 from by exact (hpo _ (by omega))]
          refine x0 (r := (17, [some (.ref 119), some (.int (zI 1))], [.int (zI 0)], es)) i_28_13 rfl ?_
          refine x_ret (v := some (.int (zI 0))) i_28_17 rfl (fun _ => rfl) rfl rfl rfl ?_
          show aW _ _ _ _ _ _ (246, [some (.ref 132), some (.int (zI bk)), some (.int (zI n)), some (.int (zI kd)), some (.int (zI mo)), some (.int (zI sd)), some (.int (zI (mo % 36))), some (.int (zI fi)), some (.int (zI fr)), some (.int (zI ra)), some (.int (zI du)), some (.int (zI ik)), some (.int (zI ir)), some (.int (zI 1)), some (.int (zI 1))], [.int (zI 0)], es)
          refine x_ifT i_54_246 (by unfold i32 iLO iHI; omega) rfl (by simp only [zC, cR]; omega) ?_
          refine x0 (r := (255, [some (.ref 132), some (.int (zI bk)), some (.int (zI n)), some (.int (zI kd)), some (.int (zI mo)), some (.int (zI sd)), some (.int (zI (mo % 36))), some (.int (zI fi)), some (.int (zI fr)), some (.int (zI ra)), some (.int (zI du)), some (.int (zI ik)), some (.int (zI ir)), some (.int (zI 1)), some (.int (zI 1))], [.int (zI (-1))], es)) i_54_254 (by rfl) ?_
          refine x_ret (v := some (.int (zI (-1)))) i_54_255 rfl (fun _ => rfl) rfl rfl rfl ?_
          exact K8 c1 c2 c6 c8
  · refine x_ifF i_54_135 (by unfold i32 iLO iHI; omega) rfl (by simp only [zC, cR]; omega) ?_
    refine x0 (r := (139, [some (.ref 132), some (.int (zI bk)), some (.int (zI n)), some (.int (zI kd)), some (.int (zI mo)), some (.int (zI sd)), some (.int (zI (mo % 36))), some (.int (zI fi)), some (.int (zI fr)), some (.int (zI ra)), some (.int (zI du)), some (.int (zI ik)), some (.int (zI ir)), none, none], [.int (zI 0)], es)) i_54_138 (by rfl) ?_
    refine x0 (r := (143, [some (.ref 132), some (.int (zI bk)), some (.int (zI n)), some (.int (zI kd)), some (.int (zI mo)), some (.int (zI sd)), some (.int (zI (mo % 36))), some (.int (zI fi)), some (.int (zI fr)), some (.int (zI ra)), some (.int (zI du)), some (.int (zI ik)), some (.int (zI ir)), none, none], [.int (zI 0)], es)) i_54_139 rfl ?_
    refine x0 (r := (145, [some (.ref 132), some (.int (zI bk)), some (.int (zI n)), some (.int (zI kd)), some (.int (zI mo)), some (.int (zI sd)), some (.int (zI (mo % 36))), some (.int (zI fi)), some (.int (zI fr)), some (.int (zI ra)), some (.int (zI du)), some (.int (zI ik)), some (.int (zI ir)), none, none], [.int (zI ir), .int (zI 0)], es)) i_54_143 rfl ?_
    by_cases c9 : ir = 0
    · refine x_ifT i_54_145 (by unfold i32 iLO iHI; omega) rfl (by simp only [zC, cR]; omega) ?_
      refine x0 (r := (153, [some (.ref 132), some (.int (zI bk)), some (.int (zI n)), some (.int (zI kd)), some (.int (zI mo)), some (.int (zI sd)), some (.int (zI (mo % 36))), some (.int (zI fi)), some (.int (zI fr)), some (.int (zI ra)), some (.int (zI du)), some (.int (zI ik)), some (.int (zI ir)), none, none], [.int (zI 1), .int (zI 0)], es)) i_54_152 (by rfl) ?_
      refine x_iadd i_54_153 ?_
      show aW _ _ _ _ _ _ (154, [some (.ref 132), some (.int (zI bk)), some (.int (zI n)), some (.int (zI kd)), some (.int (zI mo)), some (.int (zI sd)), some (.int (zI (mo % 36))), some (.int (zI fi)), some (.int (zI fr)), some (.int (zI ra)), some (.int (zI du)), some (.int (zI ik)), some (.int (zI ir)), none, none], [.int (zI 1)], es)
      refine x0 (r := (156, [some (.ref 132), some (.int (zI bk)), some (.int (zI n)), some (.int (zI kd)), some (.int (zI mo)), some (.int (zI sd)), some (.int (zI (mo % 36))), some (.int (zI fi)), some (.int (zI fr)), some (.int (zI ra)), some (.int (zI du)), some (.int (zI ik)), some (.int (zI ir)), none, none], [.int (zI fi), .int (zI 1)], es)) i_54_154 rfl ?_
      by_cases c10 : fi ≠ 0
      · refine x_ifT i_54_156 (by unfold i32 iLO iHI; omega) rfl (by simp only [zC, cR]; omega) ?_
        refine x0 (r := (164, [some (.ref 132), some (.int (zI bk)), some (.int (zI n)), some (.int (zI kd)), some (.int (zI mo)), some (.int (zI sd)), some (.int (zI (mo % 36))), some (.int (zI fi)), some (.int (zI fr)), some (.int (zI ra)), some (.int (zI du)), some (.int (zI ik)), some (.int (zI ir)), none, none], [.int (zI 1), .int (zI 1)], es)) i_54_163 (by rfl) ?_
        refine x_iadd i_54_164 ?_
        show aW _ _ _ _ _ _ (165, [some (.ref 132), some (.int (zI bk)), some (.int (zI n)), some (.int (zI kd)), some (.int (zI mo)), some (.int (zI sd)), some (.int (zI (mo % 36))), some (.int (zI fi)), some (.int (zI fr)), some (.int (zI ra)), some (.int (zI du)), some (.int (zI ik)), some (.int (zI ir)), none, none], [.int (zI 2)], es)
        refine x0 (r := (167, [some (.ref 132), some (.int (zI bk)), some (.int (zI n)), some (.int (zI kd)), some (.int (zI mo)), some (.int (zI sd)), some (.int (zI (mo % 36))), some (.int (zI fi)), some (.int (zI fr)), some (.int (zI ra)), some (.int (zI du)), some (.int (zI ik)), some (.int (zI ir)), none, none], [.int (zI ra), .int (zI 2)], es)) i_54_165 rfl ?_
        refine x0 (r := (169, [some (.ref 132), some (.int (zI bk)), some (.int (zI n)), some (.int (zI kd)), some (.int (zI mo)), some (.int (zI sd)), some (.int (zI (mo % 36))), some (.int (zI fi)), some (.int (zI fr)), some (.int (zI ra)), some (.int (zI du)), some (.int (zI ik)), some (.int (zI ir)), none, none], [.int (zI du), .int (zI ra), .int (zI 2)], es)) i_54_167 rfl ?_
        by_cases c11 : ra ≠ du
        · refine x_cmpT i_54_169 (by unfold i32 iLO iHI; omega) (by unfold i32 iLO iHI; omega) rfl (by simp only [zC, cR]; omega) ?_
          refine x0 (r := (177, [some (.ref 132), some (.int (zI bk)), some (.int (zI n)), some (.int (zI kd)), some (.int (zI mo)), some (.int (zI sd)), some (.int (zI (mo % 36))), some (.int (zI fi)), some (.int (zI fr)), some (.int (zI ra)), some (.int (zI du)), some (.int (zI ik)), some (.int (zI ir)), none, none], [.int (zI 1), .int (zI 2)], es)) i_54_176 (by rfl) ?_
          refine x_iadd i_54_177 ?_
          show aW _ _ _ _ _ _ (178, [some (.ref 132), some (.int (zI bk)), some (.int (zI n)), some (.int (zI kd)), some (.int (zI mo)), some (.int (zI sd)), some (.int (zI (mo % 36))), some (.int (zI fi)), some (.int (zI fr)), some (.int (zI ra)), some (.int (zI du)), some (.int (zI ik)), some (.int (zI ir)), none, none], [.int (zI 3)], es)
          refine x0 (r := (180, [some (.ref 132), some (.int (zI bk)), some (.int (zI n)), some (.int (zI kd)), some (.int (zI mo)), some (.int (zI sd)), some (.int (zI (mo % 36))), some (.int (zI fi)), some (.int (zI fr)), some (.int (zI ra)), some (.int (zI du)), some (.int (zI ik)), some (.int (zI ir)), some (.int (zI 3)), none], [], es)) i_54_178 rfl ?_
          refine x0 (r := (182, [some (.ref 132), some (.int (zI bk)), some (.int (zI n)), some (.int (zI kd)), some (.int (zI mo)), some (.int (zI sd)), some (.int (zI (mo % 36))), some (.int (zI fi)), some (.int (zI fr)), some (.int (zI ra)), some (.int (zI du)), some (.int (zI ik)), some (.int (zI ir)), some (.int (zI 3)), none], [.int (zI 3)], es)) i_54_180 rfl ?_
          refine x0 (r := (183, [some (.ref 132), some (.int (zI bk)), some (.int (zI n)), some (.int (zI kd)), some (.int (zI mo)), some (.int (zI sd)), some (.int (zI (mo % 36))), some (.int (zI fi)), some (.int (zI fr)), some (.int (zI ra)), some (.int (zI du)), some (.int (zI ik)), some (.int (zI ir)), some (.int (zI 3)), none], [.int (zI 1), .int (zI 3)], es)) i_54_182 (by rfl) ?_
          refine x_cmpF i_54_183 (by unfold i32 iLO iHI; omega) (by unfold i32 iLO iHI; omega) rfl (by simp only [zC, cR]; omega) ?_
          refine x0 (r := (188, [some (.ref 132), some (.int (zI bk)), some (.int (zI n)), some (.int (zI kd)), some (.int (zI mo)), some (.int (zI sd)), some (.int (zI (mo % 36))), some (.int (zI fi)), some (.int (zI fr)), some (.int (zI ra)), some (.int (zI du)), some (.int (zI ik)), some (.int (zI ir)), some (.int (zI 3)), none], [.int (zI 3)], es)) i_54_186 rfl ?_
          refine x_ifT i_54_188 (by unfold i32 iLO iHI; omega) rfl (by simp only [zC, cR]; omega) ?_
          refine x0 (r := (196, [some (.ref 132), some (.int (zI bk)), some (.int (zI n)), some (.int (zI kd)), some (.int (zI mo)), some (.int (zI sd)), some (.int (zI (mo % 36))), some (.int (zI fi)), some (.int (zI fr)), some (.int (zI ra)), some (.int (zI du)), some (.int (zI ik)), some (.int (zI ir)), some (.int (zI 3)), none], [.int (zI (-1))], es)) i_54_195 (by rfl) ?_
          refine x_ret (v := some (.int (zI (-1)))) i_54_196 rfl (fun _ => rfl) rfl rfl rfl ?_
          exact K9 c1 c9 c10 c11
        · refine x_cmpF i_54_169 (by unfold i32 iLO iHI; omega) (by unfold i32 iLO iHI; omega) rfl (by simp only [zC, cR]; omega) ?_
          refine x0 (r := (173, [some (.ref 132), some (.int (zI bk)), some (.int (zI n)), some (.int (zI kd)), some (.int (zI mo)), some (.int (zI sd)), some (.int (zI (mo % 36))), some (.int (zI fi)), some (.int (zI fr)), some (.int (zI ra)), some (.int (zI du)), some (.int (zI ik)), some (.int (zI ir)), none, none], [.int (zI 0), .int (zI 2)], es)) i_54_172 (by rfl) ?_
          refine x0 (r := (177, [some (.ref 132), some (.int (zI bk)), some (.int (zI n)), some (.int (zI kd)), some (.int (zI mo)), some (.int (zI sd)), some (.int (zI (mo % 36))), some (.int (zI fi)), some (.int (zI fr)), some (.int (zI ra)), some (.int (zI du)), some (.int (zI ik)), some (.int (zI ir)), none, none], [.int (zI 0), .int (zI 2)], es)) i_54_173 rfl ?_
          refine x_iadd i_54_177 ?_
          show aW _ _ _ _ _ _ (178, [some (.ref 132), some (.int (zI bk)), some (.int (zI n)), some (.int (zI kd)), some (.int (zI mo)), some (.int (zI sd)), some (.int (zI (mo % 36))), some (.int (zI fi)), some (.int (zI fr)), some (.int (zI ra)), some (.int (zI du)), some (.int (zI ik)), some (.int (zI ir)), none, none], [.int (zI 2)], es)
          refine x0 (r := (180, [some (.ref 132), some (.int (zI bk)), some (.int (zI n)), some (.int (zI kd)), some (.int (zI mo)), some (.int (zI sd)), some (.int (zI (mo % 36))), some (.int (zI fi)), some (.int (zI fr)), some (.int (zI ra)), some (.int (zI du)), some (.int (zI ik)), some (.int (zI ir)), some (.int (zI 2)), none], [], es)) i_54_178 rfl ?_
          refine x0 (r := (182, [some (.ref 132), some (.int (zI bk)), some (.int (zI n)), some (.int (zI kd)), some (.int (zI mo)), some (.int (zI sd)), some (.int (zI (mo % 36))), some (.int (zI fi)), some (.int (zI fr)), some (.int (zI ra)), some (.int (zI du)), some (.int (zI ik)), some (.int (zI ir)), some (.int (zI 2)), none], [.int (zI 2)], es)) i_54_180 rfl ?_
          refine x0 (r := (183, [some (.ref 132), some (.int (zI bk)), some (.int (zI n)), some (.int (zI kd)), some (.int (zI mo)), some (.int (zI sd)), some (.int (zI (mo % 36))), some (.int (zI fi)), some (.int (zI fr)), some (.int (zI ra)), some (.int (zI du)), some (.int (zI ik)), some (.int (zI ir)), some (.int (zI 2)), none], [.int (zI 1), .int (zI 2)], es)) i_54_182 (by rfl) ?_
          refine x_cmpF i_54_183 (by unfold i32 iLO iHI; omega) (by unfold i32 iLO iHI; omega) rfl (by simp only [zC, cR]; omega) ?_
          refine x0 (r := (188, [some (.ref 132), some (.int (zI bk)), some (.int (zI n)), some (.int (zI kd)), some (.int (zI mo)), some (.int (zI sd)), some (.int (zI (mo % 36))), some (.int (zI fi)), some (.int (zI fr)), some (.int (zI ra)), some (.int (zI du)), some (.int (zI ik)), some (.int (zI ir)), some (.int (zI 2)), none], [.int (zI 2)], es)) i_54_186 rfl ?_
          refine x_ifT i_54_188 (by unfold i32 iLO iHI; omega) rfl (by simp only [zC, cR]; omega) ?_
          refine x0 (r := (196, [some (.ref 132), some (.int (zI bk)), some (.int (zI n)), some (.int (zI kd)), some (.int (zI mo)), some (.int (zI sd)), some (.int (zI (mo % 36))), some (.int (zI fi)), some (.int (zI fr)), some (.int (zI ra)), some (.int (zI du)), some (.int (zI ik)), some (.int (zI ir)), some (.int (zI 2)), none], [.int (zI (-1))], es)) i_54_195 (by rfl) ?_
          refine x_ret (v := some (.int (zI (-1)))) i_54_196 rfl (fun _ => rfl) rfl rfl rfl ?_
          exact K10 c1 c9 c10 c11
      · refine x_ifF i_54_156 (by unfold i32 iLO iHI; omega) rfl (by simp only [zC, cR]; omega) ?_
        refine x0 (r := (160, [some (.ref 132), some (.int (zI bk)), some (.int (zI n)), some (.int (zI kd)), some (.int (zI mo)), some (.int (zI sd)), some (.int (zI (mo % 36))), some (.int (zI fi)), some (.int (zI fr)), some (.int (zI ra)), some (.int (zI du)), some (.int (zI ik)), some (.int (zI ir)), none, none], [.int (zI 0), .int (zI 1)], es)) i_54_159 (by rfl) ?_
        refine x0 (r := (164, [some (.ref 132), some (.int (zI bk)), some (.int (zI n)), some (.int (zI kd)), some (.int (zI mo)), some (.int (zI sd)), some (.int (zI (mo % 36))), some (.int (zI fi)), some (.int (zI fr)), some (.int (zI ra)), some (.int (zI du)), some (.int (zI ik)), some (.int (zI ir)), none, none], [.int (zI 0), .int (zI 1)], es)) i_54_160 rfl ?_
        refine x_iadd i_54_164 ?_
        show aW _ _ _ _ _ _ (165, [some (.ref 132), some (.int (zI bk)), some (.int (zI n)), some (.int (zI kd)), some (.int (zI mo)), some (.int (zI sd)), some (.int (zI (mo % 36))), some (.int (zI fi)), some (.int (zI fr)), some (.int (zI ra)), some (.int (zI du)), some (.int (zI ik)), some (.int (zI ir)), none, none], [.int (zI 1)], es)
        refine x0 (r := (167, [some (.ref 132), some (.int (zI bk)), some (.int (zI n)), some (.int (zI kd)), some (.int (zI mo)), some (.int (zI sd)), some (.int (zI (mo % 36))), some (.int (zI fi)), some (.int (zI fr)), some (.int (zI ra)), some (.int (zI du)), some (.int (zI ik)), some (.int (zI ir)), none, none], [.int (zI ra), .int (zI 1)], es)) i_54_165 rfl ?_
        refine x0 (r := (169, [some (.ref 132), some (.int (zI bk)), some (.int (zI n)), some (.int (zI kd)), some (.int (zI mo)), some (.int (zI sd)), some (.int (zI (mo % 36))), some (.int (zI fi)), some (.int (zI fr)), some (.int (zI ra)), some (.int (zI du)), some (.int (zI ik)), some (.int (zI ir)), none, none], [.int (zI du), .int (zI ra), .int (zI 1)], es)) i_54_167 rfl ?_
        by_cases c12 : ra ≠ du
        · refine x_cmpT i_54_169 (by unfold i32 iLO iHI; omega) (by unfold i32 iLO iHI; omega) rfl (by simp only [zC, cR]; omega) ?_
          refine x0 (r := (177, [some (.ref 132), some (.int (zI bk)), some (.int (zI n)), some (.int (zI kd)), some (.int (zI mo)), some (.int (zI sd)), some (.int (zI (mo % 36))), some (.int (zI fi)), some (.int (zI fr)), some (.int (zI ra)), some (.int (zI du)), some (.int (zI ik)), some (.int (zI ir)), none, none], [.int (zI 1), .int (zI 1)], es)) i_54_176 (by rfl) ?_
          refine x_iadd i_54_177 ?_
          show aW _ _ _ _ _ _ (178, [some (.ref 132), some (.int (zI bk)), some (.int (zI n)), some (.int (zI kd)), some (.int (zI mo)), some (.int (zI sd)), some (.int (zI (mo % 36))), some (.int (zI fi)), some (.int (zI fr)), some (.int (zI ra)), some (.int (zI du)), some (.int (zI ik)), some (.int (zI ir)), none, none], [.int (zI 2)], es)
          refine x0 (r := (180, [some (.ref 132), some (.int (zI bk)), some (.int (zI n)), some (.int (zI kd)), some (.int (zI mo)), some (.int (zI sd)), some (.int (zI (mo % 36))), some (.int (zI fi)), some (.int (zI fr)), some (.int (zI ra)), some (.int (zI du)), some (.int (zI ik)), some (.int (zI ir)), some (.int (zI 2)), none], [], es)) i_54_178 rfl ?_
          refine x0 (r := (182, [some (.ref 132), some (.int (zI bk)), some (.int (zI n)), some (.int (zI kd)), some (.int (zI mo)), some (.int (zI sd)), some (.int (zI (mo % 36))), some (.int (zI fi)), some (.int (zI fr)), some (.int (zI ra)), some (.int (zI du)), some (.int (zI ik)), some (.int (zI ir)), some (.int (zI 2)), none], [.int (zI 2)], es)) i_54_180 rfl ?_
          refine x0 (r := (183, [some (.ref 132), some (.int (zI bk)), some (.int (zI n)), some (.int (zI kd)), some (.int (zI mo)), some (.int (zI sd)), some (.int (zI (mo % 36))), some (.int (zI fi)), some (.int (zI fr)), some (.int (zI ra)), some (.int (zI du)), some (.int (zI ik)), some (.int (zI ir)), some (.int (zI 2)), none], [.int (zI 1), .int (zI 2)], es)) i_54_182 (by rfl) ?_
          refine x_cmpF i_54_183 (by unfold i32 iLO iHI; omega) (by unfold i32 iLO iHI; omega) rfl (by simp only [zC, cR]; omega) ?_
          refine x0 (r := (188, [some (.ref 132), some (.int (zI bk)), some (.int (zI n)), some (.int (zI kd)), some (.int (zI mo)), some (.int (zI sd)), some (.int (zI (mo % 36))), some (.int (zI fi)), some (.int (zI fr)), some (.int (zI ra)), some (.int (zI du)), some (.int (zI ik)), some (.int (zI ir)), some (.int (zI 2)), none], [.int (zI 2)], es)) i_54_186 rfl ?_
          refine x_ifT i_54_188 (by unfold i32 iLO iHI; omega) rfl (by simp only [zC, cR]; omega) ?_
          refine x0 (r := (196, [some (.ref 132), some (.int (zI bk)), some (.int (zI n)), some (.int (zI kd)), some (.int (zI mo)), some (.int (zI sd)), some (.int (zI (mo % 36))), some (.int (zI fi)), some (.int (zI fr)), some (.int (zI ra)), some (.int (zI du)), some (.int (zI ik)), some (.int (zI ir)), some (.int (zI 2)), none], [.int (zI (-1))], es)) i_54_195 (by rfl) ?_
          refine x_ret (v := some (.int (zI (-1)))) i_54_196 rfl (fun _ => rfl) rfl rfl rfl ?_
          exact K11 c1 c9 c10 c12
        · refine x_cmpF i_54_169 (by unfold i32 iLO iHI; omega) (by unfold i32 iLO iHI; omega) rfl (by simp only [zC, cR]; omega) ?_
          refine x0 (r := (173, [some (.ref 132), some (.int (zI bk)), some (.int (zI n)), some (.int (zI kd)), some (.int (zI mo)), some (.int (zI sd)), some (.int (zI (mo % 36))), some (.int (zI fi)), some (.int (zI fr)), some (.int (zI ra)), some (.int (zI du)), some (.int (zI ik)), some (.int (zI ir)), none, none], [.int (zI 0), .int (zI 1)], es)) i_54_172 (by rfl) ?_
          refine x0 (r := (177, [some (.ref 132), some (.int (zI bk)), some (.int (zI n)), some (.int (zI kd)), some (.int (zI mo)), some (.int (zI sd)), some (.int (zI (mo % 36))), some (.int (zI fi)), some (.int (zI fr)), some (.int (zI ra)), some (.int (zI du)), some (.int (zI ik)), some (.int (zI ir)), none, none], [.int (zI 0), .int (zI 1)], es)) i_54_173 rfl ?_
          refine x_iadd i_54_177 ?_
          show aW _ _ _ _ _ _ (178, [some (.ref 132), some (.int (zI bk)), some (.int (zI n)), some (.int (zI kd)), some (.int (zI mo)), some (.int (zI sd)), some (.int (zI (mo % 36))), some (.int (zI fi)), some (.int (zI fr)), some (.int (zI ra)), some (.int (zI du)), some (.int (zI ik)), some (.int (zI ir)), none, none], [.int (zI 1)], es)
          refine x0 (r := (180, [some (.ref 132), some (.int (zI bk)), some (.int (zI n)), some (.int (zI kd)), some (.int (zI mo)), some (.int (zI sd)), some (.int (zI (mo % 36))), some (.int (zI fi)), some (.int (zI fr)), some (.int (zI ra)), some (.int (zI du)), some (.int (zI ik)), some (.int (zI ir)), some (.int (zI 1)), none], [], es)) i_54_178 rfl ?_
          refine x0 (r := (182, [some (.ref 132), some (.int (zI bk)), some (.int (zI n)), some (.int (zI kd)), some (.int (zI mo)), some (.int (zI sd)), some (.int (zI (mo % 36))), some (.int (zI fi)), some (.int (zI fr)), some (.int (zI ra)), some (.int (zI du)), some (.int (zI ik)), some (.int (zI ir)), some (.int (zI 1)), none], [.int (zI 1)], es)) i_54_180 rfl ?_
          refine x0 (r := (183, [some (.ref 132), some (.int (zI bk)), some (.int (zI n)), some (.int (zI kd)), some (.int (zI mo)), some (.int (zI sd)), some (.int (zI (mo % 36))), some (.int (zI fi)), some (.int (zI fr)), some (.int (zI ra)), some (.int (zI du)), some (.int (zI ik)), some (.int (zI ir)), some (.int (zI 1)), none], [.int (zI 1), .int (zI 1)], es)) i_54_182 (by rfl) ?_
          refine x_cmpT i_54_183 (by unfold i32 iLO iHI; omega) (by unfold i32 iLO iHI; omega) rfl (by simp only [zC, cR]; omega) ?_
          refine x0 (r := (199, [some (.ref 132), some (.int (zI bk)), some (.int (zI n)), some (.int (zI kd)), some (.int (zI mo)), some (.int (zI sd)), some (.int (zI (mo % 36))), some (.int (zI fi)), some (.int (zI fr)), some (.int (zI ra)), some (.int (zI du)), some (.int (zI ik)), some (.int (zI ir)), some (.int (zI 1)), none], [.int (zI ra)], es)) i_54_197 rfl ?_
          refine x0 (r := (201, [some (.ref 132), some (.int (zI bk)), some (.int (zI n)), some (.int (zI kd)), some (.int (zI mo)), some (.int (zI sd)), some (.int (zI (mo % 36))), some (.int (zI fi)), some (.int (zI fr)), some (.int (zI ra)), some (.int (zI du)), some (.int (zI ik)), some (.int (zI ir)), some (.int (zI 1)), none], [.int (zI du), .int (zI ra)], es)) i_54_199 rfl ?_
          refine x_cmpT i_54_201 (by unfold i32 iLO iHI; omega) (by unfold i32 iLO iHI; omega) rfl (by simp only [zC, cR]; omega) ?_
          refine x0 (r := (215, [some (.ref 132), some (.int (zI bk)), some (.int (zI n)), some (.int (zI kd)), some (.int (zI mo)), some (.int (zI sd)), some (.int (zI (mo % 36))), some (.int (zI fi)), some (.int (zI fr)), some (.int (zI ra)), some (.int (zI du)), some (.int (zI ik)), some (.int (zI ir)), some (.int (zI 1)), none], [.int (zI ik)], es)) i_54_213 rfl ?_
          refine x_ifT i_54_215 (by unfold i32 iLO iHI; omega) rfl (by simp only [zC, cR]; omega) ?_
          refine x0 (r := (224, [some (.ref 132), some (.int (zI bk)), some (.int (zI n)), some (.int (zI kd)), some (.int (zI mo)), some (.int (zI sd)), some (.int (zI (mo % 36))), some (.int (zI fi)), some (.int (zI fr)), some (.int (zI ra)), some (.int (zI du)), some (.int (zI ik)), some (.int (zI ir)), some (.int (zI 1)), none], [.int (zI ir)], es)) i_54_222 rfl ?_
          refine x_ifF i_54_224 (by unfold i32 iLO iHI; omega) rfl (by simp only [zC, cR]; omega) ?_
          refine x0 (r := (228, [some (.ref 132), some (.int (zI bk)), some (.int (zI n)), some (.int (zI kd)), some (.int (zI mo)), some (.int (zI sd)), some (.int (zI (mo % 36))), some (.int (zI fi)), some (.int (zI fr)), some (.int (zI ra)), some (.int (zI du)), some (.int (zI ik)), some (.int (zI ir)), some (.int (zI 1)), none], [.int (zI 5)], es)) i_54_227 (by rfl) ?_
          refine x0 (r := (232, [some (.ref 132), some (.int (zI bk)), some (.int (zI n)), some (.int (zI kd)), some (.int (zI mo)), some (.int (zI sd)), some (.int (zI (mo % 36))), some (.int (zI fi)), some (.int (zI fr)), some (.int (zI ra)), some (.int (zI du)), some (.int (zI ik)), some (.int (zI ir)), some (.int (zI 1)), none], [.int (zI 5)], es)) i_54_228 rfl ?_
          refine x0 (r := (234, [some (.ref 132), some (.int (zI bk)), some (.int (zI n)), some (.int (zI kd)), some (.int (zI mo)), some (.int (zI sd)), some (.int (zI (mo % 36))), some (.int (zI fi)), some (.int (zI fr)), some (.int (zI ra)), some (.int (zI du)), some (.int (zI ik)), some (.int (zI ir)), some (.int (zI 1)), some (.int (zI 5))], [], es)) i_54_232 rfl ?_
          refine x0 (r := (235, [some (.ref 132), some (.int (zI bk)), some (.int (zI n)), some (.int (zI kd)), some (.int (zI mo)), some (.int (zI sd)), some (.int (zI (mo % 36))), some (.int (zI fi)), some (.int (zI fr)), some (.int (zI ra)), some (.int (zI du)), some (.int (zI ik)), some (.int (zI ir)), some (.int (zI 1)), some (.int (zI 5))], [.ref 132], es)) i_54_234 rfl ?_
          refine x_getr (p := 68) (k := 117) i_54_235 hs_es rfl rfl ?_
          show aW _ _ _ _ _ _ (238, [some (.ref 132), some (.int (zI bk)), some (.int (zI n)), some (.int (zI kd)), some (.int (zI mo)), some (.int (zI sd)), some (.int (zI (mo % 36))), some (.int (zI fi)), some (.int (zI fr)), some (.int (zI ra)), some (.int (zI du)), some (.int (zI ik)), some (.int (zI ir)), some (.int (zI 1)), some (.int (zI 5))], [.ref 117], es)
          refine x_getr (p := 53) (k := 119) i_54_238 hs_es rfl rfl ?_
          show aW _ _ _ _ _ _ (241, [some (.ref 132), some (.int (zI bk)), some (.int (zI n)), some (.int (zI kd)), some (.int (zI mo)), some (.int (zI sd)), some (.int (zI (mo % 36))), some (.int (zI fi)), some (.int (zI fr)), some (.int (zI ra)), some (.int (zI du)), some (.int (zI ik)), some (.int (zI ir)), some (.int (zI 1)), some (.int (zI 5))], [.ref 119], es)
          refine x0 (r := (243, [some (.ref 132), some (.int (zI bk)), some (.int (zI n)), some (.int (zI kd)), some (.int (zI mo)), some (.int (zI sd)), some (.int (zI (mo % 36))), some (.int (zI fi)), some (.int (zI fr)), some (.int (zI ra)), some (.int (zI du)), some (.int (zI ik)), some (.int (zI ir)), some (.int (zI 1)), some (.int (zI 5))], [.int (zI 5), .ref 119], es)) i_54_241 rfl ?_
          refine x_call (vs := [.ref 119, .int (zI 5)]) (rs := []) i_54_243 rfl (fun _ => rfl) rfl rfl rfl rfl rfl rfl ?_
          show aW _ _ _ _ _ _ (0, [some (.ref 119), some (.int (zI 5))], [], es)
          refine x0 (r := (1, [some (.ref 119), some (.int (zI 5))], [.int (zI 5)], es)) i_28_0 rfl ?_
          refine x_ifF i_28_1 (by unfold i32 iLO iHI; omega) rfl (by simp only [zC, cR]; omega) ?_
          refine x0 (r := (5, [some (.ref 119), some (.int (zI 5))], [.int (zI 5)], es)) i_28_4 rfl ?_
          refine x0 (r := (6, [some (.ref 119), some (.int (zI 5))], [.ref 119, .int (zI 5)], es)) i_28_5 rfl ?_
          refine x_alen (p := 55) (n := 8) i_28_6 hs_es rfl ?_
          refine x_cmpF i_28_7 (by unfold i32 iLO iHI; omega) (by unfold i32 iLO iHI; omega) rfl (by simp only [zC, cR]; omega) ?_
          refine x0 (r := (11, [some (.ref 119), some (.int (zI 5))], [.ref 119], es)) i_28_10 rfl ?_
          refine x0 (r := (12, [some (.ref 119), some (.int (zI 5))], [.int (zI 5), .ref 119], es)) i_28_11 rfl ?_
          refine x_iald (p := 55) i_28_12 hs_es rfl (by unfold i32 iLO iHI; omega) (by omega) (by omega) ?_
          rw [show (gA es 55 (Int.toNat 5)).toInt = 0 from by exact (hpo _ (by omega))]
          refine x0 (r := (17, [some (.ref 119), some (.int (zI 5))], [.int (zI 0)], es)) i_28_13 rfl ?_
          refine x_ret (v := some (.int (zI 0))) i_28_17 rfl (fun _ => rfl) rfl rfl rfl ?_
          show aW _ _ _ _ _ _ (246, [some (.ref 132), some (.int (zI bk)), some (.int (zI n)), some (.int (zI kd)), some (.int (zI mo)), some (.int (zI sd)), some (.int (zI (mo % 36))), some (.int (zI fi)), some (.int (zI fr)), some (.int (zI ra)), some (.int (zI du)), some (.int (zI ik)), some (.int (zI ir)), some (.int (zI 1)), some (.int (zI 5))], [.int (zI 0)], es)
          refine x_ifT i_54_246 (by unfold i32 iLO iHI; omega) rfl (by simp only [zC, cR]; omega) ?_
          refine x0 (r := (255, [some (.ref 132), some (.int (zI bk)), some (.int (zI n)), some (.int (zI kd)), some (.int (zI mo)), some (.int (zI sd)), some (.int (zI (mo % 36))), some (.int (zI fi)), some (.int (zI fr)), some (.int (zI ra)), some (.int (zI du)), some (.int (zI ik)), some (.int (zI ir)), some (.int (zI 1)), some (.int (zI 5))], [.int (zI (-1))], es)) i_54_254 (by rfl) ?_
          refine x_ret (v := some (.int (zI (-1)))) i_54_255 rfl (fun _ => rfl) rfl rfl rfl ?_
          exact K12 c1 c9 c10 c12
    · refine x_ifF i_54_145 (by unfold i32 iLO iHI; omega) rfl (by simp only [zC, cR]; omega) ?_
      refine x0 (r := (149, [some (.ref 132), some (.int (zI bk)), some (.int (zI n)), some (.int (zI kd)), some (.int (zI mo)), some (.int (zI sd)), some (.int (zI (mo % 36))), some (.int (zI fi)), some (.int (zI fr)), some (.int (zI ra)), some (.int (zI du)), some (.int (zI ik)), some (.int (zI ir)), none, none], [.int (zI 0), .int (zI 0)], es)) i_54_148 (by rfl) ?_
      refine x0 (r := (153, [some (.ref 132), some (.int (zI bk)), some (.int (zI n)), some (.int (zI kd)), some (.int (zI mo)), some (.int (zI sd)), some (.int (zI (mo % 36))), some (.int (zI fi)), some (.int (zI fr)), some (.int (zI ra)), some (.int (zI du)), some (.int (zI ik)), some (.int (zI ir)), none, none], [.int (zI 0), .int (zI 0)], es)) i_54_149 rfl ?_
      refine x_iadd i_54_153 ?_
      show aW _ _ _ _ _ _ (154, [some (.ref 132), some (.int (zI bk)), some (.int (zI n)), some (.int (zI kd)), some (.int (zI mo)), some (.int (zI sd)), some (.int (zI (mo % 36))), some (.int (zI fi)), some (.int (zI fr)), some (.int (zI ra)), some (.int (zI du)), some (.int (zI ik)), some (.int (zI ir)), none, none], [.int (zI 0)], es)
      refine x0 (r := (156, [some (.ref 132), some (.int (zI bk)), some (.int (zI n)), some (.int (zI kd)), some (.int (zI mo)), some (.int (zI sd)), some (.int (zI (mo % 36))), some (.int (zI fi)), some (.int (zI fr)), some (.int (zI ra)), some (.int (zI du)), some (.int (zI ik)), some (.int (zI ir)), none, none], [.int (zI fi), .int (zI 0)], es)) i_54_154 rfl ?_
      by_cases c13 : fi ≠ 0
      · refine x_ifT i_54_156 (by unfold i32 iLO iHI; omega) rfl (by simp only [zC, cR]; omega) ?_
        refine x0 (r := (164, [some (.ref 132), some (.int (zI bk)), some (.int (zI n)), some (.int (zI kd)), some (.int (zI mo)), some (.int (zI sd)), some (.int (zI (mo % 36))), some (.int (zI fi)), some (.int (zI fr)), some (.int (zI ra)), some (.int (zI du)), some (.int (zI ik)), some (.int (zI ir)), none, none], [.int (zI 1), .int (zI 0)], es)) i_54_163 (by rfl) ?_
        refine x_iadd i_54_164 ?_
        show aW _ _ _ _ _ _ (165, [some (.ref 132), some (.int (zI bk)), some (.int (zI n)), some (.int (zI kd)), some (.int (zI mo)), some (.int (zI sd)), some (.int (zI (mo % 36))), some (.int (zI fi)), some (.int (zI fr)), some (.int (zI ra)), some (.int (zI du)), some (.int (zI ik)), some (.int (zI ir)), none, none], [.int (zI 1)], es)
        refine x0 (r := (167, [some (.ref 132), some (.int (zI bk)), some (.int (zI n)), some (.int (zI kd)), some (.int (zI mo)), some (.int (zI sd)), some (.int (zI (mo % 36))), some (.int (zI fi)), some (.int (zI fr)), some (.int (zI ra)), some (.int (zI du)), some (.int (zI ik)), some (.int (zI ir)), none, none], [.int (zI ra), .int (zI 1)], es)) i_54_165 rfl ?_
        refine x0 (r := (169, [some (.ref 132), some (.int (zI bk)), some (.int (zI n)), some (.int (zI kd)), some (.int (zI mo)), some (.int (zI sd)), some (.int (zI (mo % 36))), some (.int (zI fi)), some (.int (zI fr)), some (.int (zI ra)), some (.int (zI du)), some (.int (zI ik)), some (.int (zI ir)), none, none], [.int (zI du), .int (zI ra), .int (zI 1)], es)) i_54_167 rfl ?_
        by_cases c14 : ra ≠ du
        · refine x_cmpT i_54_169 (by unfold i32 iLO iHI; omega) (by unfold i32 iLO iHI; omega) rfl (by simp only [zC, cR]; omega) ?_
          refine x0 (r := (177, [some (.ref 132), some (.int (zI bk)), some (.int (zI n)), some (.int (zI kd)), some (.int (zI mo)), some (.int (zI sd)), some (.int (zI (mo % 36))), some (.int (zI fi)), some (.int (zI fr)), some (.int (zI ra)), some (.int (zI du)), some (.int (zI ik)), some (.int (zI ir)), none, none], [.int (zI 1), .int (zI 1)], es)) i_54_176 (by rfl) ?_
          refine x_iadd i_54_177 ?_
          show aW _ _ _ _ _ _ (178, [some (.ref 132), some (.int (zI bk)), some (.int (zI n)), some (.int (zI kd)), some (.int (zI mo)), some (.int (zI sd)), some (.int (zI (mo % 36))), some (.int (zI fi)), some (.int (zI fr)), some (.int (zI ra)), some (.int (zI du)), some (.int (zI ik)), some (.int (zI ir)), none, none], [.int (zI 2)], es)
          refine x0 (r := (180, [some (.ref 132), some (.int (zI bk)), some (.int (zI n)), some (.int (zI kd)), some (.int (zI mo)), some (.int (zI sd)), some (.int (zI (mo % 36))), some (.int (zI fi)), some (.int (zI fr)), some (.int (zI ra)), some (.int (zI du)), some (.int (zI ik)), some (.int (zI ir)), some (.int (zI 2)), none], [], es)) i_54_178 rfl ?_
          refine x0 (r := (182, [some (.ref 132), some (.int (zI bk)), some (.int (zI n)), some (.int (zI kd)), some (.int (zI mo)), some (.int (zI sd)), some (.int (zI (mo % 36))), some (.int (zI fi)), some (.int (zI fr)), some (.int (zI ra)), some (.int (zI du)), some (.int (zI ik)), some (.int (zI ir)), some (.int (zI 2)), none], [.int (zI 2)], es)) i_54_180 rfl ?_
          refine x0 (r := (183, [some (.ref 132), some (.int (zI bk)), some (.int (zI n)), some (.int (zI kd)), some (.int (zI mo)), some (.int (zI sd)), some (.int (zI (mo % 36))), some (.int (zI fi)), some (.int (zI fr)), some (.int (zI ra)), some (.int (zI du)), some (.int (zI ik)), some (.int (zI ir)), some (.int (zI 2)), none], [.int (zI 1), .int (zI 2)], es)) i_54_182 (by rfl) ?_
          refine x_cmpF i_54_183 (by unfold i32 iLO iHI; omega) (by unfold i32 iLO iHI; omega) rfl (by simp only [zC, cR]; omega) ?_
          refine x0 (r := (188, [some (.ref 132), some (.int (zI bk)), some (.int (zI n)), some (.int (zI kd)), some (.int (zI mo)), some (.int (zI sd)), some (.int (zI (mo % 36))), some (.int (zI fi)), some (.int (zI fr)), some (.int (zI ra)), some (.int (zI du)), some (.int (zI ik)), some (.int (zI ir)), some (.int (zI 2)), none], [.int (zI 2)], es)) i_54_186 rfl ?_
          refine x_ifT i_54_188 (by unfold i32 iLO iHI; omega) rfl (by simp only [zC, cR]; omega) ?_
          refine x0 (r := (196, [some (.ref 132), some (.int (zI bk)), some (.int (zI n)), some (.int (zI kd)), some (.int (zI mo)), some (.int (zI sd)), some (.int (zI (mo % 36))), some (.int (zI fi)), some (.int (zI fr)), some (.int (zI ra)), some (.int (zI du)), some (.int (zI ik)), some (.int (zI ir)), some (.int (zI 2)), none], [.int (zI (-1))], es)) i_54_195 (by rfl) ?_
          refine x_ret (v := some (.int (zI (-1)))) i_54_196 rfl (fun _ => rfl) rfl rfl rfl ?_
          exact K13 c1 c9 c13 c14
        · refine x_cmpF i_54_169 (by unfold i32 iLO iHI; omega) (by unfold i32 iLO iHI; omega) rfl (by simp only [zC, cR]; omega) ?_
          refine x0 (r := (173, [some (.ref 132), some (.int (zI bk)), some (.int (zI n)), some (.int (zI kd)), some (.int (zI mo)), some (.int (zI sd)), some (.int (zI (mo % 36))), some (.int (zI fi)), some (.int (zI fr)), some (.int (zI ra)), some (.int (zI du)), some (.int (zI ik)), some (.int (zI ir)), none, none], [.int (zI 0), .int (zI 1)], es)) i_54_172 (by rfl) ?_
          refine x0 (r := (177, [some (.ref 132), some (.int (zI bk)), some (.int (zI n)), some (.int (zI kd)), some (.int (zI mo)), some (.int (zI sd)), some (.int (zI (mo % 36))), some (.int (zI fi)), some (.int (zI fr)), some (.int (zI ra)), some (.int (zI du)), some (.int (zI ik)), some (.int (zI ir)), none, none], [.int (zI 0), .int (zI 1)], es)) i_54_173 rfl ?_
          refine x_iadd i_54_177 ?_
          show aW _ _ _ _ _ _ (178, [some (.ref 132), some (.int (zI bk)), some (.int (zI n)), some (.int (zI kd)), some (.int (zI mo)), some (.int (zI sd)), some (.int (zI (mo % 36))), some (.int (zI fi)), some (.int (zI fr)), some (.int (zI ra)), some (.int (zI du)), some (.int (zI ik)), some (.int (zI ir)), none, none], [.int (zI 1)], es)
          refine x0 (r := (180, [some (.ref 132), some (.int (zI bk)), some (.int (zI n)), some (.int (zI kd)), some (.int (zI mo)), some (.int (zI sd)), some (.int (zI (mo % 36))), some (.int (zI fi)), some (.int (zI fr)), some (.int (zI ra)), some (.int (zI du)), some (.int (zI ik)), some (.int (zI ir)), some (.int (zI 1)), none], [], es)) i_54_178 rfl ?_
          refine x0 (r := (182, [some (.ref 132), some (.int (zI bk)), some (.int (zI n)), some (.int (zI kd)), some (.int (zI mo)), some (.int (zI sd)), some (.int (zI (mo % 36))), some (.int (zI fi)), some (.int (zI fr)), some (.int (zI ra)), some (.int (zI du)), some (.int (zI ik)), some (.int (zI ir)), some (.int (zI 1)), none], [.int (zI 1)], es)) i_54_180 rfl ?_
          refine x0 (r := (183, [some (.ref 132), some (.int (zI bk)), some (.int (zI n)), some (.int (zI kd)), some (.int (zI mo)), some (.int (zI sd)), some (.int (zI (mo % 36))), some (.int (zI fi)), some (.int (zI fr)), some (.int (zI ra)), some (.int (zI du)), some (.int (zI ik)), some (.int (zI ir)), some (.int (zI 1)), none], [.int (zI 1), .int (zI 1)], es)) i_54_182 (by rfl) ?_
          refine x_cmpT i_54_183 (by unfold i32 iLO iHI; omega) (by unfold i32 iLO iHI; omega) rfl (by simp only [zC, cR]; omega) ?_
          refine x0 (r := (199, [some (.ref 132), some (.int (zI bk)), some (.int (zI n)), some (.int (zI kd)), some (.int (zI mo)), some (.int (zI sd)), some (.int (zI (mo % 36))), some (.int (zI fi)), some (.int (zI fr)), some (.int (zI ra)), some (.int (zI du)), some (.int (zI ik)), some (.int (zI ir)), some (.int (zI 1)), none], [.int (zI ra)], es)) i_54_197 rfl ?_
          refine x0 (r := (201, [some (.ref 132), some (.int (zI bk)), some (.int (zI n)), some (.int (zI kd)), some (.int (zI mo)), some (.int (zI sd)), some (.int (zI (mo % 36))), some (.int (zI fi)), some (.int (zI fr)), some (.int (zI ra)), some (.int (zI du)), some (.int (zI ik)), some (.int (zI ir)), some (.int (zI 1)), none], [.int (zI du), .int (zI ra)], es)) i_54_199 rfl ?_
          refine x_cmpT i_54_201 (by unfold i32 iLO iHI; omega) (by unfold i32 iLO iHI; omega) rfl (by simp only [zC, cR]; omega) ?_
          refine x0 (r := (215, [some (.ref 132), some (.int (zI bk)), some (.int (zI n)), some (.int (zI kd)), some (.int (zI mo)), some (.int (zI sd)), some (.int (zI (mo % 36))), some (.int (zI fi)), some (.int (zI fr)), some (.int (zI ra)), some (.int (zI du)), some (.int (zI ik)), some (.int (zI ir)), some (.int (zI 1)), none], [.int (zI ik)], es)) i_54_213 rfl ?_
          refine x_ifT i_54_215 (by unfold i32 iLO iHI; omega) rfl (by simp only [zC, cR]; omega) ?_
          refine x0 (r := (224, [some (.ref 132), some (.int (zI bk)), some (.int (zI n)), some (.int (zI kd)), some (.int (zI mo)), some (.int (zI sd)), some (.int (zI (mo % 36))), some (.int (zI fi)), some (.int (zI fr)), some (.int (zI ra)), some (.int (zI du)), some (.int (zI ik)), some (.int (zI ir)), some (.int (zI 1)), none], [.int (zI ir)], es)) i_54_222 rfl ?_
          refine x_ifT i_54_224 (by unfold i32 iLO iHI; omega) rfl (by simp only [zC, cR]; omega) ?_
          refine x0 (r := (232, [some (.ref 132), some (.int (zI bk)), some (.int (zI n)), some (.int (zI kd)), some (.int (zI mo)), some (.int (zI sd)), some (.int (zI (mo % 36))), some (.int (zI fi)), some (.int (zI fr)), some (.int (zI ra)), some (.int (zI du)), some (.int (zI ik)), some (.int (zI ir)), some (.int (zI 1)), none], [.int (zI 2)], es)) i_54_231 (by rfl) ?_
          refine x0 (r := (234, [some (.ref 132), some (.int (zI bk)), some (.int (zI n)), some (.int (zI kd)), some (.int (zI mo)), some (.int (zI sd)), some (.int (zI (mo % 36))), some (.int (zI fi)), some (.int (zI fr)), some (.int (zI ra)), some (.int (zI du)), some (.int (zI ik)), some (.int (zI ir)), some (.int (zI 1)), some (.int (zI 2))], [], es)) i_54_232 rfl ?_
          refine x0 (r := (235, [some (.ref 132), some (.int (zI bk)), some (.int (zI n)), some (.int (zI kd)), some (.int (zI mo)), some (.int (zI sd)), some (.int (zI (mo % 36))), some (.int (zI fi)), some (.int (zI fr)), some (.int (zI ra)), some (.int (zI du)), some (.int (zI ik)), some (.int (zI ir)), some (.int (zI 1)), some (.int (zI 2))], [.ref 132], es)) i_54_234 rfl ?_
          refine x_getr (p := 68) (k := 117) i_54_235 hs_es rfl rfl ?_
          show aW _ _ _ _ _ _ (238, [some (.ref 132), some (.int (zI bk)), some (.int (zI n)), some (.int (zI kd)), some (.int (zI mo)), some (.int (zI sd)), some (.int (zI (mo % 36))), some (.int (zI fi)), some (.int (zI fr)), some (.int (zI ra)), some (.int (zI du)), some (.int (zI ik)), some (.int (zI ir)), some (.int (zI 1)), some (.int (zI 2))], [.ref 117], es)
          refine x_getr (p := 53) (k := 119) i_54_238 hs_es rfl rfl ?_
          show aW _ _ _ _ _ _ (241, [some (.ref 132), some (.int (zI bk)), some (.int (zI n)), some (.int (zI kd)), some (.int (zI mo)), some (.int (zI sd)), some (.int (zI (mo % 36))), some (.int (zI fi)), some (.int (zI fr)), some (.int (zI ra)), some (.int (zI du)), some (.int (zI ik)), some (.int (zI ir)), some (.int (zI 1)), some (.int (zI 2))], [.ref 119], es)
          refine x0 (r := (243, [some (.ref 132), some (.int (zI bk)), some (.int (zI n)), some (.int (zI kd)), some (.int (zI mo)), some (.int (zI sd)), some (.int (zI (mo % 36))), some (.int (zI fi)), some (.int (zI fr)), some (.int (zI ra)), some (.int (zI du)), some (.int (zI ik)), some (.int (zI ir)), some (.int (zI 1)), some (.int (zI 2))], [.int (zI 2), .ref 119], es)) i_54_241 rfl ?_
          refine x_call (vs := [.ref 119, .int (zI 2)]) (rs := []) i_54_243 rfl (fun _ => rfl) rfl rfl rfl rfl rfl rfl ?_
          show aW _ _ _ _ _ _ (0, [some (.ref 119), some (.int (zI 2))], [], es)
          refine x0 (r := (1, [some (.ref 119), some (.int (zI 2))], [.int (zI 2)], es)) i_28_0 rfl ?_
          refine x_ifF i_28_1 (by unfold i32 iLO iHI; omega) rfl (by simp only [zC, cR]; omega) ?_
          refine x0 (r := (5, [some (.ref 119), some (.int (zI 2))], [.int (zI 2)], es)) i_28_4 rfl ?_
          refine x0 (r := (6, [some (.ref 119), some (.int (zI 2))], [.ref 119, .int (zI 2)], es)) i_28_5 rfl ?_
          refine x_alen (p := 55) (n := 8) i_28_6 hs_es rfl ?_
          refine x_cmpF i_28_7 (by unfold i32 iLO iHI; omega) (by unfold i32 iLO iHI; omega) rfl (by simp only [zC, cR]; omega) ?_
          refine x0 (r := (11, [some (.ref 119), some (.int (zI 2))], [.ref 119], es)) i_28_10 rfl ?_
          refine x0 (r := (12, [some (.ref 119), some (.int (zI 2))], [.int (zI 2), .ref 119], es)) i_28_11 rfl ?_
          refine x_iald (p := 55) i_28_12 hs_es rfl (by unfold i32 iLO iHI; omega) (by omega) (by omega) ?_
          rw [show (gA es 55 (Int.toNat 2)).toInt = 0 from by exact (hpo _ (by omega))]
          refine x0 (r := (17, [some (.ref 119), some (.int (zI 2))], [.int (zI 0)], es)) i_28_13 rfl ?_
          refine x_ret (v := some (.int (zI 0))) i_28_17 rfl (fun _ => rfl) rfl rfl rfl ?_
          show aW _ _ _ _ _ _ (246, [some (.ref 132), some (.int (zI bk)), some (.int (zI n)), some (.int (zI kd)), some (.int (zI mo)), some (.int (zI sd)), some (.int (zI (mo % 36))), some (.int (zI fi)), some (.int (zI fr)), some (.int (zI ra)), some (.int (zI du)), some (.int (zI ik)), some (.int (zI ir)), some (.int (zI 1)), some (.int (zI 2))], [.int (zI 0)], es)
          refine x_ifT i_54_246 (by unfold i32 iLO iHI; omega) rfl (by simp only [zC, cR]; omega) ?_
          refine x0 (r := (255, [some (.ref 132), some (.int (zI bk)), some (.int (zI n)), some (.int (zI kd)), some (.int (zI mo)), some (.int (zI sd)), some (.int (zI (mo % 36))), some (.int (zI fi)), some (.int (zI fr)), some (.int (zI ra)), some (.int (zI du)), some (.int (zI ik)), some (.int (zI ir)), some (.int (zI 1)), some (.int (zI 2))], [.int (zI (-1))], es)) i_54_254 (by rfl) ?_
          refine x_ret (v := some (.int (zI (-1)))) i_54_255 rfl (fun _ => rfl) rfl rfl rfl ?_
          exact K14 c1 c9 c13 c14
      · refine x_ifF i_54_156 (by unfold i32 iLO iHI; omega) rfl (by simp only [zC, cR]; omega) ?_
        refine x0 (r := (160, [some (.ref 132), some (.int (zI bk)), some (.int (zI n)), some (.int (zI kd)), some (.int (zI mo)), some (.int (zI sd)), some (.int (zI (mo % 36))), some (.int (zI fi)), some (.int (zI fr)), some (.int (zI ra)), some (.int (zI du)), some (.int (zI ik)), some (.int (zI ir)), none, none], [.int (zI 0), .int (zI 0)], es)) i_54_159 (by rfl) ?_
        refine x0 (r := (164, [some (.ref 132), some (.int (zI bk)), some (.int (zI n)), some (.int (zI kd)), some (.int (zI mo)), some (.int (zI sd)), some (.int (zI (mo % 36))), some (.int (zI fi)), some (.int (zI fr)), some (.int (zI ra)), some (.int (zI du)), some (.int (zI ik)), some (.int (zI ir)), none, none], [.int (zI 0), .int (zI 0)], es)) i_54_160 rfl ?_
        refine x_iadd i_54_164 ?_
        show aW _ _ _ _ _ _ (165, [some (.ref 132), some (.int (zI bk)), some (.int (zI n)), some (.int (zI kd)), some (.int (zI mo)), some (.int (zI sd)), some (.int (zI (mo % 36))), some (.int (zI fi)), some (.int (zI fr)), some (.int (zI ra)), some (.int (zI du)), some (.int (zI ik)), some (.int (zI ir)), none, none], [.int (zI 0)], es)
        refine x0 (r := (167, [some (.ref 132), some (.int (zI bk)), some (.int (zI n)), some (.int (zI kd)), some (.int (zI mo)), some (.int (zI sd)), some (.int (zI (mo % 36))), some (.int (zI fi)), some (.int (zI fr)), some (.int (zI ra)), some (.int (zI du)), some (.int (zI ik)), some (.int (zI ir)), none, none], [.int (zI ra), .int (zI 0)], es)) i_54_165 rfl ?_
        refine x0 (r := (169, [some (.ref 132), some (.int (zI bk)), some (.int (zI n)), some (.int (zI kd)), some (.int (zI mo)), some (.int (zI sd)), some (.int (zI (mo % 36))), some (.int (zI fi)), some (.int (zI fr)), some (.int (zI ra)), some (.int (zI du)), some (.int (zI ik)), some (.int (zI ir)), none, none], [.int (zI du), .int (zI ra), .int (zI 0)], es)) i_54_167 rfl ?_
        by_cases c15 : ra ≠ du
        · refine x_cmpT i_54_169 (by unfold i32 iLO iHI; omega) (by unfold i32 iLO iHI; omega) rfl (by simp only [zC, cR]; omega) ?_
          refine x0 (r := (177, [some (.ref 132), some (.int (zI bk)), some (.int (zI n)), some (.int (zI kd)), some (.int (zI mo)), some (.int (zI sd)), some (.int (zI (mo % 36))), some (.int (zI fi)), some (.int (zI fr)), some (.int (zI ra)), some (.int (zI du)), some (.int (zI ik)), some (.int (zI ir)), none, none], [.int (zI 1), .int (zI 0)], es)) i_54_176 (by rfl) ?_
          refine x_iadd i_54_177 ?_
          show aW _ _ _ _ _ _ (178, [some (.ref 132), some (.int (zI bk)), some (.int (zI n)), some (.int (zI kd)), some (.int (zI mo)), some (.int (zI sd)), some (.int (zI (mo % 36))), some (.int (zI fi)), some (.int (zI fr)), some (.int (zI ra)), some (.int (zI du)), some (.int (zI ik)), some (.int (zI ir)), none, none], [.int (zI 1)], es)
          refine x0 (r := (180, [some (.ref 132), some (.int (zI bk)), some (.int (zI n)), some (.int (zI kd)), some (.int (zI mo)), some (.int (zI sd)), some (.int (zI (mo % 36))), some (.int (zI fi)), some (.int (zI fr)), some (.int (zI ra)), some (.int (zI du)), some (.int (zI ik)), some (.int (zI ir)), some (.int (zI 1)), none], [], es)) i_54_178 rfl ?_
          refine x0 (r := (182, [some (.ref 132), some (.int (zI bk)), some (.int (zI n)), some (.int (zI kd)), some (.int (zI mo)), some (.int (zI sd)), some (.int (zI (mo % 36))), some (.int (zI fi)), some (.int (zI fr)), some (.int (zI ra)), some (.int (zI du)), some (.int (zI ik)), some (.int (zI ir)), some (.int (zI 1)), none], [.int (zI 1)], es)) i_54_180 rfl ?_
          refine x0 (r := (183, [some (.ref 132), some (.int (zI bk)), some (.int (zI n)), some (.int (zI kd)), some (.int (zI mo)), some (.int (zI sd)), some (.int (zI (mo % 36))), some (.int (zI fi)), some (.int (zI fr)), some (.int (zI ra)), some (.int (zI du)), some (.int (zI ik)), some (.int (zI ir)), some (.int (zI 1)), none], [.int (zI 1), .int (zI 1)], es)) i_54_182 (by rfl) ?_
          refine x_cmpT i_54_183 (by unfold i32 iLO iHI; omega) (by unfold i32 iLO iHI; omega) rfl (by simp only [zC, cR]; omega) ?_
          refine x0 (r := (199, [some (.ref 132), some (.int (zI bk)), some (.int (zI n)), some (.int (zI kd)), some (.int (zI mo)), some (.int (zI sd)), some (.int (zI (mo % 36))), some (.int (zI fi)), some (.int (zI fr)), some (.int (zI ra)), some (.int (zI du)), some (.int (zI ik)), some (.int (zI ir)), some (.int (zI 1)), none], [.int (zI ra)], es)) i_54_197 rfl ?_
          refine x0 (r := (201, [some (.ref 132), some (.int (zI bk)), some (.int (zI n)), some (.int (zI kd)), some (.int (zI mo)), some (.int (zI sd)), some (.int (zI (mo % 36))), some (.int (zI fi)), some (.int (zI fr)), some (.int (zI ra)), some (.int (zI du)), some (.int (zI ik)), some (.int (zI ir)), some (.int (zI 1)), none], [.int (zI du), .int (zI ra)], es)) i_54_199 rfl ?_
          refine x_cmpF i_54_201 (by unfold i32 iLO iHI; omega) (by unfold i32 iLO iHI; omega) rfl (by simp only [zC, cR]; omega) ?_
          refine x0 (r := (205, [some (.ref 132), some (.int (zI bk)), some (.int (zI n)), some (.int (zI kd)), some (.int (zI mo)), some (.int (zI sd)), some (.int (zI (mo % 36))), some (.int (zI fi)), some (.int (zI fr)), some (.int (zI ra)), some (.int (zI du)), some (.int (zI ik)), some (.int (zI ir)), some (.int (zI 1)), none], [.ref 132], es)) i_54_204 rfl ?_
          refine x0 (r := (207, [some (.ref 132), some (.int (zI bk)), some (.int (zI n)), some (.int (zI kd)), some (.int (zI mo)), some (.int (zI sd)), some (.int (zI (mo % 36))), some (.int (zI fi)), some (.int (zI fr)), some (.int (zI ra)), some (.int (zI du)), some (.int (zI ik)), some (.int (zI ir)), some (.int (zI 1)), none], [.int (zI ra), .ref 132], es)) i_54_205 rfl ?_
          refine x0 (r := (209, [some (.ref 132), some (.int (zI bk)), some (.int (zI n)), some (.int (zI kd)), some (.int (zI mo)), some (.int (zI sd)), some (.int (zI (mo % 36))), some (.int (zI fi)), some (.int (zI fr)), some (.int (zI ra)), some (.int (zI du)), some (.int (zI ik)), some (.int (zI ir)), some (.int (zI 1)), none], [.int (zI du), .int (zI ra), .ref 132], es)) i_54_207 rfl ?_
          refine x_call (vs := [.ref 132, .int (zI ra), .int (zI du)]) (rs := []) i_54_209 rfl (fun _ => rfl) rfl rfl rfl rfl rfl (pCall_v (p := 68) hs_es rfl rfl rfl rfl rfl (by decide) rfl rfl rfl rfl rfl) ?_
          show aW _ _ _ _ _ _ (0, [some (.ref 132), some (.int (zI ra)), some (.int (zI du)), none, none], [], es)
          refine x0 (r := (1, [some (.ref 132), some (.int (zI ra)), some (.int (zI du)), none, none], [.int (zI ra)], es)) i_55_0 rfl ?_
          refine x0 (r := (2, [some (.ref 132), some (.int (zI ra)), some (.int (zI du)), none, none], [.int (zI du), .int (zI ra)], es)) i_55_1 rfl ?_
          refine x_isub i_55_2 ?_
          refine x0 (r := (4, [some (.ref 132), some (.int (zI ra)), some (.int (zI du)), none, none], [.int (zI 1), .int (zI (ra - du))], es)) i_55_3 (by rfl) ?_
          by_cases c16 : (ra - du) = 1
          · refine x_cmpT i_55_4 (by unfold i32 iLO iHI; omega) (by unfold i32 iLO iHI; omega) rfl (by simp only [zC, cR]; omega) ?_
            refine x0 (r := (15, [some (.ref 132), some (.int (zI ra)), some (.int (zI du)), none, none], [.ref 132], es)) i_55_14 rfl ?_
            refine x_getr (p := 68) (k := 117) i_55_15 hs_es rfl rfl ?_
            show aW _ _ _ _ _ _ (18, [some (.ref 132), some (.int (zI ra)), some (.int (zI du)), none, none], [.ref 117], es)
            refine x_getr (p := 53) (k := 119) i_55_18 hs_es rfl rfl ?_
            show aW _ _ _ _ _ _ (21, [some (.ref 132), some (.int (zI ra)), some (.int (zI du)), none, none], [.ref 119], es)
            refine x0 (r := (22, [some (.ref 132), some (.int (zI ra)), some (.int (zI du)), none, none], [.int (zI 3), .ref 119], es)) i_55_21 (by rfl) ?_
            refine x_call (vs := [.ref 119, .int (zI 3)]) (rs := []) i_55_22 rfl (fun _ => rfl) rfl rfl rfl rfl rfl rfl ?_
            show aW _ _ _ _ _ _ (0, [some (.ref 119), some (.int (zI 3))], [], es)
            refine x0 (r := (1, [some (.ref 119), some (.int (zI 3))], [.int (zI 3)], es)) i_28_0 rfl ?_
            refine x_ifF i_28_1 (by unfold i32 iLO iHI; omega) rfl (by simp only [zC, cR]; omega) ?_
            refine x0 (r := (5, [some (.ref 119), some (.int (zI 3))], [.int (zI 3)], es)) i_28_4 rfl ?_
            refine x0 (r := (6, [some (.ref 119), some (.int (zI 3))], [.ref 119, .int (zI 3)], es)) i_28_5 rfl ?_
            refine x_alen (p := 55) (n := 8) i_28_6 hs_es rfl ?_
            refine x_cmpF i_28_7 (by unfold i32 iLO iHI; omega) (by unfold i32 iLO iHI; omega) rfl (by simp only [zC, cR]; omega) ?_
            refine x0 (r := (11, [some (.ref 119), some (.int (zI 3))], [.ref 119], es)) i_28_10 rfl ?_
            refine x0 (r := (12, [some (.ref 119), some (.int (zI 3))], [.int (zI 3), .ref 119], es)) i_28_11 rfl ?_
            refine x_iald (p := 55) i_28_12 hs_es rfl (by unfold i32 iLO iHI; omega) (by omega) (by omega) ?_
            rw [show (gA es 55 (Int.toNat 3)).toInt = 0 from by exact (hpo _ (by omega))]
            refine x0 (r := (17, [some (.ref 119), some (.int (zI 3))], [.int (zI 0)], es)) i_28_13 rfl ?_
            refine x_ret (v := some (.int (zI 0))) i_28_17 rfl (fun _ => rfl) rfl rfl rfl ?_
            show aW _ _ _ _ _ _ (25, [some (.ref 132), some (.int (zI ra)), some (.int (zI du)), none, none], [.int (zI 0)], es)
            refine x0 (r := (29, [some (.ref 132), some (.int (zI ra)), some (.int (zI du)), none, none], [.int (zI 0)], es)) i_55_25 rfl ?_
            refine x0 (r := (30, [some (.ref 132), some (.int (zI ra)), some (.int (zI du)), some (.int (zI 0)), none], [], es)) i_55_29 rfl ?_
            refine x0 (r := (31, [some (.ref 132), some (.int (zI ra)), some (.int (zI du)), some (.int (zI 0)), none], [.int (zI 5)], es)) i_55_30 (by rfl) ?_
            refine x0 (r := (32, [some (.ref 132), some (.int (zI ra)), some (.int (zI du)), some (.int (zI 0)), none], [.int (zI ra), .int (zI 5)], es)) i_55_31 rfl ?_
            refine x_isub i_55_32 ?_
            refine x0 (r := (34, [some (.ref 132), some (.int (zI ra)), some (.int (zI du)), some (.int (zI 0)), none], [.int (zI du), .int (zI (5 - ra))], es)) i_55_33 rfl ?_
            by_cases c17 : (5 - ra) ≠ du
            · refine x_cmpT i_55_34 (by unfold i32 iLO iHI; omega) (by unfold i32 iLO iHI; omega) rfl (by simp only [zC, cR]; omega) ?_
              refine x0 (r := (52, [some (.ref 132), some (.int (zI ra)), some (.int (zI du)), some (.int (zI 0)), none], [.int (zI 0)], es)) i_55_51 (by rfl) ?_
              refine x0 (r := (54, [some (.ref 132), some (.int (zI ra)), some (.int (zI du)), some (.int (zI 0)), some (.int (zI 0))], [], es)) i_55_52 rfl ?_
              refine x0 (r := (56, [some (.ref 132), some (.int (zI ra)), some (.int (zI du)), some (.int (zI 0)), some (.int (zI 0))], [.int (zI 0)], es)) i_55_54 rfl ?_
              refine x_ifT i_55_56 (by unfold i32 iLO iHI; omega) rfl (by simp only [zC, cR]; omega) ?_
              refine x0 (r := (72, [some (.ref 132), some (.int (zI ra)), some (.int (zI du)), some (.int (zI 0)), some (.int (zI 0))], [.int (zI 0)], es)) i_55_71 rfl ?_
              refine x_ifT i_55_72 (by unfold i32 iLO iHI; omega) rfl (by simp only [zC, cR]; omega) ?_
              refine x0 (r := (80, [some (.ref 132), some (.int (zI ra)), some (.int (zI du)), some (.int (zI 0)), some (.int (zI 0))], [.int (zI (-1))], es)) i_55_79 (by rfl) ?_
              refine x_ret (v := some (.int (zI (-1)))) i_55_80 rfl (fun _ => rfl) rfl rfl rfl ?_
              show aW _ _ _ _ _ _ (212, [some (.ref 132), some (.int (zI bk)), some (.int (zI n)), some (.int (zI kd)), some (.int (zI mo)), some (.int (zI sd)), some (.int (zI (mo % 36))), some (.int (zI fi)), some (.int (zI fr)), some (.int (zI ra)), some (.int (zI du)), some (.int (zI ik)), some (.int (zI ir)), some (.int (zI 1)), none], [.int (zI (-1))], es)
              refine x_ret (v := some (.int (zI (-1)))) i_54_212 rfl (fun _ => rfl) rfl rfl rfl ?_
              exact K15 c1 c9 c13 c15 c16 c17
            · refine x_cmpF i_55_34 (by unfold i32 iLO iHI; omega) (by unfold i32 iLO iHI; omega) rfl (by simp only [zC, cR]; omega) ?_
              refine x0 (r := (38, [some (.ref 132), some (.int (zI ra)), some (.int (zI du)), some (.int (zI 0)), none], [.ref 132], es)) i_55_37 rfl ?_
              refine x_getr (p := 68) (k := 117) i_55_38 hs_es rfl rfl ?_
              show aW _ _ _ _ _ _ (41, [some (.ref 132), some (.int (zI ra)), some (.int (zI du)), some (.int (zI 0)), none], [.ref 117], es)
              refine x_getr (p := 53) (k := 119) i_55_41 hs_es rfl rfl ?_
              show aW _ _ _ _ _ _ (44, [some (.ref 132), some (.int (zI ra)), some (.int (zI du)), some (.int (zI 0)), none], [.ref 119], es)
              refine x0 (r := (45, [some (.ref 132), some (.int (zI ra)), some (.int (zI du)), some (.int (zI 0)), none], [.int (zI 4), .ref 119], es)) i_55_44 (by rfl) ?_
              refine x_call (vs := [.ref 119, .int (zI 4)]) (rs := []) i_55_45 rfl (fun _ => rfl) rfl rfl rfl rfl rfl rfl ?_
              show aW _ _ _ _ _ _ (0, [some (.ref 119), some (.int (zI 4))], [], es)
              refine x0 (r := (1, [some (.ref 119), some (.int (zI 4))], [.int (zI 4)], es)) i_28_0 rfl ?_
              refine x_ifF i_28_1 (by unfold i32 iLO iHI; omega) rfl (by simp only [zC, cR]; omega) ?_
              refine x0 (r := (5, [some (.ref 119), some (.int (zI 4))], [.int (zI 4)], es)) i_28_4 rfl ?_
              refine x0 (r := (6, [some (.ref 119), some (.int (zI 4))], [.ref 119, .int (zI 4)], es)) i_28_5 rfl ?_
              refine x_alen (p := 55) (n := 8) i_28_6 hs_es rfl ?_
              refine x_cmpF i_28_7 (by unfold i32 iLO iHI; omega) (by unfold i32 iLO iHI; omega) rfl (by simp only [zC, cR]; omega) ?_
              refine x0 (r := (11, [some (.ref 119), some (.int (zI 4))], [.ref 119], es)) i_28_10 rfl ?_
              refine x0 (r := (12, [some (.ref 119), some (.int (zI 4))], [.int (zI 4), .ref 119], es)) i_28_11 rfl ?_
              refine x_iald (p := 55) i_28_12 hs_es rfl (by unfold i32 iLO iHI; omega) (by omega) (by omega) ?_
              rw [show (gA es 55 (Int.toNat 4)).toInt = 0 from by exact (hpo _ (by omega))]
              refine x0 (r := (17, [some (.ref 119), some (.int (zI 4))], [.int (zI 0)], es)) i_28_13 rfl ?_
              refine x_ret (v := some (.int (zI 0))) i_28_17 rfl (fun _ => rfl) rfl rfl rfl ?_
              show aW _ _ _ _ _ _ (48, [some (.ref 132), some (.int (zI ra)), some (.int (zI du)), some (.int (zI 0)), none], [.int (zI 0)], es)
              refine x0 (r := (52, [some (.ref 132), some (.int (zI ra)), some (.int (zI du)), some (.int (zI 0)), none], [.int (zI 0)], es)) i_55_48 rfl ?_
              refine x0 (r := (54, [some (.ref 132), some (.int (zI ra)), some (.int (zI du)), some (.int (zI 0)), some (.int (zI 0))], [], es)) i_55_52 rfl ?_
              refine x0 (r := (56, [some (.ref 132), some (.int (zI ra)), some (.int (zI du)), some (.int (zI 0)), some (.int (zI 0))], [.int (zI 0)], es)) i_55_54 rfl ?_
              refine x_ifT i_55_56 (by unfold i32 iLO iHI; omega) rfl (by simp only [zC, cR]; omega) ?_
              refine x0 (r := (72, [some (.ref 132), some (.int (zI ra)), some (.int (zI du)), some (.int (zI 0)), some (.int (zI 0))], [.int (zI 0)], es)) i_55_71 rfl ?_
              refine x_ifT i_55_72 (by unfold i32 iLO iHI; omega) rfl (by simp only [zC, cR]; omega) ?_
              refine x0 (r := (80, [some (.ref 132), some (.int (zI ra)), some (.int (zI du)), some (.int (zI 0)), some (.int (zI 0))], [.int (zI (-1))], es)) i_55_79 (by rfl) ?_
              refine x_ret (v := some (.int (zI (-1)))) i_55_80 rfl (fun _ => rfl) rfl rfl rfl ?_
              show aW _ _ _ _ _ _ (212, [some (.ref 132), some (.int (zI bk)), some (.int (zI n)), some (.int (zI kd)), some (.int (zI mo)), some (.int (zI sd)), some (.int (zI (mo % 36))), some (.int (zI fi)), some (.int (zI fr)), some (.int (zI ra)), some (.int (zI du)), some (.int (zI ik)), some (.int (zI ir)), some (.int (zI 1)), none], [.int (zI (-1))], es)
              refine x_ret (v := some (.int (zI (-1)))) i_54_212 rfl (fun _ => rfl) rfl rfl rfl ?_
              exact K16 c1 c9 c13 c15 c16 c17
          · refine x_cmpF i_55_4 (by unfold i32 iLO iHI; omega) (by unfold i32 iLO iHI; omega) rfl (by simp only [zC, cR]; omega) ?_
            refine x0 (r := (8, [some (.ref 132), some (.int (zI ra)), some (.int (zI du)), none, none], [.int (zI du)], es)) i_55_7 rfl ?_
            refine x0 (r := (9, [some (.ref 132), some (.int (zI ra)), some (.int (zI du)), none, none], [.int (zI ra), .int (zI du)], es)) i_55_8 rfl ?_
            refine x_isub i_55_9 ?_
            refine x0 (r := (11, [some (.ref 132), some (.int (zI ra)), some (.int (zI du)), none, none], [.int (zI 1), .int (zI (du - ra))], es)) i_55_10 (by rfl) ?_
            by_cases c18 : (du - ra) ≠ 1
            · refine x_cmpT i_55_11 (by unfold i32 iLO iHI; omega) (by unfold i32 iLO iHI; omega) rfl (by simp only [zC, cR]; omega) ?_
              refine x0 (r := (29, [some (.ref 132), some (.int (zI ra)), some (.int (zI du)), none, none], [.int (zI 0)], es)) i_55_28 (by rfl) ?_
              refine x0 (r := (30, [some (.ref 132), some (.int (zI ra)), some (.int (zI du)), some (.int (zI 0)), none], [], es)) i_55_29 rfl ?_
              refine x0 (r := (31, [some (.ref 132), some (.int (zI ra)), some (.int (zI du)), some (.int (zI 0)), none], [.int (zI 5)], es)) i_55_30 (by rfl) ?_
              refine x0 (r := (32, [some (.ref 132), some (.int (zI ra)), some (.int (zI du)), some (.int (zI 0)), none], [.int (zI ra), .int (zI 5)], es)) i_55_31 rfl ?_
              refine x_isub i_55_32 ?_
              refine x0 (r := (34, [some (.ref 132), some (.int (zI ra)), some (.int (zI du)), some (.int (zI 0)), none], [.int (zI du), .int (zI (5 - ra))], es)) i_55_33 rfl ?_
              by_cases c19 : (5 - ra) ≠ du
              · refine x_cmpT i_55_34 (by unfold i32 iLO iHI; omega) (by unfold i32 iLO iHI; omega) rfl (by simp only [zC, cR]; omega) ?_
                refine x0 (r := (52, [some (.ref 132), some (.int (zI ra)), some (.int (zI du)), some (.int (zI 0)), none], [.int (zI 0)], es)) i_55_51 (by rfl) ?_
                refine x0 (r := (54, [some (.ref 132), some (.int (zI ra)), some (.int (zI du)), some (.int (zI 0)), some (.int (zI 0))], [], es)) i_55_52 rfl ?_
                refine x0 (r := (56, [some (.ref 132), some (.int (zI ra)), some (.int (zI du)), some (.int (zI 0)), some (.int (zI 0))], [.int (zI 0)], es)) i_55_54 rfl ?_
                refine x_ifT i_55_56 (by unfold i32 iLO iHI; omega) rfl (by simp only [zC, cR]; omega) ?_
                refine x0 (r := (72, [some (.ref 132), some (.int (zI ra)), some (.int (zI du)), some (.int (zI 0)), some (.int (zI 0))], [.int (zI 0)], es)) i_55_71 rfl ?_
                refine x_ifT i_55_72 (by unfold i32 iLO iHI; omega) rfl (by simp only [zC, cR]; omega) ?_
                refine x0 (r := (80, [some (.ref 132), some (.int (zI ra)), some (.int (zI du)), some (.int (zI 0)), some (.int (zI 0))], [.int (zI (-1))], es)) i_55_79 (by rfl) ?_
                refine x_ret (v := some (.int (zI (-1)))) i_55_80 rfl (fun _ => rfl) rfl rfl rfl ?_
                show aW _ _ _ _ _ _ (212, [some (.ref 132), some (.int (zI bk)), some (.int (zI n)), some (.int (zI kd)), some (.int (zI mo)), some (.int (zI sd)), some (.int (zI (mo % 36))), some (.int (zI fi)), some (.int (zI fr)), some (.int (zI ra)), some (.int (zI du)), some (.int (zI ik)), some (.int (zI ir)), some (.int (zI 1)), none], [.int (zI (-1))], es)
                refine x_ret (v := some (.int (zI (-1)))) i_54_212 rfl (fun _ => rfl) rfl rfl rfl ?_
                exact K17 c1 c9 c13 c15 c16 c18 c19
              · refine x_cmpF i_55_34 (by unfold i32 iLO iHI; omega) (by unfold i32 iLO iHI; omega) rfl (by simp only [zC, cR]; omega) ?_
                refine x0 (r := (38, [some (.ref 132), some (.int (zI ra)), some (.int (zI du)), some (.int (zI 0)), none], [.ref 132], es)) i_55_37 rfl ?_
                refine x_getr (p := 68) (k := 117) i_55_38 hs_es rfl rfl ?_
                show aW _ _ _ _ _ _ (41, [some (.ref 132), some (.int (zI ra)), some (.int (zI du)), some (.int (zI 0)), none], [.ref 117], es)
                refine x_getr (p := 53) (k := 119) i_55_41 hs_es rfl rfl ?_
                show aW _ _ _ _ _ _ (44, [some (.ref 132), some (.int (zI ra)), some (.int (zI du)), some (.int (zI 0)), none], [.ref 119], es)
                refine x0 (r := (45, [some (.ref 132), some (.int (zI ra)), some (.int (zI du)), some (.int (zI 0)), none], [.int (zI 4), .ref 119], es)) i_55_44 (by rfl) ?_
                refine x_call (vs := [.ref 119, .int (zI 4)]) (rs := []) i_55_45 rfl (fun _ => rfl) rfl rfl rfl rfl rfl rfl ?_
                show aW _ _ _ _ _ _ (0, [some (.ref 119), some (.int (zI 4))], [], es)
                refine x0 (r := (1, [some (.ref 119), some (.int (zI 4))], [.int (zI 4)], es)) i_28_0 rfl ?_
                refine x_ifF i_28_1 (by unfold i32 iLO iHI; omega) rfl (by simp only [zC, cR]; omega) ?_
                refine x0 (r := (5, [some (.ref 119), some (.int (zI 4))], [.int (zI 4)], es)) i_28_4 rfl ?_
                refine x0 (r := (6, [some (.ref 119), some (.int (zI 4))], [.ref 119, .int (zI 4)], es)) i_28_5 rfl ?_
                refine x_alen (p := 55) (n := 8) i_28_6 hs_es rfl ?_
                refine x_cmpF i_28_7 (by unfold i32 iLO iHI; omega) (by unfold i32 iLO iHI; omega) rfl (by simp only [zC, cR]; omega) ?_
                refine x0 (r := (11, [some (.ref 119), some (.int (zI 4))], [.ref 119], es)) i_28_10 rfl ?_
                refine x0 (r := (12, [some (.ref 119), some (.int (zI 4))], [.int (zI 4), .ref 119], es)) i_28_11 rfl ?_
                refine x_iald (p := 55) i_28_12 hs_es rfl (by unfold i32 iLO iHI; omega) (by omega) (by omega) ?_
                rw [show (gA es 55 (Int.toNat 4)).toInt = 0 from by exact (hpo _ (by omega))]
                refine x0 (r := (17, [some (.ref 119), some (.int (zI 4))], [.int (zI 0)], es)) i_28_13 rfl ?_
                refine x_ret (v := some (.int (zI 0))) i_28_17 rfl (fun _ => rfl) rfl rfl rfl ?_
                show aW _ _ _ _ _ _ (48, [some (.ref 132), some (.int (zI ra)), some (.int (zI du)), some (.int (zI 0)), none], [.int (zI 0)], es)
                refine x0 (r := (52, [some (.ref 132), some (.int (zI ra)), some (.int (zI du)), some (.int (zI 0)), none], [.int (zI 0)], es)) i_55_48 rfl ?_
                refine x0 (r := (54, [some (.ref 132), some (.int (zI ra)), some (.int (zI du)), some (.int (zI 0)), some (.int (zI 0))], [], es)) i_55_52 rfl ?_
                refine x0 (r := (56, [some (.ref 132), some (.int (zI ra)), some (.int (zI du)), some (.int (zI 0)), some (.int (zI 0))], [.int (zI 0)], es)) i_55_54 rfl ?_
                refine x_ifT i_55_56 (by unfold i32 iLO iHI; omega) rfl (by simp only [zC, cR]; omega) ?_
                refine x0 (r := (72, [some (.ref 132), some (.int (zI ra)), some (.int (zI du)), some (.int (zI 0)), some (.int (zI 0))], [.int (zI 0)], es)) i_55_71 rfl ?_
                refine x_ifT i_55_72 (by unfold i32 iLO iHI; omega) rfl (by simp only [zC, cR]; omega) ?_
                refine x0 (r := (80, [some (.ref 132), some (.int (zI ra)), some (.int (zI du)), some (.int (zI 0)), some (.int (zI 0))], [.int (zI (-1))], es)) i_55_79 (by rfl) ?_
                refine x_ret (v := some (.int (zI (-1)))) i_55_80 rfl (fun _ => rfl) rfl rfl rfl ?_
                show aW _ _ _ _ _ _ (212, [some (.ref 132), some (.int (zI bk)), some (.int (zI n)), some (.int (zI kd)), some (.int (zI mo)), some (.int (zI sd)), some (.int (zI (mo % 36))), some (.int (zI fi)), some (.int (zI fr)), some (.int (zI ra)), some (.int (zI du)), some (.int (zI ik)), some (.int (zI ir)), some (.int (zI 1)), none], [.int (zI (-1))], es)
                refine x_ret (v := some (.int (zI (-1)))) i_54_212 rfl (fun _ => rfl) rfl rfl rfl ?_
                exact K18 c1 c9 c13 c15 c16 c18 c19
            · refine x_cmpF i_55_11 (by unfold i32 iLO iHI; omega) (by unfold i32 iLO iHI; omega) rfl (by simp only [zC, cR]; omega) ?_
              refine x0 (r := (15, [some (.ref 132), some (.int (zI ra)), some (.int (zI du)), none, none], [.ref 132], es)) i_55_14 rfl ?_
              refine x_getr (p := 68) (k := 117) i_55_15 hs_es rfl rfl ?_
              show aW _ _ _ _ _ _ (18, [some (.ref 132), some (.int (zI ra)), some (.int (zI du)), none, none], [.ref 117], es)
              refine x_getr (p := 53) (k := 119) i_55_18 hs_es rfl rfl ?_
              show aW _ _ _ _ _ _ (21, [some (.ref 132), some (.int (zI ra)), some (.int (zI du)), none, none], [.ref 119], es)
              refine x0 (r := (22, [some (.ref 132), some (.int (zI ra)), some (.int (zI du)), none, none], [.int (zI 3), .ref 119], es)) i_55_21 (by rfl) ?_
              refine x_call (vs := [.ref 119, .int (zI 3)]) (rs := []) i_55_22 rfl (fun _ => rfl) rfl rfl rfl rfl rfl rfl ?_
              show aW _ _ _ _ _ _ (0, [some (.ref 119), some (.int (zI 3))], [], es)
              refine x0 (r := (1, [some (.ref 119), some (.int (zI 3))], [.int (zI 3)], es)) i_28_0 rfl ?_
              refine x_ifF i_28_1 (by unfold i32 iLO iHI; omega) rfl (by simp only [zC, cR]; omega) ?_
              refine x0 (r := (5, [some (.ref 119), some (.int (zI 3))], [.int (zI 3)], es)) i_28_4 rfl ?_
              refine x0 (r := (6, [some (.ref 119), some (.int (zI 3))], [.ref 119, .int (zI 3)], es)) i_28_5 rfl ?_
              refine x_alen (p := 55) (n := 8) i_28_6 hs_es rfl ?_
              refine x_cmpF i_28_7 (by unfold i32 iLO iHI; omega) (by unfold i32 iLO iHI; omega) rfl (by simp only [zC, cR]; omega) ?_
              refine x0 (r := (11, [some (.ref 119), some (.int (zI 3))], [.ref 119], es)) i_28_10 rfl ?_
              refine x0 (r := (12, [some (.ref 119), some (.int (zI 3))], [.int (zI 3), .ref 119], es)) i_28_11 rfl ?_
              refine x_iald (p := 55) i_28_12 hs_es rfl (by unfold i32 iLO iHI; omega) (by omega) (by omega) ?_
              rw [show (gA es 55 (Int.toNat 3)).toInt = 0 from by exact (hpo _ (by omega))]
              refine x0 (r := (17, [some (.ref 119), some (.int (zI 3))], [.int (zI 0)], es)) i_28_13 rfl ?_
              refine x_ret (v := some (.int (zI 0))) i_28_17 rfl (fun _ => rfl) rfl rfl rfl ?_
              show aW _ _ _ _ _ _ (25, [some (.ref 132), some (.int (zI ra)), some (.int (zI du)), none, none], [.int (zI 0)], es)
              refine x0 (r := (29, [some (.ref 132), some (.int (zI ra)), some (.int (zI du)), none, none], [.int (zI 0)], es)) i_55_25 rfl ?_
              refine x0 (r := (30, [some (.ref 132), some (.int (zI ra)), some (.int (zI du)), some (.int (zI 0)), none], [], es)) i_55_29 rfl ?_
              refine x0 (r := (31, [some (.ref 132), some (.int (zI ra)), some (.int (zI du)), some (.int (zI 0)), none], [.int (zI 5)], es)) i_55_30 (by rfl) ?_
              refine x0 (r := (32, [some (.ref 132), some (.int (zI ra)), some (.int (zI du)), some (.int (zI 0)), none], [.int (zI ra), .int (zI 5)], es)) i_55_31 rfl ?_
              refine x_isub i_55_32 ?_
              refine x0 (r := (34, [some (.ref 132), some (.int (zI ra)), some (.int (zI du)), some (.int (zI 0)), none], [.int (zI du), .int (zI (5 - ra))], es)) i_55_33 rfl ?_
              by_cases c20 : (5 - ra) ≠ du
              · refine x_cmpT i_55_34 (by unfold i32 iLO iHI; omega) (by unfold i32 iLO iHI; omega) rfl (by simp only [zC, cR]; omega) ?_
                refine x0 (r := (52, [some (.ref 132), some (.int (zI ra)), some (.int (zI du)), some (.int (zI 0)), none], [.int (zI 0)], es)) i_55_51 (by rfl) ?_
                refine x0 (r := (54, [some (.ref 132), some (.int (zI ra)), some (.int (zI du)), some (.int (zI 0)), some (.int (zI 0))], [], es)) i_55_52 rfl ?_
                refine x0 (r := (56, [some (.ref 132), some (.int (zI ra)), some (.int (zI du)), some (.int (zI 0)), some (.int (zI 0))], [.int (zI 0)], es)) i_55_54 rfl ?_
                refine x_ifT i_55_56 (by unfold i32 iLO iHI; omega) rfl (by simp only [zC, cR]; omega) ?_
                refine x0 (r := (72, [some (.ref 132), some (.int (zI ra)), some (.int (zI du)), some (.int (zI 0)), some (.int (zI 0))], [.int (zI 0)], es)) i_55_71 rfl ?_
                refine x_ifT i_55_72 (by unfold i32 iLO iHI; omega) rfl (by simp only [zC, cR]; omega) ?_
                refine x0 (r := (80, [some (.ref 132), some (.int (zI ra)), some (.int (zI du)), some (.int (zI 0)), some (.int (zI 0))], [.int (zI (-1))], es)) i_55_79 (by rfl) ?_
                refine x_ret (v := some (.int (zI (-1)))) i_55_80 rfl (fun _ => rfl) rfl rfl rfl ?_
                show aW _ _ _ _ _ _ (212, [some (.ref 132), some (.int (zI bk)), some (.int (zI n)), some (.int (zI kd)), some (.int (zI mo)), some (.int (zI sd)), some (.int (zI (mo % 36))), some (.int (zI fi)), some (.int (zI fr)), some (.int (zI ra)), some (.int (zI du)), some (.int (zI ik)), some (.int (zI ir)), some (.int (zI 1)), none], [.int (zI (-1))], es)
                refine x_ret (v := some (.int (zI (-1)))) i_54_212 rfl (fun _ => rfl) rfl rfl rfl ?_
                exact K19 c1 c9 c13 c15 c16 c18 c20
              · refine x_cmpF i_55_34 (by unfold i32 iLO iHI; omega) (by unfold i32 iLO iHI; omega) rfl (by simp only [zC, cR]; omega) ?_
                refine x0 (r := (38, [some (.ref 132), some (.int (zI ra)), some (.int (zI du)), some (.int (zI 0)), none], [.ref 132], es)) i_55_37 rfl ?_
                refine x_getr (p := 68) (k := 117) i_55_38 hs_es rfl rfl ?_
                show aW _ _ _ _ _ _ (41, [some (.ref 132), some (.int (zI ra)), some (.int (zI du)), some (.int (zI 0)), none], [.ref 117], es)
                refine x_getr (p := 53) (k := 119) i_55_41 hs_es rfl rfl ?_
                show aW _ _ _ _ _ _ (44, [some (.ref 132), some (.int (zI ra)), some (.int (zI du)), some (.int (zI 0)), none], [.ref 119], es)
                refine x0 (r := (45, [some (.ref 132), some (.int (zI ra)), some (.int (zI du)), some (.int (zI 0)), none], [.int (zI 4), .ref 119], es)) i_55_44 (by rfl) ?_
                refine x_call (vs := [.ref 119, .int (zI 4)]) (rs := []) i_55_45 rfl (fun _ => rfl) rfl rfl rfl rfl rfl rfl ?_
                show aW _ _ _ _ _ _ (0, [some (.ref 119), some (.int (zI 4))], [], es)
                refine x0 (r := (1, [some (.ref 119), some (.int (zI 4))], [.int (zI 4)], es)) i_28_0 rfl ?_
                refine x_ifF i_28_1 (by unfold i32 iLO iHI; omega) rfl (by simp only [zC, cR]; omega) ?_
                refine x0 (r := (5, [some (.ref 119), some (.int (zI 4))], [.int (zI 4)], es)) i_28_4 rfl ?_
                refine x0 (r := (6, [some (.ref 119), some (.int (zI 4))], [.ref 119, .int (zI 4)], es)) i_28_5 rfl ?_
                refine x_alen (p := 55) (n := 8) i_28_6 hs_es rfl ?_
                refine x_cmpF i_28_7 (by unfold i32 iLO iHI; omega) (by unfold i32 iLO iHI; omega) rfl (by simp only [zC, cR]; omega) ?_
                refine x0 (r := (11, [some (.ref 119), some (.int (zI 4))], [.ref 119], es)) i_28_10 rfl ?_
                refine x0 (r := (12, [some (.ref 119), some (.int (zI 4))], [.int (zI 4), .ref 119], es)) i_28_11 rfl ?_
                refine x_iald (p := 55) i_28_12 hs_es rfl (by unfold i32 iLO iHI; omega) (by omega) (by omega) ?_
                rw [show (gA es 55 (Int.toNat 4)).toInt = 0 from by exact (hpo _ (by omega))]
                refine x0 (r := (17, [some (.ref 119), some (.int (zI 4))], [.int (zI 0)], es)) i_28_13 rfl ?_
                refine x_ret (v := some (.int (zI 0))) i_28_17 rfl (fun _ => rfl) rfl rfl rfl ?_
                show aW _ _ _ _ _ _ (48, [some (.ref 132), some (.int (zI ra)), some (.int (zI du)), some (.int (zI 0)), none], [.int (zI 0)], es)
                refine x0 (r := (52, [some (.ref 132), some (.int (zI ra)), some (.int (zI du)), some (.int (zI 0)), none], [.int (zI 0)], es)) i_55_48 rfl ?_
                refine x0 (r := (54, [some (.ref 132), some (.int (zI ra)), some (.int (zI du)), some (.int (zI 0)), some (.int (zI 0))], [], es)) i_55_52 rfl ?_
                refine x0 (r := (56, [some (.ref 132), some (.int (zI ra)), some (.int (zI du)), some (.int (zI 0)), some (.int (zI 0))], [.int (zI 0)], es)) i_55_54 rfl ?_
                refine x_ifT i_55_56 (by unfold i32 iLO iHI; omega) rfl (by simp only [zC, cR]; omega) ?_
                refine x0 (r := (72, [some (.ref 132), some (.int (zI ra)), some (.int (zI du)), some (.int (zI 0)), some (.int (zI 0))], [.int (zI 0)], es)) i_55_71 rfl ?_
                refine x_ifT i_55_72 (by unfold i32 iLO iHI; omega) rfl (by simp only [zC, cR]; omega) ?_
                refine x0 (r := (80, [some (.ref 132), some (.int (zI ra)), some (.int (zI du)), some (.int (zI 0)), some (.int (zI 0))], [.int (zI (-1))], es)) i_55_79 (by rfl) ?_
                refine x_ret (v := some (.int (zI (-1)))) i_55_80 rfl (fun _ => rfl) rfl rfl rfl ?_
                show aW _ _ _ _ _ _ (212, [some (.ref 132), some (.int (zI bk)), some (.int (zI n)), some (.int (zI kd)), some (.int (zI mo)), some (.int (zI sd)), some (.int (zI (mo % 36))), some (.int (zI fi)), some (.int (zI fr)), some (.int (zI ra)), some (.int (zI du)), some (.int (zI ik)), some (.int (zI ir)), some (.int (zI 1)), none], [.int (zI (-1))], es)
                refine x_ret (v := some (.int (zI (-1)))) i_54_212 rfl (fun _ => rfl) rfl rfl rfl ?_
                exact K20 c1 c9 c13 c15 c16 c18 c20
        · refine x_cmpF i_54_169 (by unfold i32 iLO iHI; omega) (by unfold i32 iLO iHI; omega) rfl (by simp only [zC, cR]; omega) ?_
          refine x0 (r := (173, [some (.ref 132), some (.int (zI bk)), some (.int (zI n)), some (.int (zI kd)), some (.int (zI mo)), some (.int (zI sd)), some (.int (zI (mo % 36))), some (.int (zI fi)), some (.int (zI fr)), some (.int (zI ra)), some (.int (zI du)), some (.int (zI ik)), some (.int (zI ir)), none, none], [.int (zI 0), .int (zI 0)], es)) i_54_172 (by rfl) ?_
          refine x0 (r := (177, [some (.ref 132), some (.int (zI bk)), some (.int (zI n)), some (.int (zI kd)), some (.int (zI mo)), some (.int (zI sd)), some (.int (zI (mo % 36))), some (.int (zI fi)), some (.int (zI fr)), some (.int (zI ra)), some (.int (zI du)), some (.int (zI ik)), some (.int (zI ir)), none, none], [.int (zI 0), .int (zI 0)], es)) i_54_173 rfl ?_
          refine x_iadd i_54_177 ?_
          show aW _ _ _ _ _ _ (178, [some (.ref 132), some (.int (zI bk)), some (.int (zI n)), some (.int (zI kd)), some (.int (zI mo)), some (.int (zI sd)), some (.int (zI (mo % 36))), some (.int (zI fi)), some (.int (zI fr)), some (.int (zI ra)), some (.int (zI du)), some (.int (zI ik)), some (.int (zI ir)), none, none], [.int (zI 0)], es)
          refine x0 (r := (180, [some (.ref 132), some (.int (zI bk)), some (.int (zI n)), some (.int (zI kd)), some (.int (zI mo)), some (.int (zI sd)), some (.int (zI (mo % 36))), some (.int (zI fi)), some (.int (zI fr)), some (.int (zI ra)), some (.int (zI du)), some (.int (zI ik)), some (.int (zI ir)), some (.int (zI 0)), none], [], es)) i_54_178 rfl ?_
          refine x0 (r := (182, [some (.ref 132), some (.int (zI bk)), some (.int (zI n)), some (.int (zI kd)), some (.int (zI mo)), some (.int (zI sd)), some (.int (zI (mo % 36))), some (.int (zI fi)), some (.int (zI fr)), some (.int (zI ra)), some (.int (zI du)), some (.int (zI ik)), some (.int (zI ir)), some (.int (zI 0)), none], [.int (zI 0)], es)) i_54_180 rfl ?_
          refine x0 (r := (183, [some (.ref 132), some (.int (zI bk)), some (.int (zI n)), some (.int (zI kd)), some (.int (zI mo)), some (.int (zI sd)), some (.int (zI (mo % 36))), some (.int (zI fi)), some (.int (zI fr)), some (.int (zI ra)), some (.int (zI du)), some (.int (zI ik)), some (.int (zI ir)), some (.int (zI 0)), none], [.int (zI 1), .int (zI 0)], es)) i_54_182 (by rfl) ?_
          refine x_cmpF i_54_183 (by unfold i32 iLO iHI; omega) (by unfold i32 iLO iHI; omega) rfl (by simp only [zC, cR]; omega) ?_
          refine x0 (r := (188, [some (.ref 132), some (.int (zI bk)), some (.int (zI n)), some (.int (zI kd)), some (.int (zI mo)), some (.int (zI sd)), some (.int (zI (mo % 36))), some (.int (zI fi)), some (.int (zI fr)), some (.int (zI ra)), some (.int (zI du)), some (.int (zI ik)), some (.int (zI ir)), some (.int (zI 0)), none], [.int (zI 0)], es)) i_54_186 rfl ?_
          refine x_ifF i_54_188 (by unfold i32 iLO iHI; omega) rfl (by simp only [zC, cR]; omega) ?_
          refine x0 (r := (192, [some (.ref 132), some (.int (zI bk)), some (.int (zI n)), some (.int (zI kd)), some (.int (zI mo)), some (.int (zI sd)), some (.int (zI (mo % 36))), some (.int (zI fi)), some (.int (zI fr)), some (.int (zI ra)), some (.int (zI du)), some (.int (zI ik)), some (.int (zI ir)), some (.int (zI 0)), none], [.int (zI 0)], es)) i_54_191 (by rfl) ?_
          refine x0 (r := (196, [some (.ref 132), some (.int (zI bk)), some (.int (zI n)), some (.int (zI kd)), some (.int (zI mo)), some (.int (zI sd)), some (.int (zI (mo % 36))), some (.int (zI fi)), some (.int (zI fr)), some (.int (zI ra)), some (.int (zI du)), some (.int (zI ik)), some (.int (zI ir)), some (.int (zI 0)), none], [.int (zI 0)], es)) i_54_192 rfl ?_
          refine x_ret (v := some (.int (zI 0))) i_54_196 rfl (fun _ => rfl) rfl rfl rfl ?_
          exact K21 c1 c9 c13 c15
theorem slip_2 {O : pOut} {d kc ks : Nat} {Q : pRes → Prop} {es : PH} {bk n kd mo sd fi fr ra du ik ir : Int} (hs : sh es) (hb : 0 ≤ bk ∧ bk ≤ 2) (hn : 0 ≤ n ∧ n ≤ 23) (hk : 0 ≤ kd ∧ kd ≤ 4) (hmo : 0 ≤ mo ∧ mo ≤ 1295) (hsd : 0 ≤ sd ∧ sd ≤ 1) (hpo : ∀ i, i < 8 → (gA es 55 i).toInt = 0) (h1 : 0 ≤ ik ∧ ik ≤ 1) (h2 : 0 ≤ ir ∧ ir ≤ 1) (h3 : -1 ≤ fi ∧ fi ≤ 1) (h4 : -40 ≤ ra ∧ ra ≤ 40) (h5 : 0 ≤ du ∧ du ≤ 5) (yes : (ik = 1 ∧ ir = 1 ∧ fi = 0 ∧ ra = du) → Q (.inl (some (.int (zI 0))), es, kc, ks)) (no : ¬ (ik = 1 ∧ ir = 1 ∧ fi = 0 ∧ ra = du) → Q (.inl (some (.int (zI (-1)))), es, kc, ks)) : aW O (d + 2) 54 kc ks Q (133, [some (.ref 132), some (.int (zI bk)), some (.int (zI n)), some (.int (zI kd)), some (.int (zI mo)), some (.int (zI sd)), some (.int (zI (mo % 36))), some (.int (zI fi)), some (.int (zI fr)), some (.int (zI ra)), some (.int (zI du)), some (.int (zI ik)), some (.int (zI ir)), none, none], [], es) :=
  s_sl133 (d := d) hs hb hn hk hmo hsd hpo h1 h2 h3 h4 h5 (fun c1 c2 c3 c4 => no (by omega)) (fun c1 c2 c3 c4 => no (by omega)) (fun c1 c2 c3 c5 => no (by omega)) (fun c1 c2 c3 c5 => no (by omega)) (fun c1 c2 c6 c7 => no (by omega)) (fun c1 c2 c6 c7 => no (by omega)) (fun c1 c2 c6 c8 => no (by omega)) (fun c1 c2 c6 c8 => no (by omega)) (fun c1 c9 c10 c11 => no (by omega)) (fun c1 c9 c10 c11 => no (by omega)) (fun c1 c9 c10 c12 => no (by omega)) (fun c1 c9 c10 c12 => no (by omega)) (fun c1 c9 c13 c14 => no (by omega)) (fun c1 c9 c13 c14 => no (by omega)) (fun c1 c9 c13 c15 c16 c17 => no (by omega)) (fun c1 c9 c13 c15 c16 c17 => no (by omega)) (fun c1 c9 c13 c15 c16 c18 c19 => no (by omega)) (fun c1 c9 c13 c15 c16 c18 c19 => no (by omega)) (fun c1 c9 c13 c15 c16 c18 c20 => no (by omega)) (fun c1 c9 c13 c15 c16 c18 c20 => no (by omega)) (fun c1 c9 c13 c15 => yes (by omega))
theorem slip_sp {O : pOut} {d kc ks : Nat} {Q : pRes → Prop} {es : PH} {bk n kd mo sd : Int} (hs : sh es) (hb : 0 ≤ bk ∧ bk ≤ 2) (hn : 0 ≤ n ∧ n ≤ 23) (hk : 0 ≤ kd ∧ kd ≤ 4) (hmo : 0 ≤ mo ∧ mo ≤ 1295) (hsd : 0 ≤ sd ∧ sd ≤ 1) (hpo : ∀ i, i < 8 → (gA es 55 i).toInt = 0) (hr2 : -40 ≤ (gA es 14 ((((bk * 24) + n) * 4) + 2).toNat).toInt ∧ (gA es 14 ((((bk * 24) + n) * 4) + 2).toNat).toInt ≤ 40) (hr3 : -40 ≤ (gA es 14 ((((bk * 24) + n) * 4) + 3).toNat).toInt ∧ (gA es 14 ((((bk * 24) + n) * 4) + 3).toNat).toInt ≤ 40) (K : ∀ v, slipP bk n kd mo sd es v → Q (.inl (some (.int (zI v))), es, kc, ks)) : aW O (d + 2) 54 kc ks Q (0, [some (.ref 132), some (.int (zI bk)), some (.int (zI n)), some (.int (zI kd)), some (.int (zI mo)), some (.int (zI sd)), none, none, none, none, none, none, none, none, none], [], es) := by
  obtain ⟨wy, hwy⟩ : ∃ wy : Int, (gA es 54 bk.toNat).toInt = wy := ⟨_, rfl⟩
  obtain ⟨due, hdue⟩ : ∃ due : Int, due = if wy = 1 ∧ sd = 1 then 5 - mo % 36 / 6 else mo % 36 / 6 := ⟨_, rfl⟩
  have hd1 : ¬ (wy = 1 ∧ sd = 1) ∨ due = 5 - mo % 36 / 6 := by
    by_cases h : wy = 1 ∧ sd = 1
    · exact Or.inr (by rw [hdue, if_pos h])
    · exact Or.inl h
  have hd2 : (wy = 1 ∧ sd = 1) ∨ due = mo % 36 / 6 := by
    by_cases h : wy = 1 ∧ sd = 1
    · exact Or.inl h
    · exact Or.inr (by rw [hdue, if_neg h])
  have yes : ((gA es 14 ((((bk * 24) + n) * 4) + 0).toNat).toInt = kd ∧ ((gA es 14 ((((bk * 24) + n) * 4) + 1).toNat).toInt = -1 ∨ (gA es 14 ((((bk * 24) + n) * 4) + 1).toNat).toInt = mo / 36 % 6) ∧ (gA es 14 ((((bk * 24) + n) * 4) + 2).toNat).toInt = mo % 36 % 6 ∧ (gA es 14 ((((bk * 24) + n) * 4) + 3).toNat).toInt = due) → Q (.inl (some (.int (zI 0))), es, kc, ks) := fun h => K 0 (Or.inl ⟨rfl, by unfold slipM; rw [hwy, ← hdue]; exact h⟩)
  have no : ¬ ((gA es 14 ((((bk * 24) + n) * 4) + 0).toNat).toInt = kd ∧ ((gA es 14 ((((bk * 24) + n) * 4) + 1).toNat).toInt = -1 ∨ (gA es 14 ((((bk * 24) + n) * 4) + 1).toNat).toInt = mo / 36 % 6) ∧ (gA es 14 ((((bk * 24) + n) * 4) + 2).toNat).toInt = mo % 36 % 6 ∧ (gA es 14 ((((bk * 24) + n) * 4) + 3).toNat).toInt = due) → Q (.inl (some (.int (zI (-1)))), es, kc, ks) := fun h => K (-1) (Or.inr ⟨rfl, by unfold slipM; rw [hwy, ← hdue]; exact h⟩)
  have hra : ∀ v : Int, v = (gA es 14 ((((bk * 24) + n) * 4) + 3).toNat).toInt → -40 ≤ v ∧ v ≤ 40 := fun v e => by rw [e]; exact hr3
  exact s_sl0 (d := d + 0) hs hb hn hk hmo hsd hpo hwy hr2 hr3 (fun v1 e_v1 c2 => no (by omega)) (fun v1 e_v1 c2 c3 v4 e_v4 v5 e_v5 c6 v7 e_v7 c8 c9 => slip_2 (d := d + 0) hs hb hn hk hmo hsd hpo ⟨by omega, by omega⟩ ⟨by omega, by omega⟩ ⟨by omega, by omega⟩ (hra _ (by omega)) ⟨by omega, by omega⟩ (fun h => yes (by omega)) (fun h => no (by omega))) (fun v1 e_v1 c2 c3 v4 e_v4 v5 e_v5 c6 v7 e_v7 c8 c9 c10 => slip_2 (d := d + 0) hs hb hn hk hmo hsd hpo ⟨by omega, by omega⟩ ⟨by omega, by omega⟩ ⟨by omega, by omega⟩ (hra _ (by omega)) ⟨by omega, by omega⟩ (fun h => yes (by omega)) (fun h => no (by omega))) (fun v1 e_v1 c2 c3 v4 e_v4 v5 e_v5 c6 v7 e_v7 c8 c9 c10 => slip_2 (d := d + 0) hs hb hn hk hmo hsd hpo ⟨by omega, by omega⟩ ⟨by omega, by omega⟩ ⟨by omega, by omega⟩ (hra _ (by omega)) ⟨by omega, by omega⟩ (fun h => yes (by omega)) (fun h => no (by omega))) (fun v1 e_v1 c2 c3 v4 e_v4 v5 e_v5 c6 v7 e_v7 c8 c11 => slip_2 (d := d + 0) hs hb hn hk hmo hsd hpo ⟨by omega, by omega⟩ ⟨by omega, by omega⟩ ⟨by omega, by omega⟩ (hra _ (by omega)) ⟨by omega, by omega⟩ (fun h => yes (by omega)) (fun h => no (by omega))) (fun v1 e_v1 c2 c3 v4 e_v4 v5 e_v5 c6 v7 e_v7 c8 c11 c12 => slip_2 (d := d + 0) hs hb hn hk hmo hsd hpo ⟨by omega, by omega⟩ ⟨by omega, by omega⟩ ⟨by omega, by omega⟩ (hra _ (by omega)) ⟨by omega, by omega⟩ (fun h => yes (by omega)) (fun h => no (by omega))) (fun v1 e_v1 c2 c3 v4 e_v4 v5 e_v5 c6 v7 e_v7 c8 c11 c12 => slip_2 (d := d + 0) hs hb hn hk hmo hsd hpo ⟨by omega, by omega⟩ ⟨by omega, by omega⟩ ⟨by omega, by omega⟩ (hra _ (by omega)) ⟨by omega, by omega⟩ (fun h => yes (by omega)) (fun h => no (by omega))) (fun v1 e_v1 c2 c3 v4 e_v4 v5 e_v5 c6 c13 v14 e_v14 c15 c16 => slip_2 (d := d + 0) hs hb hn hk hmo hsd hpo ⟨by omega, by omega⟩ ⟨by omega, by omega⟩ ⟨by omega, by omega⟩ (hra _ (by omega)) ⟨by omega, by omega⟩ (fun h => yes (by omega)) (fun h => no (by omega))) (fun v1 e_v1 c2 c3 v4 e_v4 v5 e_v5 c6 c13 v14 e_v14 c15 c16 c17 => slip_2 (d := d + 0) hs hb hn hk hmo hsd hpo ⟨by omega, by omega⟩ ⟨by omega, by omega⟩ ⟨by omega, by omega⟩ (hra _ (by omega)) ⟨by omega, by omega⟩ (fun h => yes (by omega)) (fun h => no (by omega))) (fun v1 e_v1 c2 c3 v4 e_v4 v5 e_v5 c6 c13 v14 e_v14 c15 c16 c17 => slip_2 (d := d + 0) hs hb hn hk hmo hsd hpo ⟨by omega, by omega⟩ ⟨by omega, by omega⟩ ⟨by omega, by omega⟩ (hra _ (by omega)) ⟨by omega, by omega⟩ (fun h => yes (by omega)) (fun h => no (by omega))) (fun v1 e_v1 c2 c3 v4 e_v4 v5 e_v5 c6 c13 v14 e_v14 c15 c18 => slip_2 (d := d + 0) hs hb hn hk hmo hsd hpo ⟨by omega, by omega⟩ ⟨by omega, by omega⟩ ⟨by omega, by omega⟩ (hra _ (by omega)) ⟨by omega, by omega⟩ (fun h => yes (by omega)) (fun h => no (by omega))) (fun v1 e_v1 c2 c3 v4 e_v4 v5 e_v5 c6 c13 v14 e_v14 c15 c18 c19 => slip_2 (d := d + 0) hs hb hn hk hmo hsd hpo ⟨by omega, by omega⟩ ⟨by omega, by omega⟩ ⟨by omega, by omega⟩ (hra _ (by omega)) ⟨by omega, by omega⟩ (fun h => yes (by omega)) (fun h => no (by omega))) (fun v1 e_v1 c2 c3 v4 e_v4 v5 e_v5 c6 c13 v14 e_v14 c15 c18 c19 => slip_2 (d := d + 0) hs hb hn hk hmo hsd hpo ⟨by omega, by omega⟩ ⟨by omega, by omega⟩ ⟨by omega, by omega⟩ (hra _ (by omega)) ⟨by omega, by omega⟩ (fun h => yes (by omega)) (fun h => no (by omega))) (fun v1 e_v1 c2 c3 v4 e_v4 v5 e_v5 c6 c13 v20 e_v20 c21 c22 => slip_2 (d := d + 0) hs hb hn hk hmo hsd hpo ⟨by omega, by omega⟩ ⟨by omega, by omega⟩ ⟨by omega, by omega⟩ (hra _ (by omega)) ⟨by omega, by omega⟩ (fun h => yes (by omega)) (fun h => no (by omega))) (fun v1 e_v1 c2 c3 v4 e_v4 v5 e_v5 c6 c13 v20 e_v20 c21 c22 c23 => slip_2 (d := d + 0) hs hb hn hk hmo hsd hpo ⟨by omega, by omega⟩ ⟨by omega, by omega⟩ ⟨by omega, by omega⟩ (hra _ (by omega)) ⟨by omega, by omega⟩ (fun h => yes (by omega)) (fun h => no (by omega))) (fun v1 e_v1 c2 c3 v4 e_v4 v5 e_v5 c6 c13 v20 e_v20 c21 c22 c23 => slip_2 (d := d + 0) hs hb hn hk hmo hsd hpo ⟨by omega, by omega⟩ ⟨by omega, by omega⟩ ⟨by omega, by omega⟩ (hra _ (by omega)) ⟨by omega, by omega⟩ (fun h => yes (by omega)) (fun h => no (by omega))) (fun v1 e_v1 c2 c3 v4 e_v4 v5 e_v5 c6 c13 v20 e_v20 c21 c24 => slip_2 (d := d + 0) hs hb hn hk hmo hsd hpo ⟨by omega, by omega⟩ ⟨by omega, by omega⟩ ⟨by omega, by omega⟩ (hra _ (by omega)) ⟨by omega, by omega⟩ (fun h => yes (by omega)) (fun h => no (by omega))) (fun v1 e_v1 c2 c3 v4 e_v4 v5 e_v5 c6 c13 v20 e_v20 c21 c24 c25 => slip_2 (d := d + 0) hs hb hn hk hmo hsd hpo ⟨by omega, by omega⟩ ⟨by omega, by omega⟩ ⟨by omega, by omega⟩ (hra _ (by omega)) ⟨by omega, by omega⟩ (fun h => yes (by omega)) (fun h => no (by omega))) (fun v1 e_v1 c2 c3 v4 e_v4 v5 e_v5 c6 c13 v20 e_v20 c21 c24 c25 => slip_2 (d := d + 0) hs hb hn hk hmo hsd hpo ⟨by omega, by omega⟩ ⟨by omega, by omega⟩ ⟨by omega, by omega⟩ (hra _ (by omega)) ⟨by omega, by omega⟩ (fun h => yes (by omega)) (fun h => no (by omega))) (fun v1 e_v1 c2 c3 => no (by omega))
