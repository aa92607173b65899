/-! SEGMENTS of methods by hand, printed by wip/ai2/hand10.py -/
theorem i_246_0 : iRow 246 0 = some (.iconst 0, 0, 0, 0, (some (Jvm.ClassFile.FieldType.int))) := rfl
theorem i_246_1 : iRow 246 1 = some (.istore_n 1, 0, 0, 0, (some (Jvm.ClassFile.FieldType.int))) := rfl
theorem i_246_2 : iRow 246 2 = some (.iconst 0, 0, 0, 0, (some (Jvm.ClassFile.FieldType.int))) := rfl
theorem i_246_3 : iRow 246 3 = some (.istore_n 2, 0, 0, 0, (some (Jvm.ClassFile.FieldType.int))) := rfl
theorem i_246_4 : iRow 246 4 = some (.iload_n 2, 0, 0, 0, (some (Jvm.ClassFile.FieldType.int))) := rfl
theorem i_246_5 : iRow 246 5 = some (.aload_n 0, 0, 0, 0, (some (Jvm.ClassFile.FieldType.int))) := rfl
theorem i_246_6 : iRow 246 6 = some (.getfield 13, 165, 12, 1, (some (Jvm.ClassFile.FieldType.int))) := rfl
theorem i_246_9 : iRow 246 9 = some (.sipush 443, 0, 0, 0, (some (Jvm.ClassFile.FieldType.int))) := rfl
theorem i_246_12 : iRow 246 12 = some (.iaload, 0, 0, 0, (some (Jvm.ClassFile.FieldType.int))) := rfl
theorem i_246_13 : iRow 246 13 = some (.if_icmp .ge 63, 0, 0, 0, (some (Jvm.ClassFile.FieldType.int))) := rfl
theorem i_246_16 : iRow 246 16 = some (.sipush 444, 0, 0, 0, (some (Jvm.ClassFile.FieldType.int))) := rfl
theorem i_246_19 : iRow 246 19 = some (.iconst 4, 0, 0, 0, (some (Jvm.ClassFile.FieldType.int))) := rfl
theorem i_246_20 : iRow 246 20 = some (.iload_n 2, 0, 0, 0, (some (Jvm.ClassFile.FieldType.int))) := rfl
theorem i_246_21 : iRow 246 21 = some (.imul, 0, 0, 0, (some (Jvm.ClassFile.FieldType.int))) := rfl
theorem i_246_22 : iRow 246 22 = some (.iadd, 0, 0, 0, (some (Jvm.ClassFile.FieldType.int))) := rfl
theorem i_246_23 : iRow 246 23 = some (.istore_n 3, 0, 0, 0, (some (Jvm.ClassFile.FieldType.int))) := rfl
theorem i_246_24 : iRow 246 24 = some (.aload_n 0, 0, 0, 0, (some (Jvm.ClassFile.FieldType.int))) := rfl
theorem i_246_25 : iRow 246 25 = some (.iload_n 3, 0, 0, 0, (some (Jvm.ClassFile.FieldType.int))) := rfl
theorem i_246_26 : iRow 246 26 = some (.invokevirtual 239, 338, 247, 1, (some (Jvm.ClassFile.FieldType.int))) := rfl
theorem i_246_29 : iRow 246 29 = some (.ifCond .eq 41, 0, 0, 0, (some (Jvm.ClassFile.FieldType.int))) := rfl
theorem i_246_32 : iRow 246 32 = some (.iload_n 1, 0, 0, 0, (some (Jvm.ClassFile.FieldType.int))) := rfl
theorem i_246_33 : iRow 246 33 = some (.aload_n 0, 0, 0, 0, (some (Jvm.ClassFile.FieldType.int))) := rfl
theorem i_246_34 : iRow 246 34 = some (.getfield 13, 165, 12, 1, (some (Jvm.ClassFile.FieldType.int))) := rfl
theorem i_246_37 : iRow 246 37 = some (.iload_n 3, 0, 0, 0, (some (Jvm.ClassFile.FieldType.int))) := rfl
theorem i_246_38 : iRow 246 38 = some (.iaload, 0, 0, 0, (some (Jvm.ClassFile.FieldType.int))) := rfl
theorem i_246_39 : iRow 246 39 = some (.aload_n 0, 0, 0, 0, (some (Jvm.ClassFile.FieldType.int))) := rfl
theorem i_246_40 : iRow 246 40 = some (.getfield 13, 165, 12, 1, (some (Jvm.ClassFile.FieldType.int))) := rfl
theorem i_246_43 : iRow 246 43 = some (.iload_n 3, 0, 0, 0, (some (Jvm.ClassFile.FieldType.int))) := rfl
theorem i_246_44 : iRow 246 44 = some (.iconst 1, 0, 0, 0, (some (Jvm.ClassFile.FieldType.int))) := rfl
theorem i_246_45 : iRow 246 45 = some (.iadd, 0, 0, 0, (some (Jvm.ClassFile.FieldType.int))) := rfl
theorem i_246_46 : iRow 246 46 = some (.iaload, 0, 0, 0, (some (Jvm.ClassFile.FieldType.int))) := rfl
theorem i_246_47 : iRow 246 47 = some (.ifCond .ge 7, 0, 0, 0, (some (Jvm.ClassFile.FieldType.int))) := rfl
theorem i_246_50 : iRow 246 50 = some (.iconst 1, 0, 0, 0, (some (Jvm.ClassFile.FieldType.int))) := rfl
theorem i_246_51 : iRow 246 51 = some (.goto 16, 0, 0, 0, (some (Jvm.ClassFile.FieldType.int))) := rfl
theorem i_246_54 : iRow 246 54 = some (.aload_n 0, 0, 0, 0, (some (Jvm.ClassFile.FieldType.int))) := rfl
theorem i_246_55 : iRow 246 55 = some (.getfield 33, 178, 12, 14, (some (Jvm.ClassFile.FieldType.int))) := rfl
theorem i_246_58 : iRow 246 58 = some (.aload_n 0, 0, 0, 0, (some (Jvm.ClassFile.FieldType.int))) := rfl
theorem i_246_59 : iRow 246 59 = some (.getfield 13, 165, 12, 1, (some (Jvm.ClassFile.FieldType.int))) := rfl
theorem i_246_62 : iRow 246 62 = some (.iload_n 3, 0, 0, 0, (some (Jvm.ClassFile.FieldType.int))) := rfl
theorem i_246_63 : iRow 246 63 = some (.iconst 1, 0, 0, 0, (some (Jvm.ClassFile.FieldType.int))) := rfl
theorem i_246_64 : iRow 246 64 = some (.iadd, 0, 0, 0, (some (Jvm.ClassFile.FieldType.int))) := rfl
theorem i_246_65 : iRow 246 65 = some (.iaload, 0, 0, 0, (some (Jvm.ClassFile.FieldType.int))) := rfl
theorem i_246_66 : iRow 246 66 = some (.iaload, 0, 0, 0, (some (Jvm.ClassFile.FieldType.int))) := rfl
theorem i_246_67 : iRow 246 67 = some (.imul, 0, 0, 0, (some (Jvm.ClassFile.FieldType.int))) := rfl
theorem i_246_68 : iRow 246 68 = some (.iadd, 0, 0, 0, (some (Jvm.ClassFile.FieldType.int))) := rfl
theorem i_246_69 : iRow 246 69 = some (.istore_n 1, 0, 0, 0, (some (Jvm.ClassFile.FieldType.int))) := rfl
theorem i_246_70 : iRow 246 70 = some (.iinc 2 1, 0, 0, 0, (some (Jvm.ClassFile.FieldType.int))) := rfl
theorem i_246_73 : iRow 246 73 = some (.goto (-69), 0, 0, 0, (some (Jvm.ClassFile.FieldType.int))) := rfl
theorem i_246_76 : iRow 246 76 = some (.iload_n 1, 0, 0, 0, (some (Jvm.ClassFile.FieldType.int))) := rfl
theorem i_246_77 : iRow 246 77 = some (.ireturn, 0, 0, 0, (some (Jvm.ClassFile.FieldType.int))) := rfl
theorem i_247_0 : iRow 247 0 = some (.iconst 0, 0, 0, 0, (some (Jvm.ClassFile.FieldType.boolean))) := rfl
theorem i_247_1 : iRow 247 1 = some (.istore_n 2, 0, 0, 0, (some (Jvm.ClassFile.FieldType.boolean))) := rfl
theorem i_247_2 : iRow 247 2 = some (.aload_n 0, 0, 0, 0, (some (Jvm.ClassFile.FieldType.boolean))) := rfl
theorem i_247_3 : iRow 247 3 = some (.getfield 13, 165, 12, 1, (some (Jvm.ClassFile.FieldType.boolean))) := rfl
theorem i_247_6 : iRow 247 6 = some (.iload_n 1, 0, 0, 0, (some (Jvm.ClassFile.FieldType.boolean))) := rfl
theorem i_247_7 : iRow 247 7 = some (.iconst 2, 0, 0, 0, (some (Jvm.ClassFile.FieldType.boolean))) := rfl
theorem i_247_8 : iRow 247 8 = some (.iadd, 0, 0, 0, (some (Jvm.ClassFile.FieldType.boolean))) := rfl
theorem i_247_9 : iRow 247 9 = some (.iaload, 0, 0, 0, (some (Jvm.ClassFile.FieldType.boolean))) := rfl
theorem i_247_10 : iRow 247 10 = some (.istore_n 3, 0, 0, 0, (some (Jvm.ClassFile.FieldType.boolean))) := rfl
theorem i_247_11 : iRow 247 11 = some (.iload_n 3, 0, 0, 0, (some (Jvm.ClassFile.FieldType.boolean))) := rfl
theorem i_247_12 : iRow 247 12 = some (.aload_n 0, 0, 0, 0, (some (Jvm.ClassFile.FieldType.boolean))) := rfl
theorem i_247_13 : iRow 247 13 = some (.getfield 13, 165, 12, 1, (some (Jvm.ClassFile.FieldType.boolean))) := rfl
theorem i_247_16 : iRow 247 16 = some (.iload_n 1, 0, 0, 0, (some (Jvm.ClassFile.FieldType.boolean))) := rfl
theorem i_247_17 : iRow 247 17 = some (.iconst 3, 0, 0, 0, (some (Jvm.ClassFile.FieldType.boolean))) := rfl
theorem i_247_18 : iRow 247 18 = some (.iadd, 0, 0, 0, (some (Jvm.ClassFile.FieldType.boolean))) := rfl
theorem i_247_19 : iRow 247 19 = some (.iaload, 0, 0, 0, (some (Jvm.ClassFile.FieldType.boolean))) := rfl
theorem i_247_20 : iRow 247 20 = some (.if_icmp .ge 238, 0, 0, 0, (some (Jvm.ClassFile.FieldType.boolean))) := rfl
theorem i_247_23 : iRow 247 23 = some (.aload_n 0, 0, 0, 0, (some (Jvm.ClassFile.FieldType.boolean))) := rfl
theorem i_247_24 : iRow 247 24 = some (.getfield 13, 165, 12, 1, (some (Jvm.ClassFile.FieldType.boolean))) := rfl
theorem i_247_27 : iRow 247 27 = some (.sipush 484, 0, 0, 0, (some (Jvm.ClassFile.FieldType.boolean))) := rfl
theorem i_247_30 : iRow 247 30 = some (.iconst 2, 0, 0, 0, (some (Jvm.ClassFile.FieldType.boolean))) := rfl
theorem i_247_31 : iRow 247 31 = some (.iload_n 3, 0, 0, 0, (some (Jvm.ClassFile.FieldType.boolean))) := rfl
theorem i_247_32 : iRow 247 32 = some (.imul, 0, 0, 0, (some (Jvm.ClassFile.FieldType.boolean))) := rfl
theorem i_247_33 : iRow 247 33 = some (.iadd, 0, 0, 0, (some (Jvm.ClassFile.FieldType.boolean))) := rfl
theorem i_247_34 : iRow 247 34 = some (.iaload, 0, 0, 0, (some (Jvm.ClassFile.FieldType.boolean))) := rfl
theorem i_247_35 : iRow 247 35 = some (.istore 4, 0, 0, 0, (some (Jvm.ClassFile.FieldType.boolean))) := rfl
theorem i_247_37 : iRow 247 37 = some (.iload 4, 0, 0, 0, (some (Jvm.ClassFile.FieldType.boolean))) := rfl
theorem i_247_39 : iRow 247 39 = some (.bipush 6, 0, 0, 0, (some (Jvm.ClassFile.FieldType.boolean))) := rfl
theorem i_247_41 : iRow 247 41 = some (.if_icmp .gt 46, 0, 0, 0, (some (Jvm.ClassFile.FieldType.boolean))) := rfl
theorem i_247_44 : iRow 247 44 = some (.aload_n 0, 0, 0, 0, (some (Jvm.ClassFile.FieldType.boolean))) := rfl
theorem i_247_45 : iRow 247 45 = some (.getfield 36, 179, 12, 15, (some (Jvm.ClassFile.FieldType.boolean))) := rfl
theorem i_247_48 : iRow 247 48 = some (.iload_n 2, 0, 0, 0, (some (Jvm.ClassFile.FieldType.boolean))) := rfl
theorem i_247_49 : iRow 247 49 = some (.iload 4, 0, 0, 0, (some (Jvm.ClassFile.FieldType.boolean))) := rfl
theorem i_247_51 : iRow 247 51 = some (.bipush 6, 0, 0, 0, (some (Jvm.ClassFile.FieldType.boolean))) := rfl
theorem i_247_53 : iRow 247 53 = some (.if_icmp .ne 20, 0, 0, 0, (some (Jvm.ClassFile.FieldType.boolean))) := rfl
theorem i_247_56 : iRow 247 56 = some (.aload_n 0, 0, 0, 0, (some (Jvm.ClassFile.FieldType.boolean))) := rfl
theorem i_247_57 : iRow 247 57 = some (.getfield 13, 165, 12, 1, (some (Jvm.ClassFile.FieldType.boolean))) := rfl
theorem i_247_60 : iRow 247 60 = some (.sipush 484, 0, 0, 0, (some (Jvm.ClassFile.FieldType.boolean))) := rfl
theorem i_247_63 : iRow 247 63 = some (.iconst 2, 0, 0, 0, (some (Jvm.ClassFile.FieldType.boolean))) := rfl
theorem i_247_64 : iRow 247 64 = some (.iload_n 3, 0, 0, 0, (some (Jvm.ClassFile.FieldType.boolean))) := rfl
theorem i_247_65 : iRow 247 65 = some (.imul, 0, 0, 0, (some (Jvm.ClassFile.FieldType.boolean))) := rfl
theorem i_247_66 : iRow 247 66 = some (.iadd, 0, 0, 0, (some (Jvm.ClassFile.FieldType.boolean))) := rfl
theorem i_247_67 : iRow 247 67 = some (.iconst 1, 0, 0, 0, (some (Jvm.ClassFile.FieldType.boolean))) := rfl
theorem i_247_68 : iRow 247 68 = some (.iadd, 0, 0, 0, (some (Jvm.ClassFile.FieldType.boolean))) := rfl
theorem i_247_69 : iRow 247 69 = some (.iaload, 0, 0, 0, (some (Jvm.ClassFile.FieldType.boolean))) := rfl
theorem i_247_70 : iRow 247 70 = some (.goto 10, 0, 0, 0, (some (Jvm.ClassFile.FieldType.boolean))) := rfl
theorem i_247_73 : iRow 247 73 = some (.aload_n 0, 0, 0, 0, (some (Jvm.ClassFile.FieldType.boolean))) := rfl
theorem i_247_74 : iRow 247 74 = some (.getfield 33, 178, 12, 14, (some (Jvm.ClassFile.FieldType.boolean))) := rfl
theorem i_247_77 : iRow 247 77 = some (.iload 4, 0, 0, 0, (some (Jvm.ClassFile.FieldType.boolean))) := rfl
theorem i_247_79 : iRow 247 79 = some (.iaload, 0, 0, 0, (some (Jvm.ClassFile.FieldType.boolean))) := rfl
theorem i_247_80 : iRow 247 80 = some (.iastore, 0, 0, 0, (some (Jvm.ClassFile.FieldType.boolean))) := rfl
theorem i_247_81 : iRow 247 81 = some (.iinc 2 1, 0, 0, 0, (some (Jvm.ClassFile.FieldType.boolean))) := rfl
theorem i_247_84 : iRow 247 84 = some (.goto 168, 0, 0, 0, (some (Jvm.ClassFile.FieldType.boolean))) := rfl
theorem i_247_87 : iRow 247 87 = some (.iload 4, 0, 0, 0, (some (Jvm.ClassFile.FieldType.boolean))) := rfl
theorem i_247_89 : iRow 247 89 = some (.bipush 10, 0, 0, 0, (some (Jvm.ClassFile.FieldType.boolean))) := rfl
theorem i_247_91 : iRow 247 91 = some (.if_icmp .ne 24, 0, 0, 0, (some (Jvm.ClassFile.FieldType.boolean))) := rfl
theorem i_247_94 : iRow 247 94 = some (.aload_n 0, 0, 0, 0, (some (Jvm.ClassFile.FieldType.boolean))) := rfl
theorem i_247_95 : iRow 247 95 = some (.getfield 36, 179, 12, 15, (some (Jvm.ClassFile.FieldType.boolean))) := rfl
theorem i_247_98 : iRow 247 98 = some (.iload_n 2, 0, 0, 0, (some (Jvm.ClassFile.FieldType.boolean))) := rfl
theorem i_247_99 : iRow 247 99 = some (.iconst 1, 0, 0, 0, (some (Jvm.ClassFile.FieldType.boolean))) := rfl
theorem i_247_100 : iRow 247 100 = some (.isub, 0, 0, 0, (some (Jvm.ClassFile.FieldType.boolean))) := rfl
theorem i_247_101 : iRow 247 101 = some (.iconst 1, 0, 0, 0, (some (Jvm.ClassFile.FieldType.boolean))) := rfl
theorem i_247_102 : iRow 247 102 = some (.aload_n 0, 0, 0, 0, (some (Jvm.ClassFile.FieldType.boolean))) := rfl
theorem i_247_103 : iRow 247 103 = some (.getfield 36, 179, 12, 15, (some (Jvm.ClassFile.FieldType.boolean))) := rfl
theorem i_247_106 : iRow 247 106 = some (.iload_n 2, 0, 0, 0, (some (Jvm.ClassFile.FieldType.boolean))) := rfl
theorem i_247_107 : iRow 247 107 = some (.iconst 1, 0, 0, 0, (some (Jvm.ClassFile.FieldType.boolean))) := rfl
theorem i_247_108 : iRow 247 108 = some (.isub, 0, 0, 0, (some (Jvm.ClassFile.FieldType.boolean))) := rfl
theorem i_247_109 : iRow 247 109 = some (.iaload, 0, 0, 0, (some (Jvm.ClassFile.FieldType.boolean))) := rfl
theorem i_247_110 : iRow 247 110 = some (.isub, 0, 0, 0, (some (Jvm.ClassFile.FieldType.boolean))) := rfl
theorem i_247_111 : iRow 247 111 = some (.iastore, 0, 0, 0, (some (Jvm.ClassFile.FieldType.boolean))) := rfl
theorem i_247_112 : iRow 247 112 = some (.goto 140, 0, 0, 0, (some (Jvm.ClassFile.FieldType.boolean))) := rfl
theorem i_247_115 : iRow 247 115 = some (.iinc 2 (-1), 0, 0, 0, (some (Jvm.ClassFile.FieldType.boolean))) := rfl
theorem i_247_118 : iRow 247 118 = some (.aload_n 0, 0, 0, 0, (some (Jvm.ClassFile.FieldType.boolean))) := rfl
theorem i_247_119 : iRow 247 119 = some (.getfield 36, 179, 12, 15, (some (Jvm.ClassFile.FieldType.boolean))) := rfl
theorem i_247_122 : iRow 247 122 = some (.iload_n 2, 0, 0, 0, (some (Jvm.ClassFile.FieldType.boolean))) := rfl
theorem i_247_123 : iRow 247 123 = some (.iconst 1, 0, 0, 0, (some (Jvm.ClassFile.FieldType.boolean))) := rfl
theorem i_247_124 : iRow 247 124 = some (.isub, 0, 0, 0, (some (Jvm.ClassFile.FieldType.boolean))) := rfl
theorem i_247_125 : iRow 247 125 = some (.iaload, 0, 0, 0, (some (Jvm.ClassFile.FieldType.boolean))) := rfl
theorem i_247_126 : iRow 247 126 = some (.istore 5, 0, 0, 0, (some (Jvm.ClassFile.FieldType.boolean))) := rfl
theorem i_247_128 : iRow 247 128 = some (.aload_n 0, 0, 0, 0, (some (Jvm.ClassFile.FieldType.boolean))) := rfl
theorem i_247_129 : iRow 247 129 = some (.getfield 36, 179, 12, 15, (some (Jvm.ClassFile.FieldType.boolean))) := rfl
theorem i_247_132 : iRow 247 132 = some (.iload_n 2, 0, 0, 0, (some (Jvm.ClassFile.FieldType.boolean))) := rfl
theorem i_247_133 : iRow 247 133 = some (.iaload, 0, 0, 0, (some (Jvm.ClassFile.FieldType.boolean))) := rfl
theorem i_247_134 : iRow 247 134 = some (.istore 6, 0, 0, 0, (some (Jvm.ClassFile.FieldType.boolean))) := rfl
theorem i_247_136 : iRow 247 136 = some (.iload 4, 0, 0, 0, (some (Jvm.ClassFile.FieldType.boolean))) := rfl
theorem i_247_138 : iRow 247 138 = some (.bipush 8, 0, 0, 0, (some (Jvm.ClassFile.FieldType.boolean))) := rfl
theorem i_247_140 : iRow 247 140 = some (.if_icmp .ne 18, 0, 0, 0, (some (Jvm.ClassFile.FieldType.boolean))) := rfl
theorem i_247_143 : iRow 247 143 = some (.iload 5, 0, 0, 0, (some (Jvm.ClassFile.FieldType.boolean))) := rfl
theorem i_247_145 : iRow 247 145 = some (.iload 6, 0, 0, 0, (some (Jvm.ClassFile.FieldType.boolean))) := rfl
theorem i_247_147 : iRow 247 147 = some (.if_icmp .ge 7, 0, 0, 0, (some (Jvm.ClassFile.FieldType.boolean))) := rfl
theorem i_247_150 : iRow 247 150 = some (.iconst 1, 0, 0, 0, (some (Jvm.ClassFile.FieldType.boolean))) := rfl
theorem i_247_151 : iRow 247 151 = some (.goto 66, 0, 0, 0, (some (Jvm.ClassFile.FieldType.boolean))) := rfl
theorem i_247_154 : iRow 247 154 = some (.iconst 0, 0, 0, 0, (some (Jvm.ClassFile.FieldType.boolean))) := rfl
theorem i_247_155 : iRow 247 155 = some (.goto 62, 0, 0, 0, (some (Jvm.ClassFile.FieldType.boolean))) := rfl
theorem i_247_158 : iRow 247 158 = some (.iload 4, 0, 0, 0, (some (Jvm.ClassFile.FieldType.boolean))) := rfl
theorem i_247_160 : iRow 247 160 = some (.bipush 9, 0, 0, 0, (some (Jvm.ClassFile.FieldType.boolean))) := rfl
theorem i_247_162 : iRow 247 162 = some (.if_icmp .ne 18, 0, 0, 0, (some (Jvm.ClassFile.FieldType.boolean))) := rfl
theorem i_247_165 : iRow 247 165 = some (.iload 5, 0, 0, 0, (some (Jvm.ClassFile.FieldType.boolean))) := rfl
theorem i_247_167 : iRow 247 167 = some (.iload 6, 0, 0, 0, (some (Jvm.ClassFile.FieldType.boolean))) := rfl
theorem i_247_169 : iRow 247 169 = some (.if_icmp .le 7, 0, 0, 0, (some (Jvm.ClassFile.FieldType.boolean))) := rfl
theorem i_247_172 : iRow 247 172 = some (.iconst 1, 0, 0, 0, (some (Jvm.ClassFile.FieldType.boolean))) := rfl
theorem i_247_173 : iRow 247 173 = some (.goto 44, 0, 0, 0, (some (Jvm.ClassFile.FieldType.boolean))) := rfl
theorem i_247_176 : iRow 247 176 = some (.iconst 0, 0, 0, 0, (some (Jvm.ClassFile.FieldType.boolean))) := rfl
theorem i_247_177 : iRow 247 177 = some (.goto 40, 0, 0, 0, (some (Jvm.ClassFile.FieldType.boolean))) := rfl
theorem i_247_180 : iRow 247 180 = some (.iload 4, 0, 0, 0, (some (Jvm.ClassFile.FieldType.boolean))) := rfl
theorem i_247_182 : iRow 247 182 = some (.bipush 11, 0, 0, 0, (some (Jvm.ClassFile.FieldType.boolean))) := rfl
theorem i_247_184 : iRow 247 184 = some (.if_icmp .ne 20, 0, 0, 0, (some (Jvm.ClassFile.FieldType.boolean))) := rfl
theorem i_247_187 : iRow 247 187 = some (.iload 5, 0, 0, 0, (some (Jvm.ClassFile.FieldType.boolean))) := rfl
theorem i_247_189 : iRow 247 189 = some (.iload 6, 0, 0, 0, (some (Jvm.ClassFile.FieldType.boolean))) := rfl
theorem i_247_191 : iRow 247 191 = some (.iadd, 0, 0, 0, (some (Jvm.ClassFile.FieldType.boolean))) := rfl
theorem i_247_192 : iRow 247 192 = some (.iconst 2, 0, 0, 0, (some (Jvm.ClassFile.FieldType.boolean))) := rfl
theorem i_247_193 : iRow 247 193 = some (.if_icmp .ne 7, 0, 0, 0, (some (Jvm.ClassFile.FieldType.boolean))) := rfl
theorem i_247_196 : iRow 247 196 = some (.iconst 1, 0, 0, 0, (some (Jvm.ClassFile.FieldType.boolean))) := rfl
theorem i_247_197 : iRow 247 197 = some (.goto 20, 0, 0, 0, (some (Jvm.ClassFile.FieldType.boolean))) := rfl
theorem i_247_200 : iRow 247 200 = some (.iconst 0, 0, 0, 0, (some (Jvm.ClassFile.FieldType.boolean))) := rfl
theorem i_247_201 : iRow 247 201 = some (.goto 16, 0, 0, 0, (some (Jvm.ClassFile.FieldType.boolean))) := rfl
theorem i_247_204 : iRow 247 204 = some (.iload 5, 0, 0, 0, (some (Jvm.ClassFile.FieldType.boolean))) := rfl
theorem i_247_206 : iRow 247 206 = some (.iload 6, 0, 0, 0, (some (Jvm.ClassFile.FieldType.boolean))) := rfl
theorem i_247_208 : iRow 247 208 = some (.iadd, 0, 0, 0, (some (Jvm.ClassFile.FieldType.boolean))) := rfl
theorem i_247_209 : iRow 247 209 = some (.ifCond .le 7, 0, 0, 0, (some (Jvm.ClassFile.FieldType.boolean))) := rfl
theorem i_247_212 : iRow 247 212 = some (.iconst 1, 0, 0, 0, (some (Jvm.ClassFile.FieldType.boolean))) := rfl
theorem i_247_213 : iRow 247 213 = some (.goto 4, 0, 0, 0, (some (Jvm.ClassFile.FieldType.boolean))) := rfl
theorem i_247_216 : iRow 247 216 = some (.iconst 0, 0, 0, 0, (some (Jvm.ClassFile.FieldType.boolean))) := rfl
theorem i_247_217 : iRow 247 217 = some (.istore 7, 0, 0, 0, (some (Jvm.ClassFile.FieldType.boolean))) := rfl
theorem i_247_219 : iRow 247 219 = some (.aload_n 0, 0, 0, 0, (some (Jvm.ClassFile.FieldType.boolean))) := rfl
theorem i_247_220 : iRow 247 220 = some (.getfield 36, 179, 12, 15, (some (Jvm.ClassFile.FieldType.boolean))) := rfl
theorem i_247_223 : iRow 247 223 = some (.iload_n 2, 0, 0, 0, (some (Jvm.ClassFile.FieldType.boolean))) := rfl
theorem i_247_224 : iRow 247 224 = some (.iconst 1, 0, 0, 0, (some (Jvm.ClassFile.FieldType.boolean))) := rfl
theorem i_247_225 : iRow 247 225 = some (.isub, 0, 0, 0, (some (Jvm.ClassFile.FieldType.boolean))) := rfl
theorem i_247_226 : iRow 247 226 = some (.iload 4, 0, 0, 0, (some (Jvm.ClassFile.FieldType.boolean))) := rfl
theorem i_247_228 : iRow 247 228 = some (.bipush 7, 0, 0, 0, (some (Jvm.ClassFile.FieldType.boolean))) := rfl
theorem i_247_230 : iRow 247 230 = some (.if_icmp .ne 11, 0, 0, 0, (some (Jvm.ClassFile.FieldType.boolean))) := rfl
theorem i_247_233 : iRow 247 233 = some (.iload 5, 0, 0, 0, (some (Jvm.ClassFile.FieldType.boolean))) := rfl
theorem i_247_235 : iRow 247 235 = some (.iload 6, 0, 0, 0, (some (Jvm.ClassFile.FieldType.boolean))) := rfl
theorem i_247_237 : iRow 247 237 = some (.iadd, 0, 0, 0, (some (Jvm.ClassFile.FieldType.boolean))) := rfl
theorem i_247_238 : iRow 247 238 = some (.goto 13, 0, 0, 0, (some (Jvm.ClassFile.FieldType.boolean))) := rfl
set_option maxRecDepth 20000 in
theorem i_247_241 : iRow 247 241 = some (.iload 7, 0, 0, 0, (some (Jvm.ClassFile.FieldType.boolean))) := rfl
set_option maxRecDepth 20000 in
theorem i_247_243 : iRow 247 243 = some (.ifCond .eq 7, 0, 0, 0, (some (Jvm.ClassFile.FieldType.boolean))) := rfl
set_option maxRecDepth 20000 in
theorem i_247_246 : iRow 247 246 = some (.iconst 1, 0, 0, 0, (some (Jvm.ClassFile.FieldType.boolean))) := rfl
set_option maxRecDepth 20000 in
theorem i_247_247 : iRow 247 247 = some (.goto 4, 0, 0, 0, (some (Jvm.ClassFile.FieldType.boolean))) := rfl
set_option maxRecDepth 20000 in
theorem i_247_250 : iRow 247 250 = some (.iconst 0, 0, 0, 0, (some (Jvm.ClassFile.FieldType.boolean))) := rfl
set_option maxRecDepth 20000 in
theorem i_247_251 : iRow 247 251 = some (.iastore, 0, 0, 0, (some (Jvm.ClassFile.FieldType.boolean))) := rfl
set_option maxRecDepth 20000 in
theorem i_247_252 : iRow 247 252 = some (.iinc 3 1, 0, 0, 0, (some (Jvm.ClassFile.FieldType.boolean))) := rfl
set_option maxRecDepth 20000 in
theorem i_247_255 : iRow 247 255 = some (.goto (-244), 0, 0, 0, (some (Jvm.ClassFile.FieldType.boolean))) := rfl
set_option maxRecDepth 20000 in
theorem i_247_258 : iRow 247 258 = some (.iload_n 2, 0, 0, 0, (some (Jvm.ClassFile.FieldType.boolean))) := rfl
set_option maxRecDepth 20000 in
theorem i_247_259 : iRow 247 259 = some (.ifCond .eq 13, 0, 0, 0, (some (Jvm.ClassFile.FieldType.boolean))) := rfl
set_option maxRecDepth 20000 in
theorem i_247_262 : iRow 247 262 = some (.aload_n 0, 0, 0, 0, (some (Jvm.ClassFile.FieldType.boolean))) := rfl
set_option maxRecDepth 20000 in
theorem i_247_263 : iRow 247 263 = some (.getfield 36, 179, 12, 15, (some (Jvm.ClassFile.FieldType.boolean))) := rfl
set_option maxRecDepth 20000 in
theorem i_247_266 : iRow 247 266 = some (.iconst 0, 0, 0, 0, (some (Jvm.ClassFile.FieldType.boolean))) := rfl
set_option maxRecDepth 20000 in
theorem i_247_267 : iRow 247 267 = some (.iaload, 0, 0, 0, (some (Jvm.ClassFile.FieldType.boolean))) := rfl
set_option maxRecDepth 20000 in
theorem i_247_268 : iRow 247 268 = some (.iconst 1, 0, 0, 0, (some (Jvm.ClassFile.FieldType.boolean))) := rfl
set_option maxRecDepth 20000 in
theorem i_247_269 : iRow 247 269 = some (.if_icmp .ne 7, 0, 0, 0, (some (Jvm.ClassFile.FieldType.boolean))) := rfl
set_option maxRecDepth 20000 in
theorem i_247_272 : iRow 247 272 = some (.iconst 1, 0, 0, 0, (some (Jvm.ClassFile.FieldType.boolean))) := rfl
set_option maxRecDepth 20000 in
theorem i_247_273 : iRow 247 273 = some (.goto 4, 0, 0, 0, (some (Jvm.ClassFile.FieldType.boolean))) := rfl
set_option maxRecDepth 20000 in
theorem i_247_276 : iRow 247 276 = some (.iconst 0, 0, 0, 0, (some (Jvm.ClassFile.FieldType.boolean))) := rfl
set_option maxRecDepth 20000 in
theorem i_247_277 : iRow 247 277 = some (.ireturn, 0, 0, 0, (some (Jvm.ClassFile.FieldType.boolean))) := rfl
theorem s_meas0 {O : pOut} {d kc ks : Nat} {Q : pRes → Prop} {es : PH} (hs_es : sh es)
    (K1 : aW O d 246 kc ks Q (4, [some (.ref 143), some (.int (zI 0)), some (.int (zI 0)), none], [], es)) :
    aW O d 246 kc ks Q (0, [some (.ref 143), none, none, none], [], es) := by
  refine x0 (r := (1, [some (.ref 143), none, none, none], [.int (zI 0)], es)) i_246_0 (by rfl) ?_
  refine x0 (r := (2, [some (.ref 143), some (.int (zI 0)), none, none], [], es)) i_246_1 rfl ?_
  refine x0 (r := (3, [some (.ref 143), some (.int (zI 0)), none, none], [.int (zI 0)], es)) i_246_2 (by rfl) ?_
  refine x0 (r := (4, [some (.ref 143), some (.int (zI 0)), some (.int (zI 0)), none], [], es)) i_246_3 rfl ?_
  exact K1

theorem s_meas4 {O : pOut} {d kc ks : Nat} {Q : pRes → Prop} {es : PH} {s n : Int} {x3 : Option Value} (hs_es : sh es) (h1 : 0 ≤ n ∧ n ≤ 10) (hT_es : hOK tT es)
    (K1 : ∀ v1 : Int, v1 = (gA es 80 (Int.toNat 443)).toInt → v1 ≤ n → Q (.inl (some (.int (zI s))), es, kc, ks))
    (K2 : ∀ v1 : Int, v1 = (gA es 80 (Int.toNat 443)).toInt → ¬ (v1 ≤ n) → aW O d 246 kc ks Q (26, [some (.ref 143), some (.int (zI s)), some (.int (zI n)), some (.int (zI (444 + (4 * n))))], [.int (zI (444 + (4 * n))), .ref 143], es)) :
    aW O d 246 kc ks Q (4, [some (.ref 143), some (.int (zI s)), some (.int (zI n)), x3], [], es) := by
  refine x0 (r := (5, [some (.ref 143), some (.int (zI s)), some (.int (zI n)), x3], [.int (zI n)], es)) i_246_4 rfl ?_
  refine x0 (r := (6, [some (.ref 143), some (.int (zI s)), some (.int (zI n)), x3], [.ref 143, .int (zI n)], es)) i_246_5 rfl ?_
  refine x_getr (p := 79) (k := 144) i_246_6 hs_es rfl rfl ?_
  show aW _ _ _ _ _ _ (9, [some (.ref 143), some (.int (zI s)), some (.int (zI n)), x3], [.ref 144, .int (zI n)], es)
  refine x0 (r := (12, [some (.ref 143), some (.int (zI s)), some (.int (zI n)), x3], [.int (zI 443), .ref 144, .int (zI n)], es)) i_246_9 (by rfl) ?_
  refine x_iald (p := 80) i_246_12 hs_es rfl (by unfold i32 iLO iHI; omega) (by omega) (by omega) ?_
  obtain ⟨v1, e_v1⟩ : ∃ z : Int, z = (gA es 80 (Int.toNat 443)).toInt := ⟨_, rfl⟩
  rw [← e_v1]
  have r_v1 : iLO ≤ v1 ∧ v1 ≤ iHI := by rw [e_v1]; exact i32_rng _
  unfold iLO iHI at r_v1
  have b_v1 : (0 : Int) ≤ v1 ∧ v1 ≤ (10 : Int) := by rw [e_v1]; exact gA_bd hT_es (p := 80) (k := (Int.toNat 443)) rfl (by omega) (by decide)
  by_cases c2 : v1 ≤ n
  · refine x_cmpT i_246_13 (by unfold i32 iLO iHI; omega) (by unfold i32 iLO iHI; omega) rfl (by simp only [zC, cR]; omega) ?_
    refine x0 (r := (77, [some (.ref 143), some (.int (zI s)), some (.int (zI n)), x3], [.int (zI s)], es)) i_246_76 rfl ?_
    refine x_ret (v := some (.int (zI s))) i_246_77 rfl (fun _ => rfl) rfl rfl rfl ?_
    exact K1 v1 e_v1 c2
  · refine x_cmpF i_246_13 (by unfold i32 iLO iHI; omega) (by unfold i32 iLO iHI; omega) rfl (by simp only [zC, cR]; omega) ?_
    refine x0 (r := (19, [some (.ref 143), some (.int (zI s)), some (.int (zI n)), x3], [.int (zI 444)], es)) i_246_16 (by rfl) ?_
    refine x0 (r := (20, [some (.ref 143), some (.int (zI s)), some (.int (zI n)), x3], [.int (zI 4), .int (zI 444)], es)) i_246_19 (by rfl) ?_
    refine x0 (r := (21, [some (.ref 143), some (.int (zI s)), some (.int (zI n)), x3], [.int (zI n), .int (zI 4), .int (zI 444)], es)) i_246_20 rfl ?_
    refine x_imul i_246_21 ?_
    refine x_iadd i_246_22 ?_
    refine x0 (r := (24, [some (.ref 143), some (.int (zI s)), some (.int (zI n)), some (.int (zI (444 + (4 * n))))], [], es)) i_246_23 rfl ?_
    refine x0 (r := (25, [some (.ref 143), some (.int (zI s)), some (.int (zI n)), some (.int (zI (444 + (4 * n))))], [.ref 143], es)) i_246_24 rfl ?_
    refine x0 (r := (26, [some (.ref 143), some (.int (zI s)), some (.int (zI n)), some (.int (zI (444 + (4 * n))))], [.int (zI (444 + (4 * n))), .ref 143], es)) i_246_25 rfl ?_
    exact K2 v1 e_v1 c2

theorem s_meas29 {O : pOut} {d kc ks : Nat} {Q : pRes → Prop} {es : PH} {s n k b : Int} (hs_es : sh es) (h1 : 0 ≤ n ∧ n ≤ 9) (h2 : 444 ≤ k ∧ k ≤ 480) (h3 : 0 ≤ b ∧ b ≤ 1) (h4 : (gA es 80 (k + 1).toNat).toInt ≤ 5) (hT_es : hOK tT es)
    (K1 : b = 0 → aW O d 246 kc ks Q (4, [some (.ref 143), some (.int (zI s)), some (.int (zI (n + 1))), some (.int (zI k))], [], es))
    (K2 : ¬ (b = 0) → ∀ v2 : Int, v2 = (gA es 80 k.toNat).toInt → ∀ v3 : Int, v3 = (gA es 80 (k + 1).toNat).toInt → 0 ≤ v3 → ∀ v5 : Int, v5 = (gA es 80 (k + 1).toNat).toInt → ∀ v6 : Int, v6 = (gA es 85 v5.toNat).toInt → aW O d 246 kc ks Q (4, [some (.ref 143), some (.int (zI (s + (v2 * v6)))), some (.int (zI (n + 1))), some (.int (zI k))], [], es))
    (K3 : ¬ (b = 0) → ∀ v2 : Int, v2 = (gA es 80 k.toNat).toInt → ∀ v3 : Int, v3 = (gA es 80 (k + 1).toNat).toInt → ¬ (0 ≤ v3) → aW O d 246 kc ks Q (4, [some (.ref 143), some (.int (zI (s + (v2 * 1)))), some (.int (zI (n + 1))), some (.int (zI k))], [], es)) :
    aW O d 246 kc ks Q (29, [some (.ref 143), some (.int (zI s)), some (.int (zI n)), some (.int (zI k))], [.int (zI b)], es) := by
  by_cases c1 : b = 0
  · refine x_ifT i_246_29 (by unfold i32 iLO iHI; omega) rfl (by simp only [zC, cR]; omega) ?_
    refine x_iinc (x := n) i_246_70 rfl (by show 2 < 4; decide) ?_
    show aW _ _ _ _ _ _ (73, [some (.ref 143), some (.int (zI s)), some (.int (zI (n + 1))), some (.int (zI k))], [], es)
    refine x0 (r := (4, [some (.ref 143), some (.int (zI s)), some (.int (zI (n + 1))), some (.int (zI k))], [], es)) i_246_73 rfl ?_
    exact K1 c1
  · refine x_ifF i_246_29 (by unfold i32 iLO iHI; omega) rfl (by simp only [zC, cR]; omega) ?_
    refine x0 (r := (33, [some (.ref 143), some (.int (zI s)), some (.int (zI n)), some (.int (zI k))], [.int (zI s)], es)) i_246_32 rfl ?_
    refine x0 (r := (34, [some (.ref 143), some (.int (zI s)), some (.int (zI n)), some (.int (zI k))], [.ref 143, .int (zI s)], es)) i_246_33 rfl ?_
    refine x_getr (p := 79) (k := 144) i_246_34 hs_es rfl rfl ?_
    show aW _ _ _ _ _ _ (37, [some (.ref 143), some (.int (zI s)), some (.int (zI n)), some (.int (zI k))], [.ref 144, .int (zI s)], es)
    refine x0 (r := (38, [some (.ref 143), some (.int (zI s)), some (.int (zI n)), some (.int (zI k))], [.int (zI k), .ref 144, .int (zI s)], es)) i_246_37 rfl ?_
    refine x_iald (p := 80) i_246_38 hs_es rfl (by unfold i32 iLO iHI; omega) (by omega) (by omega) ?_
    obtain ⟨v2, e_v2⟩ : ∃ z : Int, z = (gA es 80 k.toNat).toInt := ⟨_, rfl⟩
    rw [← e_v2]
    have r_v2 : iLO ≤ v2 ∧ v2 ≤ iHI := by rw [e_v2]; exact i32_rng _
    unfold iLO iHI at r_v2
    refine x0 (r := (40, [some (.ref 143), some (.int (zI s)), some (.int (zI n)), some (.int (zI k))], [.ref 143, .int (zI v2), .int (zI s)], es)) i_246_39 rfl ?_
    refine x_getr (p := 79) (k := 144) i_246_40 hs_es rfl rfl ?_
    show aW _ _ _ _ _ _ (43, [some (.ref 143), some (.int (zI s)), some (.int (zI n)), some (.int (zI k))], [.ref 144, .int (zI v2), .int (zI s)], es)
    refine x0 (r := (44, [some (.ref 143), some (.int (zI s)), some (.int (zI n)), some (.int (zI k))], [.int (zI k), .ref 144, .int (zI v2), .int (zI s)], es)) i_246_43 rfl ?_
    refine x0 (r := (45, [some (.ref 143), some (.int (zI s)), some (.int (zI n)), some (.int (zI k))], [.int (zI 1), .int (zI k), .ref 144, .int (zI v2), .int (zI s)], es)) i_246_44 (by rfl) ?_
    refine x_iadd i_246_45 ?_
    refine x_iald (p := 80) i_246_46 hs_es rfl (by unfold i32 iLO iHI; omega) (by omega) (by omega) ?_
    obtain ⟨v3, e_v3⟩ : ∃ z : Int, z = (gA es 80 (k + 1).toNat).toInt := ⟨_, rfl⟩
    rw [← e_v3]
    have r_v3 : iLO ≤ v3 ∧ v3 ≤ iHI := by rw [e_v3]; exact i32_rng _
    unfold iLO iHI at r_v3
    by_cases c4 : 0 ≤ v3
    · refine x_ifT i_246_47 (by unfold i32 iLO iHI; omega) rfl (by simp only [zC, cR]; omega) ?_
      refine x0 (r := (55, [some (.ref 143), some (.int (zI s)), some (.int (zI n)), some (.int (zI k))], [.ref 143, .int (zI v2), .int (zI s)], es)) i_246_54 rfl ?_
      refine x_getr (p := 79) (k := 149) i_246_55 hs_es rfl rfl ?_
      show aW _ _ _ _ _ _ (58, [some (.ref 143), some (.int (zI s)), some (.int (zI n)), some (.int (zI k))], [.ref 149, .int (zI v2), .int (zI s)], es)
      refine x0 (r := (59, [some (.ref 143), some (.int (zI s)), some (.int (zI n)), some (.int (zI k))], [.ref 143, .ref 149, .int (zI v2), .int (zI s)], es)) i_246_58 rfl ?_
      refine x_getr (p := 79) (k := 144) i_246_59 hs_es rfl rfl ?_
      show aW _ _ _ _ _ _ (62, [some (.ref 143), some (.int (zI s)), some (.int (zI n)), some (.int (zI k))], [.ref 144, .ref 149, .int (zI v2), .int (zI s)], es)
      refine x0 (r := (63, [some (.ref 143), some (.int (zI s)), some (.int (zI n)), some (.int (zI k))], [.int (zI k), .ref 144, .ref 149, .int (zI v2), .int (zI s)], es)) i_246_62 rfl ?_
      refine x0 (r := (64, [some (.ref 143), some (.int (zI s)), some (.int (zI n)), some (.int (zI k))], [.int (zI 1), .int (zI k), .ref 144, .ref 149, .int (zI v2), .int (zI s)], es)) i_246_63 (by rfl) ?_
      refine x_iadd i_246_64 ?_
      refine x_iald (p := 80) i_246_65 hs_es rfl (by unfold i32 iLO iHI; omega) (by omega) (by omega) ?_
      obtain ⟨v5, e_v5⟩ : ∃ z : Int, z = (gA es 80 (k + 1).toNat).toInt := ⟨_, rfl⟩
      rw [← e_v5]
      have r_v5 : iLO ≤ v5 ∧ v5 ≤ iHI := by rw [e_v5]; exact i32_rng _
      unfold iLO iHI at r_v5
      refine x_iald (p := 85) i_246_66 hs_es rfl (by unfold i32 iLO iHI; omega) (by omega) (by omega) ?_
      obtain ⟨v6, e_v6⟩ : ∃ z : Int, z = (gA es 85 v5.toNat).toInt := ⟨_, rfl⟩
      rw [← e_v6]
      have r_v6 : iLO ≤ v6 ∧ v6 ≤ iHI := by rw [e_v6]; exact i32_rng _
      unfold iLO iHI at r_v6
      refine x_imul i_246_67 ?_
      refine x_iadd i_246_68 ?_
      refine x0 (r := (70, [some (.ref 143), some (.int (zI (s + (v2 * v6)))), some (.int (zI n)), some (.int (zI k))], [], es)) i_246_69 rfl ?_
      refine x_iinc (x := n) i_246_70 rfl (by show 2 < 4; decide) ?_
      show aW _ _ _ _ _ _ (73, [some (.ref 143), some (.int (zI (s + (v2 * v6)))), some (.int (zI (n + 1))), some (.int (zI k))], [], es)
      refine x0 (r := (4, [some (.ref 143), some (.int (zI (s + (v2 * v6)))), some (.int (zI (n + 1))), some (.int (zI k))], [], es)) i_246_73 rfl ?_
      exact K2 c1 v2 e_v2 v3 e_v3 c4 v5 e_v5 v6 e_v6
    · refine x_ifF i_246_47 (by unfold i32 iLO iHI; omega) rfl (by simp only [zC, cR]; omega) ?_
      refine x0 (r := (51, [some (.ref 143), some (.int (zI s)), some (.int (zI n)), some (.int (zI k))], [.int (zI 1), .int (zI v2), .int (zI s)], es)) i_246_50 (by rfl) ?_
      refine x0 (r := (67, [some (.ref 143), some (.int (zI s)), some (.int (zI n)), some (.int (zI k))], [.int (zI 1), .int (zI v2), .int (zI s)], es)) i_246_51 rfl ?_
      refine x_imul i_246_67 ?_
      refine x_iadd i_246_68 ?_
      refine x0 (r := (70, [some (.ref 143), some (.int (zI (s + (v2 * 1)))), some (.int (zI n)), some (.int (zI k))], [], es)) i_246_69 rfl ?_
      refine x_iinc (x := n) i_246_70 rfl (by show 2 < 4; decide) ?_
      show aW _ _ _ _ _ _ (73, [some (.ref 143), some (.int (zI (s + (v2 * 1)))), some (.int (zI (n + 1))), some (.int (zI k))], [], es)
      refine x0 (r := (4, [some (.ref 143), some (.int (zI (s + (v2 * 1)))), some (.int (zI (n + 1))), some (.int (zI k))], [], es)) i_246_73 rfl ?_
      exact K3 c1 v2 e_v2 v3 e_v3 c4

theorem s_line0 {O : pOut} {d kc ks : Nat} {Q : pRes → Prop} {es : PH} {k : Int} (hs_es : sh es) (h1 : 444 ≤ k ∧ k ≤ 480)
    (K1 : ∀ v1 : Int, v1 = (gA es 80 (k + 2).toNat).toInt → aW O d 247 kc ks Q (11, [some (.ref 143), some (.int (zI k)), some (.int (zI 0)), some (.int (zI v1)), none, none, none, none], [], es)) :
    aW O d 247 kc ks Q (0, [some (.ref 143), some (.int (zI k)), none, none, none, none, none, none], [], es) := by
  refine x0 (r := (1, [some (.ref 143), some (.int (zI k)), none, none, none, none, none, none], [.int (zI 0)], es)) i_247_0 (by rfl) ?_
  refine x0 (r := (2, [some (.ref 143), some (.int (zI k)), some (.int (zI 0)), none, none, none, none, none], [], es)) i_247_1 rfl ?_
  refine x0 (r := (3, [some (.ref 143), some (.int (zI k)), some (.int (zI 0)), none, none, none, none, none], [.ref 143], es)) i_247_2 rfl ?_
  refine x_getr (p := 79) (k := 144) i_247_3 hs_es rfl rfl ?_
  show aW _ _ _ _ _ _ (6, [some (.ref 143), some (.int (zI k)), some (.int (zI 0)), none, none, none, none, none], [.ref 144], es)
  refine x0 (r := (7, [some (.ref 143), some (.int (zI k)), some (.int (zI 0)), none, none, none, none, none], [.int (zI k), .ref 144], es)) i_247_6 rfl ?_
  refine x0 (r := (8, [some (.ref 143), some (.int (zI k)), some (.int (zI 0)), none, none, none, none, none], [.int (zI 2), .int (zI k), .ref 144], es)) i_247_7 (by rfl) ?_
  refine x_iadd i_247_8 ?_
  refine x_iald (p := 80) i_247_9 hs_es rfl (by unfold i32 iLO iHI; omega) (by omega) (by omega) ?_
  obtain ⟨v1, e_v1⟩ : ∃ z : Int, z = (gA es 80 (k + 2).toNat).toInt := ⟨_, rfl⟩
  rw [← e_v1]
  have r_v1 : iLO ≤ v1 ∧ v1 ≤ iHI := by rw [e_v1]; exact i32_rng _
  unfold iLO iHI at r_v1
  refine x0 (r := (11, [some (.ref 143), some (.int (zI k)), some (.int (zI 0)), some (.int (zI v1)), none, none, none, none], [], es)) i_247_10 rfl ?_
  exact K1 v1 e_v1

theorem s_line11 {O : pOut} {d kc ks : Nat} {Q : pRes → Prop} {es : PH} {k h i : Int} {x4 x5 x6 x7 : Option Value} (hs_es : sh es) (h1 : 444 ≤ k ∧ k ≤ 480) (h2 : 0 ≤ h ∧ h ≤ 400) (h3 : 0 ≤ i ∧ i ≤ 400) (hT_es : hOK tT es)
    (K1 : ∀ v1 : Int, v1 = (gA es 80 (k + 3).toNat).toInt → v1 ≤ i → h = 0 → Q (.inl (some (.int (zI 1))), es, kc, ks))
    (K2 : ∀ v1 : Int, v1 = (gA es 80 (k + 3).toNat).toInt → v1 ≤ i → ¬ (h = 0) → ∀ v4 : Int, v4 = (gA es 86 (Int.toNat 0)).toInt → v4 ≠ 1 → Q (.inl (some (.int (zI 0))), es, kc, ks))
    (K3 : ∀ v1 : Int, v1 = (gA es 80 (k + 3).toNat).toInt → v1 ≤ i → ¬ (h = 0) → ∀ v4 : Int, v4 = (gA es 86 (Int.toNat 0)).toInt → ¬ (v4 ≠ 1) → Q (.inl (some (.int (zI 1))), es, kc, ks))
    (K4 : ∀ v1 : Int, v1 = (gA es 80 (k + 3).toNat).toInt → ¬ (v1 ≤ i) → ∀ v6 : Int, v6 = (gA es 80 (484 + (2 * i)).toNat).toInt → aW O d 247 kc ks Q (37, [some (.ref 143), some (.int (zI k)), some (.int (zI h)), some (.int (zI i)), some (.int (zI v6)), x5, x6, x7], [], es)) :
    aW O d 247 kc ks Q (11, [some (.ref 143), some (.int (zI k)), some (.int (zI h)), some (.int (zI i)), x4, x5, x6, x7], [], es) := by
  refine x0 (r := (12, [some (.ref 143), some (.int (zI k)), some (.int (zI h)), some (.int (zI i)), x4, x5, x6, x7], [.int (zI i)], es)) i_247_11 rfl ?_
  refine x0 (r := (13, [some (.ref 143), some (.int (zI k)), some (.int (zI h)), some (.int (zI i)), x4, x5, x6, x7], [.ref 143, .int (zI i)], es)) i_247_12 rfl ?_
  refine x_getr (p := 79) (k := 144) i_247_13 hs_es rfl rfl ?_
  show aW _ _ _ _ _ _ (16, [some (.ref 143), some (.int (zI k)), some (.int (zI h)), some (.int (zI i)), x4, x5, x6, x7], [.ref 144, .int (zI i)], es)
  refine x0 (r := (17, [some (.ref 143), some (.int (zI k)), some (.int (zI h)), some (.int (zI i)), x4, x5, x6, x7], [.int (zI k), .ref 144, .int (zI i)], es)) i_247_16 rfl ?_
  refine x0 (r := (18, [some (.ref 143), some (.int (zI k)), some (.int (zI h)), some (.int (zI i)), x4, x5, x6, x7], [.int (zI 3), .int (zI k), .ref 144, .int (zI i)], es)) i_247_17 (by rfl) ?_
  refine x_iadd i_247_18 ?_
  refine x_iald (p := 80) i_247_19 hs_es rfl (by unfold i32 iLO iHI; omega) (by omega) (by omega) ?_
  obtain ⟨v1, e_v1⟩ : ∃ z : Int, z = (gA es 80 (k + 3).toNat).toInt := ⟨_, rfl⟩
  rw [← e_v1]
  have r_v1 : iLO ≤ v1 ∧ v1 ≤ iHI := by rw [e_v1]; exact i32_rng _
  unfold iLO iHI at r_v1
  by_cases c2 : v1 ≤ i
  · refine x_cmpT i_247_20 (by unfold i32 iLO iHI; omega) (by unfold i32 iLO iHI; omega) rfl (by simp only [zC, cR]; omega) ?_
    refine x0 (r := (259, [some (.ref 143), some (.int (zI k)), some (.int (zI h)), some (.int (zI i)), x4, x5, x6, x7], [.int (zI h)], es)) i_247_258 rfl ?_
    by_cases c3 : h = 0
    · refine x_ifT i_247_259 (by unfold i32 iLO iHI; omega) rfl (by simp only [zC, cR]; omega) ?_
      refine x0 (r := (273, [some (.ref 143), some (.int (zI k)), some (.int (zI h)), some (.int (zI i)), x4, x5, x6, x7], [.int (zI 1)], es)) i_247_272 (by rfl) ?_
      refine x0 (r := (277, [some (.ref 143), some (.int (zI k)), some (.int (zI h)), some (.int (zI i)), x4, x5, x6, x7], [.int (zI 1)], es)) i_247_273 rfl ?_
      refine x_ret (v := some (.int (zI 1))) i_247_277 rfl (fun _ => rfl) rfl rfl (pFin_b (by omega)) ?_
      exact K1 v1 e_v1 c2 c3
    · refine x_ifF i_247_259 (by unfold i32 iLO iHI; omega) rfl (by simp only [zC, cR]; omega) ?_
      refine x0 (r := (263, [some (.ref 143), some (.int (zI k)), some (.int (zI h)), some (.int (zI i)), x4, x5, x6, x7], [.ref 143], es)) i_247_262 rfl ?_
      refine x_getr (p := 79) (k := 150) i_247_263 hs_es rfl rfl ?_
      show aW _ _ _ _ _ _ (266, [some (.ref 143), some (.int (zI k)), some (.int (zI h)), some (.int (zI i)), x4, x5, x6, x7], [.ref 150], es)
      refine x0 (r := (267, [some (.ref 143), some (.int (zI k)), some (.int (zI h)), some (.int (zI i)), x4, x5, x6, x7], [.int (zI 0), .ref 150], es)) i_247_266 (by rfl) ?_
      refine x_iald (p := 86) i_247_267 hs_es rfl (by unfold i32 iLO iHI; omega) (by omega) (by omega) ?_
      obtain ⟨v4, e_v4⟩ : ∃ z : Int, z = (gA es 86 (Int.toNat 0)).toInt := ⟨_, rfl⟩
      rw [← e_v4]
      have r_v4 : iLO ≤ v4 ∧ v4 ≤ iHI := by rw [e_v4]; exact i32_rng _
      unfold iLO iHI at r_v4
      refine x0 (r := (269, [some (.ref 143), some (.int (zI k)), some (.int (zI h)), some (.int (zI i)), x4, x5, x6, x7], [.int (zI 1), .int (zI v4)], es)) i_247_268 (by rfl) ?_
      by_cases c5 : v4 ≠ 1
      · refine x_cmpT i_247_269 (by unfold i32 iLO iHI; omega) (by unfold i32 iLO iHI; omega) rfl (by simp only [zC, cR]; omega) ?_
        refine x0 (r := (277, [some (.ref 143), some (.int (zI k)), some (.int (zI h)), some (.int (zI i)), x4, x5, x6, x7], [.int (zI 0)], es)) i_247_276 (by rfl) ?_
        refine x_ret (v := some (.int (zI 0))) i_247_277 rfl (fun _ => rfl) rfl rfl (pFin_b (by omega)) ?_
        exact K2 v1 e_v1 c2 c3 v4 e_v4 c5
      · refine x_cmpF i_247_269 (by unfold i32 iLO iHI; omega) (by unfold i32 iLO iHI; omega) rfl (by simp only [zC, cR]; omega) ?_
        refine x0 (r := (273, [some (.ref 143), some (.int (zI k)), some (.int (zI h)), some (.int (zI i)), x4, x5, x6, x7], [.int (zI 1)], es)) i_247_272 (by rfl) ?_
        refine x0 (r := (277, [some (.ref 143), some (.int (zI k)), some (.int (zI h)), some (.int (zI i)), x4, x5, x6, x7], [.int (zI 1)], es)) i_247_273 rfl ?_
        refine x_ret (v := some (.int (zI 1))) i_247_277 rfl (fun _ => rfl) rfl rfl (pFin_b (by omega)) ?_
        exact K3 v1 e_v1 c2 c3 v4 e_v4 c5
  · refine x_cmpF i_247_20 (by unfold i32 iLO iHI; omega) (by unfold i32 iLO iHI; omega) rfl (by simp only [zC, cR]; omega) ?_
    refine x0 (r := (24, [some (.ref 143), some (.int (zI k)), some (.int (zI h)), some (.int (zI i)), x4, x5, x6, x7], [.ref 143], es)) i_247_23 rfl ?_
    refine x_getr (p := 79) (k := 144) i_247_24 hs_es rfl rfl ?_
    show aW _ _ _ _ _ _ (27, [some (.ref 143), some (.int (zI k)), some (.int (zI h)), some (.int (zI i)), x4, x5, x6, x7], [.ref 144], es)
    refine x0 (r := (30, [some (.ref 143), some (.int (zI k)), some (.int (zI h)), some (.int (zI i)), x4, x5, x6, x7], [.int (zI 484), .ref 144], es)) i_247_27 (by rfl) ?_
    refine x0 (r := (31, [some (.ref 143), some (.int (zI k)), some (.int (zI h)), some (.int (zI i)), x4, x5, x6, x7], [.int (zI 2), .int (zI 484), .ref 144], es)) i_247_30 (by rfl) ?_
    refine x0 (r := (32, [some (.ref 143), some (.int (zI k)), some (.int (zI h)), some (.int (zI i)), x4, x5, x6, x7], [.int (zI i), .int (zI 2), .int (zI 484), .ref 144], es)) i_247_31 rfl ?_
    refine x_imul i_247_32 ?_
    refine x_iadd i_247_33 ?_
    refine x_iald (p := 80) i_247_34 hs_es rfl (by unfold i32 iLO iHI; omega) (by omega) (by omega) ?_
    obtain ⟨v6, e_v6⟩ : ∃ z : Int, z = (gA es 80 (484 + (2 * i)).toNat).toInt := ⟨_, rfl⟩
    rw [← e_v6]
    have r_v6 : iLO ≤ v6 ∧ v6 ≤ iHI := by rw [e_v6]; exact i32_rng _
    unfold iLO iHI at r_v6
    refine x0 (r := (37, [some (.ref 143), some (.int (zI k)), some (.int (zI h)), some (.int (zI i)), some (.int (zI v6)), x5, x6, x7], [], es)) i_247_35 rfl ?_
    exact K4 v1 e_v1 c2 v6 e_v6

theorem s_lineP {O : pOut} {d kc ks : Nat} {Q : pRes → Prop} {es : PH} {k h i op : Int} {x5 x6 x7 : Option Value} (hs_es : sh es) (h1 : 444 ≤ k ∧ k ≤ 480) (h2 : 0 ≤ h ∧ h ≤ 399) (h3 : 0 ≤ i ∧ i ≤ 399) (h4 : 0 ≤ op ∧ op ≤ 6)
    (K1 : op ≠ 6 → ∀ v2 : Int, v2 = (gA es 85 op.toNat).toInt → ∀ es3 : PH, es3 = sA es 86 h.toNat (zI v2) → aW O d 247 kc ks Q (11, [some (.ref 143), some (.int (zI k)), some (.int (zI (h + 1))), some (.int (zI (i + 1))), some (.int (zI op)), x5, x6, x7], [], es3))
    (K2 : ¬ (op ≠ 6) → ∀ v4 : Int, v4 = (gA es 80 ((484 + (2 * i)) + 1).toNat).toInt → ∀ es5 : PH, es5 = sA es 86 h.toNat (zI v4) → aW O d 247 kc ks Q (11, [some (.ref 143), some (.int (zI k)), some (.int (zI (h + 1))), some (.int (zI (i + 1))), some (.int (zI op)), x5, x6, x7], [], es5)) :
    aW O d 247 kc ks Q (37, [some (.ref 143), some (.int (zI k)), some (.int (zI h)), some (.int (zI i)), some (.int (zI op)), x5, x6, x7], [], es) := by
  refine x0 (r := (39, [some (.ref 143), some (.int (zI k)), some (.int (zI h)), some (.int (zI i)), some (.int (zI op)), x5, x6, x7], [.int (zI op)], es)) i_247_37 rfl ?_
  refine x0 (r := (41, [some (.ref 143), some (.int (zI k)), some (.int (zI h)), some (.int (zI i)), some (.int (zI op)), x5, x6, x7], [.int (zI 6), .int (zI op)], es)) i_247_39 (by rfl) ?_
  refine x_cmpF i_247_41 (by unfold i32 iLO iHI; omega) (by unfold i32 iLO iHI; omega) rfl (by simp only [zC, cR]; omega) ?_
  refine x0 (r := (45, [some (.ref 143), some (.int (zI k)), some (.int (zI h)), some (.int (zI i)), some (.int (zI op)), x5, x6, x7], [.ref 143], es)) i_247_44 rfl ?_
  refine x_getr (p := 79) (k := 150) i_247_45 hs_es rfl rfl ?_
  show aW _ _ _ _ _ _ (48, [some (.ref 143), some (.int (zI k)), some (.int (zI h)), some (.int (zI i)), some (.int (zI op)), x5, x6, x7], [.ref 150], es)
  refine x0 (r := (49, [some (.ref 143), some (.int (zI k)), some (.int (zI h)), some (.int (zI i)), some (.int (zI op)), x5, x6, x7], [.int (zI h), .ref 150], es)) i_247_48 rfl ?_
  refine x0 (r := (51, [some (.ref 143), some (.int (zI k)), some (.int (zI h)), some (.int (zI i)), some (.int (zI op)), x5, x6, x7], [.int (zI op), .int (zI h), .ref 150], es)) i_247_49 rfl ?_
  refine x0 (r := (53, [some (.ref 143), some (.int (zI k)), some (.int (zI h)), some (.int (zI i)), some (.int (zI op)), x5, x6, x7], [.int (zI 6), .int (zI op), .int (zI h), .ref 150], es)) i_247_51 (by rfl) ?_
  by_cases c1 : op ≠ 6
  · refine x_cmpT i_247_53 (by unfold i32 iLO iHI; omega) (by unfold i32 iLO iHI; omega) rfl (by simp only [zC, cR]; omega) ?_
    refine x0 (r := (74, [some (.ref 143), some (.int (zI k)), some (.int (zI h)), some (.int (zI i)), some (.int (zI op)), x5, x6, x7], [.ref 143, .int (zI h), .ref 150], es)) i_247_73 rfl ?_
    refine x_getr (p := 79) (k := 149) i_247_74 hs_es rfl rfl ?_
    show aW _ _ _ _ _ _ (77, [some (.ref 143), some (.int (zI k)), some (.int (zI h)), some (.int (zI i)), some (.int (zI op)), x5, x6, x7], [.ref 149, .int (zI h), .ref 150], es)
    refine x0 (r := (79, [some (.ref 143), some (.int (zI k)), some (.int (zI h)), some (.int (zI i)), some (.int (zI op)), x5, x6, x7], [.int (zI op), .ref 149, .int (zI h), .ref 150], es)) i_247_77 rfl ?_
    refine x_iald (p := 85) i_247_79 hs_es rfl (by unfold i32 iLO iHI; omega) (by omega) (by omega) ?_
    obtain ⟨v2, e_v2⟩ : ∃ z : Int, z = (gA es 85 op.toNat).toInt := ⟨_, rfl⟩
    rw [← e_v2]
    have r_v2 : iLO ≤ v2 ∧ v2 ≤ iHI := by rw [e_v2]; exact i32_rng _
    unfold iLO iHI at r_v2
    refine x_iast (p := 86) i_247_80 hs_es rfl (by unfold i32 iLO iHI; omega) (by omega) (by omega) ?_
    obtain ⟨es3, e_es3⟩ : ∃ z : PH, z = sA es 86 h.toNat (zI v2) := ⟨_, rfl⟩
    have hs_es3 : sh es3 := by rw [e_es3]; exact sh_sA hs_es
    rw [← e_es3]
    refine x_iinc (x := h) i_247_81 rfl (by show 2 < 8; decide) ?_
    show aW _ _ _ _ _ _ (84, [some (.ref 143), some (.int (zI k)), some (.int (zI (h + 1))), some (.int (zI i)), some (.int (zI op)), x5, x6, x7], [], es3)
    refine x0 (r := (252, [some (.ref 143), some (.int (zI k)), some (.int (zI (h + 1))), some (.int (zI i)), some (.int (zI op)), x5, x6, x7], [], es3)) i_247_84 rfl ?_
    refine x_iinc (x := i) i_247_252 rfl (by show 3 < 8; decide) ?_
    show aW _ _ _ _ _ _ (255, [some (.ref 143), some (.int (zI k)), some (.int (zI (h + 1))), some (.int (zI (i + 1))), some (.int (zI op)), x5, x6, x7], [], es3)
    refine x0 (r := (11, [some (.ref 143), some (.int (zI k)), some (.int (zI (h + 1))), some (.int (zI (i + 1))), some (.int (zI op)), x5, x6, x7], [], es3)) i_247_255 rfl ?_
    exact K1 c1 v2 e_v2 es3 e_es3
  · refine x_cmpF i_247_53 (by unfold i32 iLO iHI; omega) (by unfold i32 iLO iHI; omega) rfl (by simp only [zC, cR]; omega) ?_
    refine x0 (r := (57, [some (.ref 143), some (.int (zI k)), some (.int (zI h)), some (.int (zI i)), some (.int (zI op)), x5, x6, x7], [.ref 143, .int (zI h), .ref 150], es)) i_247_56 rfl ?_
    refine x_getr (p := 79) (k := 144) i_247_57 hs_es rfl rfl ?_
    show aW _ _ _ _ _ _ (60, [some (.ref 143), some (.int (zI k)), some (.int (zI h)), some (.int (zI i)), some (.int (zI op)), x5, x6, x7], [.ref 144, .int (zI h), .ref 150], es)
    refine x0 (r := (63, [some (.ref 143), some (.int (zI k)), some (.int (zI h)), some (.int (zI i)), some (.int (zI op)), x5, x6, x7], [.int (zI 484), .ref 144, .int (zI h), .ref 150], es)) i_247_60 (by rfl) ?_
    refine x0 (r := (64, [some (.ref 143), some (.int (zI k)), some (.int (zI h)), some (.int (zI i)), some (.int (zI op)), x5, x6, x7], [.int (zI 2), .int (zI 484), .ref 144, .int (zI h), .ref 150], es)) i_247_63 (by rfl) ?_
    refine x0 (r := (65, [some (.ref 143), some (.int (zI k)), some (.int (zI h)), some (.int (zI i)), some (.int (zI op)), x5, x6, x7], [.int (zI i), .int (zI 2), .int (zI 484), .ref 144, .int (zI h), .ref 150], es)) i_247_64 rfl ?_
    refine x_imul i_247_65 ?_
    refine x_iadd i_247_66 ?_
    refine x0 (r := (68, [some (.ref 143), some (.int (zI k)), some (.int (zI h)), some (.int (zI i)), some (.int (zI op)), x5, x6, x7], [.int (zI 1), .int (zI (484 + (2 * i))), .ref 144, .int (zI h), .ref 150], es)) i_247_67 (by rfl) ?_
    refine x_iadd i_247_68 ?_
    refine x_iald (p := 80) i_247_69 hs_es rfl (by unfold i32 iLO iHI; omega) (by omega) (by omega) ?_
    obtain ⟨v4, e_v4⟩ : ∃ z : Int, z = (gA es 80 ((484 + (2 * i)) + 1).toNat).toInt := ⟨_, rfl⟩
    rw [← e_v4]
    have r_v4 : iLO ≤ v4 ∧ v4 ≤ iHI := by rw [e_v4]; exact i32_rng _
    unfold iLO iHI at r_v4
    refine x0 (r := (80, [some (.ref 143), some (.int (zI k)), some (.int (zI h)), some (.int (zI i)), some (.int (zI op)), x5, x6, x7], [.int (zI v4), .int (zI h), .ref 150], es)) i_247_70 rfl ?_
    refine x_iast (p := 86) i_247_80 hs_es rfl (by unfold i32 iLO iHI; omega) (by omega) (by omega) ?_
    obtain ⟨es5, e_es5⟩ : ∃ z : PH, z = sA es 86 h.toNat (zI v4) := ⟨_, rfl⟩
    have hs_es5 : sh es5 := by rw [e_es5]; exact sh_sA hs_es
    rw [← e_es5]
    refine x_iinc (x := h) i_247_81 rfl (by show 2 < 8; decide) ?_
    show aW _ _ _ _ _ _ (84, [some (.ref 143), some (.int (zI k)), some (.int (zI (h + 1))), some (.int (zI i)), some (.int (zI op)), x5, x6, x7], [], es5)
    refine x0 (r := (252, [some (.ref 143), some (.int (zI k)), some (.int (zI (h + 1))), some (.int (zI i)), some (.int (zI op)), x5, x6, x7], [], es5)) i_247_84 rfl ?_
    refine x_iinc (x := i) i_247_252 rfl (by show 3 < 8; decide) ?_
    show aW _ _ _ _ _ _ (255, [some (.ref 143), some (.int (zI k)), some (.int (zI (h + 1))), some (.int (zI (i + 1))), some (.int (zI op)), x5, x6, x7], [], es5)
    refine x0 (r := (11, [some (.ref 143), some (.int (zI k)), some (.int (zI (h + 1))), some (.int (zI (i + 1))), some (.int (zI op)), x5, x6, x7], [], es5)) i_247_255 rfl ?_
    exact K2 c1 v4 e_v4 es5 e_es5

theorem s_lineN {O : pOut} {d kc ks : Nat} {Q : pRes → Prop} {es : PH} {k h i : Int} {x5 x6 x7 : Option Value} (hs_es : sh es) (h1 : 444 ≤ k ∧ k ≤ 480) (h2 : 1 ≤ h ∧ h ≤ 399) (h3 : 0 ≤ i ∧ i ≤ 399)
    (K1 : ∀ v1 : Int, v1 = (gA es 86 (h - 1).toNat).toInt → ∀ es2 : PH, es2 = sA es 86 (h - 1).toNat (zI (1 - v1)) → aW O d 247 kc ks Q (11, [some (.ref 143), some (.int (zI k)), some (.int (zI h)), some (.int (zI (i + 1))), some (.int (zI 10)), x5, x6, x7], [], es2)) :
    aW O d 247 kc ks Q (37, [some (.ref 143), some (.int (zI k)), some (.int (zI h)), some (.int (zI i)), some (.int (zI 10)), x5, x6, x7], [], es) := by
  refine x0 (r := (39, [some (.ref 143), some (.int (zI k)), some (.int (zI h)), some (.int (zI i)), some (.int (zI 10)), x5, x6, x7], [.int (zI 10)], es)) i_247_37 rfl ?_
  refine x0 (r := (41, [some (.ref 143), some (.int (zI k)), some (.int (zI h)), some (.int (zI i)), some (.int (zI 10)), x5, x6, x7], [.int (zI 6), .int (zI 10)], es)) i_247_39 (by rfl) ?_
  refine x_cmpT i_247_41 (by unfold i32 iLO iHI; omega) (by unfold i32 iLO iHI; omega) rfl (by simp only [zC, cR]; omega) ?_
  refine x0 (r := (89, [some (.ref 143), some (.int (zI k)), some (.int (zI h)), some (.int (zI i)), some (.int (zI 10)), x5, x6, x7], [.int (zI 10)], es)) i_247_87 rfl ?_
  refine x0 (r := (91, [some (.ref 143), some (.int (zI k)), some (.int (zI h)), some (.int (zI i)), some (.int (zI 10)), x5, x6, x7], [.int (zI 10), .int (zI 10)], es)) i_247_89 (by rfl) ?_
  refine x_cmpF i_247_91 (by unfold i32 iLO iHI; omega) (by unfold i32 iLO iHI; omega) rfl (by simp only [zC, cR]; omega) ?_
  refine x0 (r := (95, [some (.ref 143), some (.int (zI k)), some (.int (zI h)), some (.int (zI i)), some (.int (zI 10)), x5, x6, x7], [.ref 143], es)) i_247_94 rfl ?_
  refine x_getr (p := 79) (k := 150) i_247_95 hs_es rfl rfl ?_
  show aW _ _ _ _ _ _ (98, [some (.ref 143), some (.int (zI k)), some (.int (zI h)), some (.int (zI i)), some (.int (zI 10)), x5, x6, x7], [.ref 150], es)
  refine x0 (r := (99, [some (.ref 143), some (.int (zI k)), some (.int (zI h)), some (.int (zI i)), some (.int (zI 10)), x5, x6, x7], [.int (zI h), .ref 150], es)) i_247_98 rfl ?_
  refine x0 (r := (100, [some (.ref 143), some (.int (zI k)), some (.int (zI h)), some (.int (zI i)), some (.int (zI 10)), x5, x6, x7], [.int (zI 1), .int (zI h), .ref 150], es)) i_247_99 (by rfl) ?_
  refine x_isub i_247_100 ?_
  refine x0 (r := (102, [some (.ref 143), some (.int (zI k)), some (.int (zI h)), some (.int (zI i)), some (.int (zI 10)), x5, x6, x7], [.int (zI 1), .int (zI (h - 1)), .ref 150], es)) i_247_101 (by rfl) ?_
  refine x0 (r := (103, [some (.ref 143), some (.int (zI k)), some (.int (zI h)), some (.int (zI i)), some (.int (zI 10)), x5, x6, x7], [.ref 143, .int (zI 1), .int (zI (h - 1)), .ref 150], es)) i_247_102 rfl ?_
  refine x_getr (p := 79) (k := 150) i_247_103 hs_es rfl rfl ?_
  show aW _ _ _ _ _ _ (106, [some (.ref 143), some (.int (zI k)), some (.int (zI h)), some (.int (zI i)), some (.int (zI 10)), x5, x6, x7], [.ref 150, .int (zI 1), .int (zI (h - 1)), .ref 150], es)
  refine x0 (r := (107, [some (.ref 143), some (.int (zI k)), some (.int (zI h)), some (.int (zI i)), some (.int (zI 10)), x5, x6, x7], [.int (zI h), .ref 150, .int (zI 1), .int (zI (h - 1)), .ref 150], es)) i_247_106 rfl ?_
  refine x0 (r := (108, [some (.ref 143), some (.int (zI k)), some (.int (zI h)), some (.int (zI i)), some (.int (zI 10)), x5, x6, x7], [.int (zI 1), .int (zI h), .ref 150, .int (zI 1), .int (zI (h - 1)), .ref 150], es)) i_247_107 (by rfl) ?_
  refine x_isub i_247_108 ?_
  refine x_iald (p := 86) i_247_109 hs_es rfl (by unfold i32 iLO iHI; omega) (by omega) (by omega) ?_
  obtain ⟨v1, e_v1⟩ : ∃ z : Int, z = (gA es 86 (h - 1).toNat).toInt := ⟨_, rfl⟩
  rw [← e_v1]
  have r_v1 : iLO ≤ v1 ∧ v1 ≤ iHI := by rw [e_v1]; exact i32_rng _
  unfold iLO iHI at r_v1
  refine x_isub i_247_110 ?_
  refine x_iast (p := 86) i_247_111 hs_es rfl (by unfold i32 iLO iHI; omega) (by omega) (by omega) ?_
  obtain ⟨es2, e_es2⟩ : ∃ z : PH, z = sA es 86 (h - 1).toNat (zI (1 - v1)) := ⟨_, rfl⟩
  have hs_es2 : sh es2 := by rw [e_es2]; exact sh_sA hs_es
  rw [← e_es2]
  refine x0 (r := (252, [some (.ref 143), some (.int (zI k)), some (.int (zI h)), some (.int (zI i)), some (.int (zI 10)), x5, x6, x7], [], es2)) i_247_112 rfl ?_
  refine x_iinc (x := i) i_247_252 rfl (by show 3 < 8; decide) ?_
  show aW _ _ _ _ _ _ (255, [some (.ref 143), some (.int (zI k)), some (.int (zI h)), some (.int (zI (i + 1))), some (.int (zI 10)), x5, x6, x7], [], es2)
  refine x0 (r := (11, [some (.ref 143), some (.int (zI k)), some (.int (zI h)), some (.int (zI (i + 1))), some (.int (zI 10)), x5, x6, x7], [], es2)) i_247_255 rfl ?_
  exact K1 v1 e_v1 es2 e_es2

theorem s_lineB {O : pOut} {d kc ks : Nat} {Q : pRes → Prop} {es : PH} {k h i op : Int} {x5 x6 x7 : Option Value} (hs_es : sh es) (h1 : 444 ≤ k ∧ k ≤ 480) (h2 : 2 ≤ h ∧ h ≤ 399) (h3 : 0 ≤ i ∧ i ≤ 399) (h4 : 7 ≤ op ∧ op ≤ 2147483647) (h5 : ¬ (op = 10))
    (K1 : ∀ v1 : Int, v1 = (gA es 86 ((h + (-1)) - 1).toNat).toInt → ∀ v2 : Int, v2 = (gA es 86 (h + (-1)).toNat).toInt → op ≠ 8 → op ≠ 9 → op ≠ 11 → ∀ v6 : Int, v6 = (zI (v1 + v2)).toInt → v6 ≤ 0 → op ≠ 7 → ∀ es9 : PH, es9 = sA es 86 ((h + (-1)) - 1).toNat (zI 0) → aW O d 247 kc ks Q (11, [some (.ref 143), some (.int (zI k)), some (.int (zI (h + (-1)))), some (.int (zI (i + 1))), some (.int (zI op)), some (.int (zI v1)), some (.int (zI v2)), some (.int (zI 0))], [], es9))
    (K2 : ∀ v1 : Int, v1 = (gA es 86 ((h + (-1)) - 1).toNat).toInt → ∀ v2 : Int, v2 = (gA es 86 (h + (-1)).toNat).toInt → op ≠ 8 → op ≠ 9 → op ≠ 11 → ∀ v6 : Int, v6 = (zI (v1 + v2)).toInt → v6 ≤ 0 → ¬ (op ≠ 7) → ∀ es10 : PH, es10 = sA es 86 ((h + (-1)) - 1).toNat (zI (v1 + v2)) → aW O d 247 kc ks Q (11, [some (.ref 143), some (.int (zI k)), some (.int (zI (h + (-1)))), some (.int (zI (i + 1))), some (.int (zI op)), some (.int (zI v1)), some (.int (zI v2)), some (.int (zI 0))], [], es10))
    (K3 : ∀ v1 : Int, v1 = (gA es 86 ((h + (-1)) - 1).toNat).toInt → ∀ v2 : Int, v2 = (gA es 86 (h + (-1)).toNat).toInt → op ≠ 8 → op ≠ 9 → op ≠ 11 → ∀ v6 : Int, v6 = (zI (v1 + v2)).toInt → ¬ (v6 ≤ 0) → op ≠ 7 → ∀ es12 : PH, es12 = sA es 86 ((h + (-1)) - 1).toNat (zI 1) → aW O d 247 kc ks Q (11, [some (.ref 143), some (.int (zI k)), some (.int (zI (h + (-1)))), some (.int (zI (i + 1))), some (.int (zI op)), some (.int (zI v1)), some (.int (zI v2)), some (.int (zI 1))], [], es12))
    (K4 : ∀ v1 : Int, v1 = (gA es 86 ((h + (-1)) - 1).toNat).toInt → ∀ v2 : Int, v2 = (gA es 86 (h + (-1)).toNat).toInt → op ≠ 8 → op ≠ 9 → op ≠ 11 → ∀ v6 : Int, v6 = (zI (v1 + v2)).toInt → ¬ (v6 ≤ 0) → ¬ (op ≠ 7) → ∀ es13 : PH, es13 = sA es 86 ((h + (-1)) - 1).toNat (zI (v1 + v2)) → aW O d 247 kc ks Q (11, [some (.ref 143), some (.int (zI k)), some (.int (zI (h + (-1)))), some (.int (zI (i + 1))), some (.int (zI op)), some (.int (zI v1)), some (.int (zI v2)), some (.int (zI 1))], [], es13))
    (K5 : ∀ v1 : Int, v1 = (gA es 86 ((h + (-1)) - 1).toNat).toInt → ∀ v2 : Int, v2 = (gA es 86 (h + (-1)).toNat).toInt → op ≠ 8 → op ≠ 9 → ¬ (op ≠ 11) → ∀ v14 : Int, v14 = (zI (v1 + v2)).toInt → v14 ≠ 2 → ∀ es16 : PH, es16 = sA es 86 ((h + (-1)) - 1).toNat (zI 0) → aW O d 247 kc ks Q (11, [some (.ref 143), some (.int (zI k)), some (.int (zI (h + (-1)))), some (.int (zI (i + 1))), some (.int (zI op)), some (.int (zI v1)), some (.int (zI v2)), some (.int (zI 0))], [], es16))
    (K6 : ∀ v1 : Int, v1 = (gA es 86 ((h + (-1)) - 1).toNat).toInt → ∀ v2 : Int, v2 = (gA es 86 (h + (-1)).toNat).toInt → op ≠ 8 → op ≠ 9 → ¬ (op ≠ 11) → ∀ v14 : Int, v14 = (zI (v1 + v2)).toInt → ¬ (v14 ≠ 2) → ∀ es17 : PH, es17 = sA es 86 ((h + (-1)) - 1).toNat (zI 1) → aW O d 247 kc ks Q (11, [some (.ref 143), some (.int (zI k)), some (.int (zI (h + (-1)))), some (.int (zI (i + 1))), some (.int (zI op)), some (.int (zI v1)), some (.int (zI v2)), some (.int (zI 1))], [], es17))
    (K7 : ∀ v1 : Int, v1 = (gA es 86 ((h + (-1)) - 1).toNat).toInt → ∀ v2 : Int, v2 = (gA es 86 (h + (-1)).toNat).toInt → op ≠ 8 → ¬ (op ≠ 9) → v1 ≤ v2 → ∀ es19 : PH, es19 = sA es 86 ((h + (-1)) - 1).toNat (zI 0) → aW O d 247 kc ks Q (11, [some (.ref 143), some (.int (zI k)), some (.int (zI (h + (-1)))), some (.int (zI (i + 1))), some (.int (zI op)), some (.int (zI v1)), some (.int (zI v2)), some (.int (zI 0))], [], es19))
    (K8 : ∀ v1 : Int, v1 = (gA es 86 ((h + (-1)) - 1).toNat).toInt → ∀ v2 : Int, v2 = (gA es 86 (h + (-1)).toNat).toInt → op ≠ 8 → ¬ (op ≠ 9) → ¬ (v1 ≤ v2) → ∀ es20 : PH, es20 = sA es 86 ((h + (-1)) - 1).toNat (zI 1) → aW O d 247 kc ks Q (11, [some (.ref 143), some (.int (zI k)), some (.int (zI (h + (-1)))), some (.int (zI (i + 1))), some (.int (zI op)), some (.int (zI v1)), some (.int (zI v2)), some (.int (zI 1))], [], es20))
    (K9 : ∀ v1 : Int, v1 = (gA es 86 ((h + (-1)) - 1).toNat).toInt → ∀ v2 : Int, v2 = (gA es 86 (h + (-1)).toNat).toInt → ¬ (op ≠ 8) → v2 ≤ v1 → ∀ es22 : PH, es22 = sA es 86 ((h + (-1)) - 1).toNat (zI 0) → aW O d 247 kc ks Q (11, [some (.ref 143), some (.int (zI k)), some (.int (zI (h + (-1)))), some (.int (zI (i + 1))), some (.int (zI op)), some (.int (zI v1)), some (.int (zI v2)), some (.int (zI 0))], [], es22))
    (K10 : ∀ v1 : Int, v1 = (gA es 86 ((h + (-1)) - 1).toNat).toInt → ∀ v2 : Int, v2 = (gA es 86 (h + (-1)).toNat).toInt → ¬ (op ≠ 8) → ¬ (v2 ≤ v1) → ∀ es23 : PH, es23 = sA es 86 ((h + (-1)) - 1).toNat (zI 1) → aW O d 247 kc ks Q (11, [some (.ref 143), some (.int (zI k)), some (.int (zI (h + (-1)))), some (.int (zI (i + 1))), some (.int (zI op)), some (.int (zI v1)), some (.int (zI v2)), some (.int (zI 1))], [], es23)) :
    aW O d 247 kc ks Q (37, [some (.ref 143), some (.int (zI k)), some (.int (zI h)), some (.int (zI i)), some (.int (zI op)), x5, x6, x7], [], es) := by
  refine x0 (r := (39, [some (.ref 143), some (.int (zI k)), some (.int (zI h)), some (.int (zI i)), some (.int (zI op)), x5, x6, x7], [.int (zI op)], es)) i_247_37 rfl ?_
  refine x0 (r := (41, [some (.ref 143), some (.int (zI k)), some (.int (zI h)), some (.int (zI i)), some (.int (zI op)), x5, x6, x7], [.int (zI 6), .int (zI op)], es)) i_247_39 (by rfl) ?_
  refine x_cmpT i_247_41 (by unfold i32 iLO iHI; omega) (by unfold i32 iLO iHI; omega) rfl (by simp only [zC, cR]; omega) ?_
  refine x0 (r := (89, [some (.ref 143), some (.int (zI k)), some (.int (zI h)), some (.int (zI i)), some (.int (zI op)), x5, x6, x7], [.int (zI op)], es)) i_247_87 rfl ?_
  refine x0 (r := (91, [some (.ref 143), some (.int (zI k)), some (.int (zI h)), some (.int (zI i)), some (.int (zI op)), x5, x6, x7], [.int (zI 10), .int (zI op)], es)) i_247_89 (by rfl) ?_
  refine x_cmpT i_247_91 (by unfold i32 iLO iHI; omega) (by unfold i32 iLO iHI; omega) rfl (by simp only [zC, cR]; omega) ?_
  refine x_iinc (x := h) i_247_115 rfl (by show 2 < 8; decide) ?_
  show aW _ _ _ _ _ _ (118, [some (.ref 143), some (.int (zI k)), some (.int (zI (h + (-1)))), some (.int (zI i)), some (.int (zI op)), x5, x6, x7], [], es)
  refine x0 (r := (119, [some (.ref 143), some (.int (zI k)), some (.int (zI (h + (-1)))), some (.int (zI i)), some (.int (zI op)), x5, x6, x7], [.ref 143], es)) i_247_118 rfl ?_
  refine x_getr (p := 79) (k := 150) i_247_119 hs_es rfl rfl ?_
  show aW _ _ _ _ _ _ (122, [some (.ref 143), some (.int (zI k)), some (.int (zI (h + (-1)))), some (.int (zI i)), some (.int (zI op)), x5, x6, x7], [.ref 150], es)
  refine x0 (r := (123, [some (.ref 143), some (.int (zI k)), some (.int (zI (h + (-1)))), some (.int (zI i)), some (.int (zI op)), x5, x6, x7], [.int (zI (h + (-1))), .ref 150], es)) i_247_122 rfl ?_
  refine x0 (r := (124, [some (.ref 143), some (.int (zI k)), some (.int (zI (h + (-1)))), some (.int (zI i)), some (.int (zI op)), x5, x6, x7], [.int (zI 1), .int (zI (h + (-1))), .ref 150], es)) i_247_123 (by rfl) ?_
  refine x_isub i_247_124 ?_
  refine x_iald (p := 86) i_247_125 hs_es rfl (by unfold i32 iLO iHI; omega) (by omega) (by omega) ?_
  obtain ⟨v1, e_v1⟩ : ∃ z : Int, z = (gA es 86 ((h + (-1)) - 1).toNat).toInt := ⟨_, rfl⟩
  rw [← e_v1]
  have r_v1 : iLO ≤ v1 ∧ v1 ≤ iHI := by rw [e_v1]; exact i32_rng _
  unfold iLO iHI at r_v1
  refine x0 (r := (128, [some (.ref 143), some (.int (zI k)), some (.int (zI (h + (-1)))), some (.int (zI i)), some (.int (zI op)), some (.int (zI v1)), x6, x7], [], es)) i_247_126 rfl ?_
  refine x0 (r := (129, [some (.ref 143), some (.int (zI k)), some (.int (zI (h + (-1)))), some (.int (zI i)), some (.int (zI op)), some (.int (zI v1)), x6, x7], [.ref 143], es)) i_247_128 rfl ?_
  refine x_getr (p := 79) (k := 150) i_247_129 hs_es rfl rfl ?_
  show aW _ _ _ _ _ _ (132, [some (.ref 143), some (.int (zI k)), some (.int (zI (h + (-1)))), some (.int (zI i)), some (.int (zI op)), some (.int (zI v1)), x6, x7], [.ref 150], es)
  refine x0 (r := (133, [some (.ref 143), some (.int (zI k)), some (.int (zI (h + (-1)))), some (.int (zI i)), some (.int (zI op)), some (.int (zI v1)), x6, x7], [.int (zI (h + (-1))), .ref 150], es)) i_247_132 rfl ?_
  refine x_iald (p := 86) i_247_133 hs_es rfl (by unfold i32 iLO iHI; omega) (by omega) (by omega) ?_
  obtain ⟨v2, e_v2⟩ : ∃ z : Int, z = (gA es 86 (h + (-1)).toNat).toInt := ⟨_, rfl⟩
  rw [← e_v2]
  have r_v2 : iLO ≤ v2 ∧ v2 ≤ iHI := by rw [e_v2]; exact i32_rng _
  unfold iLO iHI at r_v2
  refine x0 (r := (136, [some (.ref 143), some (.int (zI k)), some (.int (zI (h + (-1)))), some (.int (zI i)), some (.int (zI op)), some (.int (zI v1)), some (.int (zI v2)), x7], [], es)) i_247_134 rfl ?_
  refine x0 (r := (138, [some (.ref 143), some (.int (zI k)), some (.int (zI (h + (-1)))), some (.int (zI i)), some (.int (zI op)), some (.int (zI v1)), some (.int (zI v2)), x7], [.int (zI op)], es)) i_247_136 rfl ?_
  refine x0 (r := (140, [some (.ref 143), some (.int (zI k)), some (.int (zI (h + (-1)))), some (.int (zI i)), some (.int (zI op)), some (.int (zI v1)), some (.int (zI v2)), x7], [.int (zI 8), .int (zI op)], es)) i_247_138 (by rfl) ?_
  by_cases c3 : op ≠ 8
  · refine x_cmpT i_247_140 (by unfold i32 iLO iHI; omega) (by unfold i32 iLO iHI; omega) rfl (by simp only [zC, cR]; omega) ?_
    refine x0 (r := (160, [some (.ref 143), some (.int (zI k)), some (.int (zI (h + (-1)))), some (.int (zI i)), some (.int (zI op)), some (.int (zI v1)), some (.int (zI v2)), x7], [.int (zI op)], es)) i_247_158 rfl ?_
    refine x0 (r := (162, [some (.ref 143), some (.int (zI k)), some (.int (zI (h + (-1)))), some (.int (zI i)), some (.int (zI op)), some (.int (zI v1)), some (.int (zI v2)), x7], [.int (zI 9), .int (zI op)], es)) i_247_160 (by rfl) ?_
    by_cases c4 : op ≠ 9
    · refine x_cmpT i_247_162 (by unfold i32 iLO iHI; omega) (by unfold i32 iLO iHI; omega) rfl (by simp only [zC, cR]; omega) ?_
      refine x0 (r := (182, [some (.ref 143), some (.int (zI k)), some (.int (zI (h + (-1)))), some (.int (zI i)), some (.int (zI op)), some (.int (zI v1)), some (.int (zI v2)), x7], [.int (zI op)], es)) i_247_180 rfl ?_
      refine x0 (r := (184, [some (.ref 143), some (.int (zI k)), some (.int (zI (h + (-1)))), some (.int (zI i)), some (.int (zI op)), some (.int (zI v1)), some (.int (zI v2)), x7], [.int (zI 11), .int (zI op)], es)) i_247_182 (by rfl) ?_
      by_cases c5 : op ≠ 11
      · refine x_cmpT i_247_184 (by unfold i32 iLO iHI; omega) (by unfold i32 iLO iHI; omega) rfl (by simp only [zC, cR]; omega) ?_
        refine x0 (r := (206, [some (.ref 143), some (.int (zI k)), some (.int (zI (h + (-1)))), some (.int (zI i)), some (.int (zI op)), some (.int (zI v1)), some (.int (zI v2)), x7], [.int (zI v1)], es)) i_247_204 rfl ?_
        refine x0 (r := (208, [some (.ref 143), some (.int (zI k)), some (.int (zI (h + (-1)))), some (.int (zI i)), some (.int (zI op)), some (.int (zI v1)), some (.int (zI v2)), x7], [.int (zI v2), .int (zI v1)], es)) i_247_206 rfl ?_
        refine x_iadd i_247_208 ?_
        rw [← zI_id (zI (v1 + v2))]
        obtain ⟨v6, e_v6⟩ : ∃ z : Int, z = (zI (v1 + v2)).toInt := ⟨_, rfl⟩
        rw [← e_v6]
        have r_v6 : iLO ≤ v6 ∧ v6 ≤ iHI := by rw [e_v6]; exact i32_rng _
        unfold iLO iHI at r_v6
        by_cases c7 : v6 ≤ 0
        · refine x_ifT i_247_209 (by unfold i32 iLO iHI; omega) rfl (by simp only [zC, cR]; omega) ?_
          refine x0 (r := (217, [some (.ref 143), some (.int (zI k)), some (.int (zI (h + (-1)))), some (.int (zI i)), some (.int (zI op)), some (.int (zI v1)), some (.int (zI v2)), x7], [.int (zI 0)], es)) i_247_216 (by rfl) ?_
          refine x0 (r := (219, [some (.ref 143), some (.int (zI k)), some (.int (zI (h + (-1)))), some (.int (zI i)), some (.int (zI op)), some (.int (zI v1)), some (.int (zI v2)), some (.int (zI 0))], [], es)) i_247_217 rfl ?_
          refine x0 (r := (220, [some (.ref 143), some (.int (zI k)), some (.int (zI (h + (-1)))), some (.int (zI i)), some (.int (zI op)), some (.int (zI v1)), some (.int (zI v2)), some (.int (zI 0))], [.ref 143], es)) i_247_219 rfl ?_
          refine x_getr (p := 79) (k := 150) i_247_220 hs_es rfl rfl ?_
          show aW _ _ _ _ _ _ (223, [some (.ref 143), some (.int (zI k)), some (.int (zI (h + (-1)))), some (.int (zI i)), some (.int (zI op)), some (.int (zI v1)), some (.int (zI v2)), some (.int (zI 0))], [.ref 150], es)
          refine x0 (r := (224, [some (.ref 143), some (.int (zI k)), some (.int (zI (h + (-1)))), some (.int (zI i)), some (.int (zI op)), some (.int (zI v1)), some (.int (zI v2)), some (.int (zI 0))], [.int (zI (h + (-1))), .ref 150], es)) i_247_223 rfl ?_
          refine x0 (r := (225, [some (.ref 143), some (.int (zI k)), some (.int (zI (h + (-1)))), some (.int (zI i)), some (.int (zI op)), some (.int (zI v1)), some (.int (zI v2)), some (.int (zI 0))], [.int (zI 1), .int (zI (h + (-1))), .ref 150], es)) i_247_224 (by rfl) ?_
          refine x_isub i_247_225 ?_
          refine x0 (r := (228, [some (.ref 143), some (.int (zI k)), some (.int (zI (h + (-1)))), some (.int (zI i)), some (.int (zI op)), some (.int (zI v1)), some (.int (zI v2)), some (.int (zI 0))], [.int (zI op), .int (zI ((h + (-1)) - 1)), .ref 150], es)) i_247_226 rfl ?_
          refine x0 (r := (230, [some (.ref 143), some (.int (zI k)), some (.int (zI (h + (-1)))), some (.int (zI i)), some (.int (zI op)), some (.int (zI v1)), some (.int (zI v2)), some (.int (zI 0))], [.int (zI 7), .int (zI op), .int (zI ((h + (-1)) - 1)), .ref 150], es)) i_247_228 (by rfl) ?_
          by_cases c8 : op ≠ 7
          · refine x_cmpT i_247_230 (by unfold i32 iLO iHI; omega) (by unfold i32 iLO iHI; omega) rfl (by simp only [zC, cR]; omega) ?_
            refine x0 (r := (243, [some (.ref 143), some (.int (zI k)), some (.int (zI (h + (-1)))), some (.int (zI i)), some (.int (zI op)), some (.int (zI v1)), some (.int (zI v2)), some (.int (zI 0))], [.int (zI 0), .int (zI ((h + (-1)) - 1)), .ref 150], es)) i_247_241 rfl ?_
            refine x_ifT i_247_243 (by unfold i32 iLO iHI; omega) rfl (by simp only [zC, cR]; omega) ?_
            refine x0 (r := (251, [some (.ref 143), some (.int (zI k)), some (.int (zI (h + (-1)))), some (.int (zI i)), some (.int (zI op)), some (.int (zI v1)), some (.int (zI v2)), some (.int (zI 0))], [.int (zI 0), .int (zI ((h + (-1)) - 1)), .ref 150], es)) i_247_250 (by rfl) ?_
            refine x_iast (p := 86) i_247_251 hs_es rfl (by unfold i32 iLO iHI; omega) (by omega) (by omega) ?_
            obtain ⟨es9, e_es9⟩ : ∃ z : PH, z = sA es 86 ((h + (-1)) - 1).toNat (zI 0) := ⟨_, rfl⟩
            have hs_es9 : sh es9 := by rw [e_es9]; exact sh_sA hs_es
            rw [← e_es9]
            refine x_iinc (x := i) i_247_252 rfl (by show 3 < 8; decide) ?_
            show aW _ _ _ _ _ _ (255, [some (.ref 143), some (.int (zI k)), some (.int (zI (h + (-1)))), some (.int (zI (i + 1))), some (.int (zI op)), some (.int (zI v1)), some (.int (zI v2)), some (.int (zI 0))], [], es9)
            refine x0 (r := (11, [some (.ref 143), some (.int (zI k)), some (.int (zI (h + (-1)))), some (.int (zI (i + 1))), some (.int (zI op)), some (.int (zI v1)), some (.int (zI v2)), some (.int (zI 0))], [], es9)) i_247_255 rfl ?_
            exact K1 v1 e_v1 v2 e_v2 c3 c4 c5 v6 e_v6 c7 c8 es9 e_es9
          · refine x_cmpF i_247_230 (by unfold i32 iLO iHI; omega) (by unfold i32 iLO iHI; omega) rfl (by simp only [zC, cR]; omega) ?_
            refine x0 (r := (235, [some (.ref 143), some (.int (zI k)), some (.int (zI (h + (-1)))), some (.int (zI i)), some (.int (zI op)), some (.int (zI v1)), some (.int (zI v2)), some (.int (zI 0))], [.int (zI v1), .int (zI ((h + (-1)) - 1)), .ref 150], es)) i_247_233 rfl ?_
            refine x0 (r := (237, [some (.ref 143), some (.int (zI k)), some (.int (zI (h + (-1)))), some (.int (zI i)), some (.int (zI op)), some (.int (zI v1)), some (.int (zI v2)), some (.int (zI 0))], [.int (zI v2), .int (zI v1), .int (zI ((h + (-1)) - 1)), .ref 150], es)) i_247_235 rfl ?_
            refine x_iadd i_247_237 ?_
            refine x0 (r := (251, [some (.ref 143), some (.int (zI k)), some (.int (zI (h + (-1)))), some (.int (zI i)), some (.int (zI op)), some (.int (zI v1)), some (.int (zI v2)), some (.int (zI 0))], [.int (zI (v1 + v2)), .int (zI ((h + (-1)) - 1)), .ref 150], es)) i_247_238 rfl ?_
            refine x_iast (p := 86) i_247_251 hs_es rfl (by unfold i32 iLO iHI; omega) (by omega) (by omega) ?_
            obtain ⟨es10, e_es10⟩ : ∃ z : PH, z = sA es 86 ((h + (-1)) - 1).toNat (zI (v1 + v2)) := ⟨_, rfl⟩
            have hs_es10 : sh es10 := by rw [e_es10]; exact sh_sA hs_es
            rw [← e_es10]
            refine x_iinc (x := i) i_247_252 rfl (by show 3 < 8; decide) ?_
            show aW _ _ _ _ _ _ (255, [some (.ref 143), some (.int (zI k)), some (.int (zI (h + (-1)))), some (.int (zI (i + 1))), some (.int (zI op)), some (.int (zI v1)), some (.int (zI v2)), some (.int (zI 0))], [], es10)
            refine x0 (r := (11, [some (.ref 143), some (.int (zI k)), some (.int (zI (h + (-1)))), some (.int (zI (i + 1))), some (.int (zI op)), some (.int (zI v1)), some (.int (zI v2)), some (.int (zI 0))], [], es10)) i_247_255 rfl ?_
            exact K2 v1 e_v1 v2 e_v2 c3 c4 c5 v6 e_v6 c7 c8 es10 e_es10
        · refine x_ifF i_247_209 (by unfold i32 iLO iHI; omega) rfl (by simp only [zC, cR]; omega) ?_
          refine x0 (r := (213, [some (.ref 143), some (.int (zI k)), some (.int (zI (h + (-1)))), some (.int (zI i)), some (.int (zI op)), some (.int (zI v1)), some (.int (zI v2)), x7], [.int (zI 1)], es)) i_247_212 (by rfl) ?_
          refine x0 (r := (217, [some (.ref 143), some (.int (zI k)), some (.int (zI (h + (-1)))), some (.int (zI i)), some (.int (zI op)), some (.int (zI v1)), some (.int (zI v2)), x7], [.int (zI 1)], es)) i_247_213 rfl ?_
          refine x0 (r := (219, [some (.ref 143), some (.int (zI k)), some (.int (zI (h + (-1)))), some (.int (zI i)), some (.int (zI op)), some (.int (zI v1)), some (.int (zI v2)), some (.int (zI 1))], [], es)) i_247_217 rfl ?_
          refine x0 (r := (220, [some (.ref 143), some (.int (zI k)), some (.int (zI (h + (-1)))), some (.int (zI i)), some (.int (zI op)), some (.int (zI v1)), some (.int (zI v2)), some (.int (zI 1))], [.ref 143], es)) i_247_219 rfl ?_
          refine x_getr (p := 79) (k := 150) i_247_220 hs_es rfl rfl ?_
          show aW _ _ _ _ _ _ (223, [some (.ref 143), some (.int (zI k)), some (.int (zI (h + (-1)))), some (.int (zI i)), some (.int (zI op)), some (.int (zI v1)), some (.int (zI v2)), some (.int (zI 1))], [.ref 150], es)
          refine x0 (r := (224, [some (.ref 143), some (.int (zI k)), some (.int (zI (h + (-1)))), some (.int (zI i)), some (.int (zI op)), some (.int (zI v1)), some (.int (zI v2)), some (.int (zI 1))], [.int (zI (h + (-1))), .ref 150], es)) i_247_223 rfl ?_
          refine x0 (r := (225, [some (.ref 143), some (.int (zI k)), some (.int (zI (h + (-1)))), some (.int (zI i)), some (.int (zI op)), some (.int (zI v1)), some (.int (zI v2)), some (.int (zI 1))], [.int (zI 1), .int (zI (h + (-1))), .ref 150], es)) i_247_224 (by rfl) ?_
          refine x_isub i_247_225 ?_
          refine x0 (r := (228, [some (.ref 143), some (.int (zI k)), some (.int (zI (h + (-1)))), some (.int (zI i)), some (.int (zI op)), some (.int (zI v1)), some (.int (zI v2)), some (.int (zI 1))], [.int (zI op), .int (zI ((h + (-1)) - 1)), .ref 150], es)) i_247_226 rfl ?_
          refine x0 (r := (230, [some (.ref 143), some (.int (zI k)), some (.int (zI (h + (-1)))), some (.int (zI i)), some (.int (zI op)), some (.int (zI v1)), some (.int (zI v2)), some (.int (zI 1))], [.int (zI 7), .int (zI op), .int (zI ((h + (-1)) - 1)), .ref 150], es)) i_247_228 (by rfl) ?_
          by_cases c11 : op ≠ 7
          · refine x_cmpT i_247_230 (by unfold i32 iLO iHI; omega) (by unfold i32 iLO iHI; omega) rfl (by simp only [zC, cR]; omega) ?_
            refine x0 (r := (243, [some (.ref 143), some (.int (zI k)), some (.int (zI (h + (-1)))), some (.int (zI i)), some (.int (zI op)), some (.int (zI v1)), some (.int (zI v2)), some (.int (zI 1))], [.int (zI 1), .int (zI ((h + (-1)) - 1)), .ref 150], es)) i_247_241 rfl ?_
            refine x_ifF i_247_243 (by unfold i32 iLO iHI; omega) rfl (by simp only [zC, cR]; omega) ?_
            refine x0 (r := (247, [some (.ref 143), some (.int (zI k)), some (.int (zI (h + (-1)))), some (.int (zI i)), some (.int (zI op)), some (.int (zI v1)), some (.int (zI v2)), some (.int (zI 1))], [.int (zI 1), .int (zI ((h + (-1)) - 1)), .ref 150], es)) i_247_246 (by rfl) ?_
            refine x0 (r := (251, [some (.ref 143), some (.int (zI k)), some (.int (zI (h + (-1)))), some (.int (zI i)), some (.int (zI op)), some (.int (zI v1)), some (.int (zI v2)), some (.int (zI 1))], [.int (zI 1), .int (zI ((h + (-1)) - 1)), .ref 150], es)) i_247_247 rfl ?_
            refine x_iast (p := 86) i_247_251 hs_es rfl (by unfold i32 iLO iHI; omega) (by omega) (by omega) ?_
            obtain ⟨es12, e_es12⟩ : ∃ z : PH, z = sA es 86 ((h + (-1)) - 1).toNat (zI 1) := ⟨_, rfl⟩
            have hs_es12 : sh es12 := by rw [e_es12]; exact sh_sA hs_es
            rw [← e_es12]
            refine x_iinc (x := i) i_247_252 rfl (by show 3 < 8; decide) ?_
            show aW _ _ _ _ _ _ (255, [some (.ref 143), some (.int (zI k)), some (.int (zI (h + (-1)))), some (.int (zI (i + 1))), some (.int (zI op)), some (.int (zI v1)), some (.int (zI v2)), some (.int (zI 1))], [], es12)
            refine x0 (r := (11, [some (.ref 143), some (.int (zI k)), some (.int (zI (h + (-1)))), some (.int (zI (i + 1))), some (.int (zI op)), some (.int (zI v1)), some (.int (zI v2)), some (.int (zI 1))], [], es12)) i_247_255 rfl ?_
            exact K3 v1 e_v1 v2 e_v2 c3 c4 c5 v6 e_v6 c7 c11 es12 e_es12
          · refine x_cmpF i_247_230 (by unfold i32 iLO iHI; omega) (by unfold i32 iLO iHI; omega) rfl (by simp only [zC, cR]; omega) ?_
            refine x0 (r := (235, [some (.ref 143), some (.int (zI k)), some (.int (zI (h + (-1)))), some (.int (zI i)), some (.int (zI op)), some (.int (zI v1)), some (.int (zI v2)), some (.int (zI 1))], [.int (zI v1), .int (zI ((h + (-1)) - 1)), .ref 150], es)) i_247_233 rfl ?_
            refine x0 (r := (237, [some (.ref 143), some (.int (zI k)), some (.int (zI (h + (-1)))), some (.int (zI i)), some (.int (zI op)), some (.int (zI v1)), some (.int (zI v2)), some (.int (zI 1))], [.int (zI v2), .int (zI v1), .int (zI ((h + (-1)) - 1)), .ref 150], es)) i_247_235 rfl ?_
            refine x_iadd i_247_237 ?_
            refine x0 (r := (251, [some (.ref 143), some (.int (zI k)), some (.int (zI (h + (-1)))), some (.int (zI i)), some (.int (zI op)), some (.int (zI v1)), some (.int (zI v2)), some (.int (zI 1))], [.int (zI (v1 + v2)), .int (zI ((h + (-1)) - 1)), .ref 150], es)) i_247_238 rfl ?_
            refine x_iast (p := 86) i_247_251 hs_es rfl (by unfold i32 iLO iHI; omega) (by omega) (by omega) ?_
            obtain ⟨es13, e_es13⟩ : ∃ z : PH, z = sA es 86 ((h + (-1)) - 1).toNat (zI (v1 + v2)) := ⟨_, rfl⟩
            have hs_es13 : sh es13 := by rw [e_es13]; exact sh_sA hs_es
            rw [← e_es13]
            refine x_iinc (x := i) i_247_252 rfl (by show 3 < 8; decide) ?_
            show aW _ _ _ _ _ _ (255, [some (.ref 143), some (.int (zI k)), some (.int (zI (h + (-1)))), some (.int (zI (i + 1))), some (.int (zI op)), some (.int (zI v1)), some (.int (zI v2)), some (.int (zI 1))], [], es13)
            refine x0 (r := (11, [some (.ref 143), some (.int (zI k)), some (.int (zI (h + (-1)))), some (.int (zI (i + 1))), some (.int (zI op)), some (.int (zI v1)), some (.int (zI v2)), some (.int (zI 1))], [], es13)) i_247_255 rfl ?_
            exact K4 v1 e_v1 v2 e_v2 c3 c4 c5 v6 e_v6 c7 c11 es13 e_es13
      · refine x_cmpF i_247_184 (by unfold i32 iLO iHI; omega) (by unfold i32 iLO iHI; omega) rfl (by simp only [zC, cR]; omega) ?_
        refine x0 (r := (189, [some (.ref 143), some (.int (zI k)), some (.int (zI (h + (-1)))), some (.int (zI i)), some (.int (zI op)), some (.int (zI v1)), some (.int (zI v2)), x7], [.int (zI v1)], es)) i_247_187 rfl ?_
        refine x0 (r := (191, [some (.ref 143), some (.int (zI k)), some (.int (zI (h + (-1)))), some (.int (zI i)), some (.int (zI op)), some (.int (zI v1)), some (.int (zI v2)), x7], [.int (zI v2), .int (zI v1)], es)) i_247_189 rfl ?_
        refine x_iadd i_247_191 ?_
        rw [← zI_id (zI (v1 + v2))]
        obtain ⟨v14, e_v14⟩ : ∃ z : Int, z = (zI (v1 + v2)).toInt := ⟨_, rfl⟩
        rw [← e_v14]
        have r_v14 : iLO ≤ v14 ∧ v14 ≤ iHI := by rw [e_v14]; exact i32_rng _
        unfold iLO iHI at r_v14
        refine x0 (r := (193, [some (.ref 143), some (.int (zI k)), some (.int (zI (h + (-1)))), some (.int (zI i)), some (.int (zI op)), some (.int (zI v1)), some (.int (zI v2)), x7], [.int (zI 2), .int (zI v14)], es)) i_247_192 (by rfl) ?_
        by_cases c15 : v14 ≠ 2
        · refine x_cmpT i_247_193 (by unfold i32 iLO iHI; omega) (by unfold i32 iLO iHI; omega) rfl (by simp only [zC, cR]; omega) ?_
          refine x0 (r := (201, [some (.ref 143), some (.int (zI k)), some (.int (zI (h + (-1)))), some (.int (zI i)), some (.int (zI op)), some (.int (zI v1)), some (.int (zI v2)), x7], [.int (zI 0)], es)) i_247_200 (by rfl) ?_
          refine x0 (r := (217, [some (.ref 143), some (.int (zI k)), some (.int (zI (h + (-1)))), some (.int (zI i)), some (.int (zI op)), some (.int (zI v1)), some (.int (zI v2)), x7], [.int (zI 0)], es)) i_247_201 rfl ?_
          refine x0 (r := (219, [some (.ref 143), some (.int (zI k)), some (.int (zI (h + (-1)))), some (.int (zI i)), some (.int (zI op)), some (.int (zI v1)), some (.int (zI v2)), some (.int (zI 0))], [], es)) i_247_217 rfl ?_
          refine x0 (r := (220, [some (.ref 143), some (.int (zI k)), some (.int (zI (h + (-1)))), some (.int (zI i)), some (.int (zI op)), some (.int (zI v1)), some (.int (zI v2)), some (.int (zI 0))], [.ref 143], es)) i_247_219 rfl ?_
          refine x_getr (p := 79) (k := 150) i_247_220 hs_es rfl rfl ?_
          show aW _ _ _ _ _ _ (223, [some (.ref 143), some (.int (zI k)), some (.int (zI (h + (-1)))), some (.int (zI i)), some (.int (zI op)), some (.int (zI v1)), some (.int (zI v2)), some (.int (zI 0))], [.ref 150], es)
          refine x0 (r := (224, [some (.ref 143), some (.int (zI k)), some (.int (zI (h + (-1)))), some (.int (zI i)), some (.int (zI op)), some (.int (zI v1)), some (.int (zI v2)), some (.int (zI 0))], [.int (zI (h + (-1))), .ref 150], es)) i_247_223 rfl ?_
          refine x0 (r := (225, [some (.ref 143), some (.int (zI k)), some (.int (zI (h + (-1)))), some (.int (zI i)), some (.int (zI op)), some (.int (zI v1)), some (.int (zI v2)), some (.int (zI 0))], [.int (zI 1), .int (zI (h + (-1))), .ref 150], es)) i_247_224 (by rfl) ?_
          refine x_isub i_247_225 ?_
          refine x0 (r := (228, [some (.ref 143), some (.int (zI k)), some (.int (zI (h + (-1)))), some (.int (zI i)), some (.int (zI op)), some (.int (zI v1)), some (.int (zI v2)), some (.int (zI 0))], [.int (zI op), .int (zI ((h + (-1)) - 1)), .ref 150], es)) i_247_226 rfl ?_
          refine x0 (r := (230, [some (.ref 143), some (.int (zI k)), some (.int (zI (h + (-1)))), some (.int (zI i)), some (.int (zI op)), some (.int (zI v1)), some (.int (zI v2)), some (.int (zI 0))], [.int (zI 7), .int (zI op), .int (zI ((h + (-1)) - 1)), .ref 150], es)) i_247_228 (by rfl) ?_
          refine x_cmpT i_247_230 (by unfold i32 iLO iHI; omega) (by unfold i32 iLO iHI; omega) rfl (by simp only [zC, cR]; omega) ?_
          refine x0 (r := (243, [some (.ref 143), some (.int (zI k)), some (.int (zI (h + (-1)))), some (.int (zI i)), some (.int (zI op)), some (.int (zI v1)), some (.int (zI v2)), some (.int (zI 0))], [.int (zI 0), .int (zI ((h + (-1)) - 1)), .ref 150], es)) i_247_241 rfl ?_
          refine x_ifT i_247_243 (by unfold i32 iLO iHI; omega) rfl (by simp only [zC, cR]; omega) ?_
          refine x0 (r := (251, [some (.ref 143), some (.int (zI k)), some (.int (zI (h + (-1)))), some (.int (zI i)), some (.int (zI op)), some (.int (zI v1)), some (.int (zI v2)), some (.int (zI 0))], [.int (zI 0), .int (zI ((h + (-1)) - 1)), .ref 150], es)) i_247_250 (by rfl) ?_
          refine x_iast (p := 86) i_247_251 hs_es rfl (by unfold i32 iLO iHI; omega) (by omega) (by omega) ?_
          obtain ⟨es16, e_es16⟩ : ∃ z : PH, z = sA es 86 ((h + (-1)) - 1).toNat (zI 0) := ⟨_, rfl⟩
          have hs_es16 : sh es16 := by rw [e_es16]; exact sh_sA hs_es
          rw [← e_es16]
          refine x_iinc (x := i) i_247_252 rfl (by show 3 < 8; decide) ?_
          show aW _ _ _ _ _ _ (255, [some (.ref 143), some (.int (zI k)), some (.int (zI (h + (-1)))), some (.int (zI (i + 1))), some (.int (zI op)), some (.int (zI v1)), some (.int (zI v2)), some (.int (zI 0))], [], es16)
          refine x0 (r := (11, [some (.ref 143), some (.int (zI k)), some (.int (zI (h + (-1)))), some (.int (zI (i + 1))), some (.int (zI op)), some (.int (zI v1)), some (.int (zI v2)), some (.int (zI 0))], [], es16)) i_247_255 rfl ?_
          exact K5 v1 e_v1 v2 e_v2 c3 c4 c5 v14 e_v14 c15 es16 e_es16
        · refine x_cmpF i_247_193 (by unfold i32 iLO iHI; omega) (by unfold i32 iLO iHI; omega) rfl (by simp only [zC, cR]; omega) ?_
          refine x0 (r := (197, [some (.ref 143), some (.int (zI k)), some (.int (zI (h + (-1)))), some (.int (zI i)), some (.int (zI op)), some (.int (zI v1)), some (.int (zI v2)), x7], [.int (zI 1)], es)) i_247_196 (by rfl) ?_
          refine x0 (r := (217, [some (.ref 143), some (.int (zI k)), some (.int (zI (h + (-1)))), some (.int (zI i)), some (.int (zI op)), some (.int (zI v1)), some (.int (zI v2)), x7], [.int (zI 1)], es)) i_247_197 rfl ?_
          refine x0 (r := (219, [some (.ref 143), some (.int (zI k)), some (.int (zI (h + (-1)))), some (.int (zI i)), some (.int (zI op)), some (.int (zI v1)), some (.int (zI v2)), some (.int (zI 1))], [], es)) i_247_217 rfl ?_
          refine x0 (r := (220, [some (.ref 143), some (.int (zI k)), some (.int (zI (h + (-1)))), some (.int (zI i)), some (.int (zI op)), some (.int (zI v1)), some (.int (zI v2)), some (.int (zI 1))], [.ref 143], es)) i_247_219 rfl ?_
          refine x_getr (p := 79) (k := 150) i_247_220 hs_es rfl rfl ?_
          show aW _ _ _ _ _ _ (223, [some (.ref 143), some (.int (zI k)), some (.int (zI (h + (-1)))), some (.int (zI i)), some (.int (zI op)), some (.int (zI v1)), some (.int (zI v2)), some (.int (zI 1))], [.ref 150], es)
          refine x0 (r := (224, [some (.ref 143), some (.int (zI k)), some (.int (zI (h + (-1)))), some (.int (zI i)), some (.int (zI op)), some (.int (zI v1)), some (.int (zI v2)), some (.int (zI 1))], [.int (zI (h + (-1))), .ref 150], es)) i_247_223 rfl ?_
          refine x0 (r := (225, [some (.ref 143), some (.int (zI k)), some (.int (zI (h + (-1)))), some (.int (zI i)), some (.int (zI op)), some (.int (zI v1)), some (.int (zI v2)), some (.int (zI 1))], [.int (zI 1), .int (zI (h + (-1))), .ref 150], es)) i_247_224 (by rfl) ?_
          refine x_isub i_247_225 ?_
          refine x0 (r := (228, [some (.ref 143), some (.int (zI k)), some (.int (zI (h + (-1)))), some (.int (zI i)), some (.int (zI op)), some (.int (zI v1)), some (.int (zI v2)), some (.int (zI 1))], [.int (zI op), .int (zI ((h + (-1)) - 1)), .ref 150], es)) i_247_226 rfl ?_
          refine x0 (r := (230, [some (.ref 143), some (.int (zI k)), some (.int (zI (h + (-1)))), some (.int (zI i)), some (.int (zI op)), some (.int (zI v1)), some (.int (zI v2)), some (.int (zI 1))], [.int (zI 7), .int (zI op), .int (zI ((h + (-1)) - 1)), .ref 150], es)) i_247_228 (by rfl) ?_
          refine x_cmpT i_247_230 (by unfold i32 iLO iHI; omega) (by unfold i32 iLO iHI; omega) rfl (by simp only [zC, cR]; omega) ?_
          refine x0 (r := (243, [some (.ref 143), some (.int (zI k)), some (.int (zI (h + (-1)))), some (.int (zI i)), some (.int (zI op)), some (.int (zI v1)), some (.int (zI v2)), some (.int (zI 1))], [.int (zI 1), .int (zI ((h + (-1)) - 1)), .ref 150], es)) i_247_241 rfl ?_
          refine x_ifF i_247_243 (by unfold i32 iLO iHI; omega) rfl (by simp only [zC, cR]; omega) ?_
          refine x0 (r := (247, [some (.ref 143), some (.int (zI k)), some (.int (zI (h + (-1)))), some (.int (zI i)), some (.int (zI op)), some (.int (zI v1)), some (.int (zI v2)), some (.int (zI 1))], [.int (zI 1), .int (zI ((h + (-1)) - 1)), .ref 150], es)) i_247_246 (by rfl) ?_
          refine x0 (r := (251, [some (.ref 143), some (.int (zI k)), some (.int (zI (h + (-1)))), some (.int (zI i)), some (.int (zI op)), some (.int (zI v1)), some (.int (zI v2)), some (.int (zI 1))], [.int (zI 1), .int (zI ((h + (-1)) - 1)), .ref 150], es)) i_247_247 rfl ?_
          refine x_iast (p := 86) i_247_251 hs_es rfl (by unfold i32 iLO iHI; omega) (by omega) (by omega) ?_
          obtain ⟨es17, e_es17⟩ : ∃ z : PH, z = sA es 86 ((h + (-1)) - 1).toNat (zI 1) := ⟨_, rfl⟩
          have hs_es17 : sh es17 := by rw [e_es17]; exact sh_sA hs_es
          rw [← e_es17]
          refine x_iinc (x := i) i_247_252 rfl (by show 3 < 8; decide) ?_
          show aW _ _ _ _ _ _ (255, [some (.ref 143), some (.int (zI k)), some (.int (zI (h + (-1)))), some (.int (zI (i + 1))), some (.int (zI op)), some (.int (zI v1)), some (.int (zI v2)), some (.int (zI 1))], [], es17)
          refine x0 (r := (11, [some (.ref 143), some (.int (zI k)), some (.int (zI (h + (-1)))), some (.int (zI (i + 1))), some (.int (zI op)), some (.int (zI v1)), some (.int (zI v2)), some (.int (zI 1))], [], es17)) i_247_255 rfl ?_
          exact K6 v1 e_v1 v2 e_v2 c3 c4 c5 v14 e_v14 c15 es17 e_es17
    · refine x_cmpF i_247_162 (by unfold i32 iLO iHI; omega) (by unfold i32 iLO iHI; omega) rfl (by simp only [zC, cR]; omega) ?_
      refine x0 (r := (167, [some (.ref 143), some (.int (zI k)), some (.int (zI (h + (-1)))), some (.int (zI i)), some (.int (zI op)), some (.int (zI v1)), some (.int (zI v2)), x7], [.int (zI v1)], es)) i_247_165 rfl ?_
      refine x0 (r := (169, [some (.ref 143), some (.int (zI k)), some (.int (zI (h + (-1)))), some (.int (zI i)), some (.int (zI op)), some (.int (zI v1)), some (.int (zI v2)), x7], [.int (zI v2), .int (zI v1)], es)) i_247_167 rfl ?_
      by_cases c18 : v1 ≤ v2
      · refine x_cmpT i_247_169 (by unfold i32 iLO iHI; omega) (by unfold i32 iLO iHI; omega) rfl (by simp only [zC, cR]; omega) ?_
        refine x0 (r := (177, [some (.ref 143), some (.int (zI k)), some (.int (zI (h + (-1)))), some (.int (zI i)), some (.int (zI op)), some (.int (zI v1)), some (.int (zI v2)), x7], [.int (zI 0)], es)) i_247_176 (by rfl) ?_
        refine x0 (r := (217, [some (.ref 143), some (.int (zI k)), some (.int (zI (h + (-1)))), some (.int (zI i)), some (.int (zI op)), some (.int (zI v1)), some (.int (zI v2)), x7], [.int (zI 0)], es)) i_247_177 rfl ?_
        refine x0 (r := (219, [some (.ref 143), some (.int (zI k)), some (.int (zI (h + (-1)))), some (.int (zI i)), some (.int (zI op)), some (.int (zI v1)), some (.int (zI v2)), some (.int (zI 0))], [], es)) i_247_217 rfl ?_
        refine x0 (r := (220, [some (.ref 143), some (.int (zI k)), some (.int (zI (h + (-1)))), some (.int (zI i)), some (.int (zI op)), some (.int (zI v1)), some (.int (zI v2)), some (.int (zI 0))], [.ref 143], es)) i_247_219 rfl ?_
        refine x_getr (p := 79) (k := 150) i_247_220 hs_es rfl rfl ?_
        show aW _ _ _ _ _ _ (223, [some (.ref 143), some (.int (zI k)), some (.int (zI (h + (-1)))), some (.int (zI i)), some (.int (zI op)), some (.int (zI v1)), some (.int (zI v2)), some (.int (zI 0))], [.ref 150], es)
        refine x0 (r := (224, [some (.ref 143), some (.int (zI k)), some (.int (zI (h + (-1)))), some (.int (zI i)), some (.int (zI op)), some (.int (zI v1)), some (.int (zI v2)), some (.int (zI 0))], [.int (zI (h + (-1))), .ref 150], es)) i_247_223 rfl ?_
        refine x0 (r := (225, [some (.ref 143), some (.int (zI k)), some (.int (zI (h + (-1)))), some (.int (zI i)), some (.int (zI op)), some (.int (zI v1)), some (.int (zI v2)), some (.int (zI 0))], [.int (zI 1), .int (zI (h + (-1))), .ref 150], es)) i_247_224 (by rfl) ?_
        refine x_isub i_247_225 ?_
        refine x0 (r := (228, [some (.ref 143), some (.int (zI k)), some (.int (zI (h + (-1)))), some (.int (zI i)), some (.int (zI op)), some (.int (zI v1)), some (.int (zI v2)), some (.int (zI 0))], [.int (zI op), .int (zI ((h + (-1)) - 1)), .ref 150], es)) i_247_226 rfl ?_
        refine x0 (r := (230, [some (.ref 143), some (.int (zI k)), some (.int (zI (h + (-1)))), some (.int (zI i)), some (.int (zI op)), some (.int (zI v1)), some (.int (zI v2)), some (.int (zI 0))], [.int (zI 7), .int (zI op), .int (zI ((h + (-1)) - 1)), .ref 150], es)) i_247_228 (by rfl) ?_
        refine x_cmpT i_247_230 (by unfold i32 iLO iHI; omega) (by unfold i32 iLO iHI; omega) rfl (by simp only [zC, cR]; omega) ?_
        refine x0 (r := (243, [some (.ref 143), some (.int (zI k)), some (.int (zI (h + (-1)))), some (.int (zI i)), some (.int (zI op)), some (.int (zI v1)), some (.int (zI v2)), some (.int (zI 0))], [.int (zI 0), .int (zI ((h + (-1)) - 1)), .ref 150], es)) i_247_241 rfl ?_
        refine x_ifT i_247_243 (by unfold i32 iLO iHI; omega) rfl (by simp only [zC, cR]; omega) ?_
        refine x0 (r := (251, [some (.ref 143), some (.int (zI k)), some (.int (zI (h + (-1)))), some (.int (zI i)), some (.int (zI op)), some (.int (zI v1)), some (.int (zI v2)), some (.int (zI 0))], [.int (zI 0), .int (zI ((h + (-1)) - 1)), .ref 150], es)) i_247_250 (by rfl) ?_
        refine x_iast (p := 86) i_247_251 hs_es rfl (by unfold i32 iLO iHI; omega) (by omega) (by omega) ?_
        obtain ⟨es19, e_es19⟩ : ∃ z : PH, z = sA es 86 ((h + (-1)) - 1).toNat (zI 0) := ⟨_, rfl⟩
        have hs_es19 : sh es19 := by rw [e_es19]; exact sh_sA hs_es
        rw [← e_es19]
        refine x_iinc (x := i) i_247_252 rfl (by show 3 < 8; decide) ?_
        show aW _ _ _ _ _ _ (255, [some (.ref 143), some (.int (zI k)), some (.int (zI (h + (-1)))), some (.int (zI (i + 1))), some (.int (zI op)), some (.int (zI v1)), some (.int (zI v2)), some (.int (zI 0))], [], es19)
        refine x0 (r := (11, [some (.ref 143), some (.int (zI k)), some (.int (zI (h + (-1)))), some (.int (zI (i + 1))), some (.int (zI op)), some (.int (zI v1)), some (.int (zI v2)), some (.int (zI 0))], [], es19)) i_247_255 rfl ?_
        exact K7 v1 e_v1 v2 e_v2 c3 c4 c18 es19 e_es19
      · refine x_cmpF i_247_169 (by unfold i32 iLO iHI; omega) (by unfold i32 iLO iHI; omega) rfl (by simp only [zC, cR]; omega) ?_
        refine x0 (r := (173, [some (.ref 143), some (.int (zI k)), some (.int (zI (h + (-1)))), some (.int (zI i)), some (.int (zI op)), some (.int (zI v1)), some (.int (zI v2)), x7], [.int (zI 1)], es)) i_247_172 (by rfl) ?_
        refine x0 (r := (217, [some (.ref 143), some (.int (zI k)), some (.int (zI (h + (-1)))), some (.int (zI i)), some (.int (zI op)), some (.int (zI v1)), some (.int (zI v2)), x7], [.int (zI 1)], es)) i_247_173 rfl ?_
        refine x0 (r := (219, [some (.ref 143), some (.int (zI k)), some (.int (zI (h + (-1)))), some (.int (zI i)), some (.int (zI op)), some (.int (zI v1)), some (.int (zI v2)), some (.int (zI 1))], [], es)) i_247_217 rfl ?_
        refine x0 (r := (220, [some (.ref 143), some (.int (zI k)), some (.int (zI (h + (-1)))), some (.int (zI i)), some (.int (zI op)), some (.int (zI v1)), some (.int (zI v2)), some (.int (zI 1))], [.ref 143], es)) i_247_219 rfl ?_
        refine x_getr (p := 79) (k := 150) i_247_220 hs_es rfl rfl ?_
        show aW _ _ _ _ _ _ (223, [some (.ref 143), some (.int (zI k)), some (.int (zI (h + (-1)))), some (.int (zI i)), some (.int (zI op)), some (.int (zI v1)), some (.int (zI v2)), some (.int (zI 1))], [.ref 150], es)
        refine x0 (r := (224, [some (.ref 143), some (.int (zI k)), some (.int (zI (h + (-1)))), some (.int (zI i)), some (.int (zI op)), some (.int (zI v1)), some (.int (zI v2)), some (.int (zI 1))], [.int (zI (h + (-1))), .ref 150], es)) i_247_223 rfl ?_
        refine x0 (r := (225, [some (.ref 143), some (.int (zI k)), some (.int (zI (h + (-1)))), some (.int (zI i)), some (.int (zI op)), some (.int (zI v1)), some (.int (zI v2)), some (.int (zI 1))], [.int (zI 1), .int (zI (h + (-1))), .ref 150], es)) i_247_224 (by rfl) ?_
        refine x_isub i_247_225 ?_
        refine x0 (r := (228, [some (.ref 143), some (.int (zI k)), some (.int (zI (h + (-1)))), some (.int (zI i)), some (.int (zI op)), some (.int (zI v1)), some (.int (zI v2)), some (.int (zI 1))], [.int (zI op), .int (zI ((h + (-1)) - 1)), .ref 150], es)) i_247_226 rfl ?_
        refine x0 (r := (230, [some (.ref 143), some (.int (zI k)), some (.int (zI (h + (-1)))), some (.int (zI i)), some (.int (zI op)), some (.int (zI v1)), some (.int (zI v2)), some (.int (zI 1))], [.int (zI 7), .int (zI op), .int (zI ((h + (-1)) - 1)), .ref 150], es)) i_247_228 (by rfl) ?_
        refine x_cmpT i_247_230 (by unfold i32 iLO iHI; omega) (by unfold i32 iLO iHI; omega) rfl (by simp only [zC, cR]; omega) ?_
        refine x0 (r := (243, [some (.ref 143), some (.int (zI k)), some (.int (zI (h + (-1)))), some (.int (zI i)), some (.int (zI op)), some (.int (zI v1)), some (.int (zI v2)), some (.int (zI 1))], [.int (zI 1), .int (zI ((h + (-1)) - 1)), .ref 150], es)) i_247_241 rfl ?_
        refine x_ifF i_247_243 (by unfold i32 iLO iHI; omega) rfl (by simp only [zC, cR]; omega) ?_
        refine x0 (r := (247, [some (.ref 143), some (.int (zI k)), some (.int (zI (h + (-1)))), some (.int (zI i)), some (.int (zI op)), some (.int (zI v1)), some (.int (zI v2)), some (.int (zI 1))], [.int (zI 1), .int (zI ((h + (-1)) - 1)), .ref 150], es)) i_247_246 (by rfl) ?_
        refine x0 (r := (251, [some (.ref 143), some (.int (zI k)), some (.int (zI (h + (-1)))), some (.int (zI i)), some (.int (zI op)), some (.int (zI v1)), some (.int (zI v2)), some (.int (zI 1))], [.int (zI 1), .int (zI ((h + (-1)) - 1)), .ref 150], es)) i_247_247 rfl ?_
        refine x_iast (p := 86) i_247_251 hs_es rfl (by unfold i32 iLO iHI; omega) (by omega) (by omega) ?_
        obtain ⟨es20, e_es20⟩ : ∃ z : PH, z = sA es 86 ((h + (-1)) - 1).toNat (zI 1) := ⟨_, rfl⟩
        have hs_es20 : sh es20 := by rw [e_es20]; exact sh_sA hs_es
        rw [← e_es20]
        refine x_iinc (x := i) i_247_252 rfl (by show 3 < 8; decide) ?_
        show aW _ _ _ _ _ _ (255, [some (.ref 143), some (.int (zI k)), some (.int (zI (h + (-1)))), some (.int (zI (i + 1))), some (.int (zI op)), some (.int (zI v1)), some (.int (zI v2)), some (.int (zI 1))], [], es20)
        refine x0 (r := (11, [some (.ref 143), some (.int (zI k)), some (.int (zI (h + (-1)))), some (.int (zI (i + 1))), some (.int (zI op)), some (.int (zI v1)), some (.int (zI v2)), some (.int (zI 1))], [], es20)) i_247_255 rfl ?_
        exact K8 v1 e_v1 v2 e_v2 c3 c4 c18 es20 e_es20
  · refine x_cmpF i_247_140 (by unfold i32 iLO iHI; omega) (by unfold i32 iLO iHI; omega) rfl (by simp only [zC, cR]; omega) ?_
    refine x0 (r := (145, [some (.ref 143), some (.int (zI k)), some (.int (zI (h + (-1)))), some (.int (zI i)), some (.int (zI op)), some (.int (zI v1)), some (.int (zI v2)), x7], [.int (zI v1)], es)) i_247_143 rfl ?_
    refine x0 (r := (147, [some (.ref 143), some (.int (zI k)), some (.int (zI (h + (-1)))), some (.int (zI i)), some (.int (zI op)), some (.int (zI v1)), some (.int (zI v2)), x7], [.int (zI v2), .int (zI v1)], es)) i_247_145 rfl ?_
    by_cases c21 : v2 ≤ v1
    · refine x_cmpT i_247_147 (by unfold i32 iLO iHI; omega) (by unfold i32 iLO iHI; omega) rfl (by simp only [zC, cR]; omega) ?_
      refine x0 (r := (155, [some (.ref 143), some (.int (zI k)), some (.int (zI (h + (-1)))), some (.int (zI i)), some (.int (zI op)), some (.int (zI v1)), some (.int (zI v2)), x7], [.int (zI 0)], es)) i_247_154 (by rfl) ?_
      refine x0 (r := (217, [some (.ref 143), some (.int (zI k)), some (.int (zI (h + (-1)))), some (.int (zI i)), some (.int (zI op)), some (.int (zI v1)), some (.int (zI v2)), x7], [.int (zI 0)], es)) i_247_155 rfl ?_
      refine x0 (r := (219, [some (.ref 143), some (.int (zI k)), some (.int (zI (h + (-1)))), some (.int (zI i)), some (.int (zI op)), some (.int (zI v1)), some (.int (zI v2)), some (.int (zI 0))], [], es)) i_247_217 rfl ?_
      refine x0 (r := (220, [some (.ref 143), some (.int (zI k)), some (.int (zI (h + (-1)))), some (.int (zI i)), some (.int (zI op)), some (.int (zI v1)), some (.int (zI v2)), some (.int (zI 0))], [.ref 143], es)) i_247_219 rfl ?_
      refine x_getr (p := 79) (k := 150) i_247_220 hs_es rfl rfl ?_
      show aW _ _ _ _ _ _ (223, [some (.ref 143), some (.int (zI k)), some (.int (zI (h + (-1)))), some (.int (zI i)), some (.int (zI op)), some (.int (zI v1)), some (.int (zI v2)), some (.int (zI 0))], [.ref 150], es)
      refine x0 (r := (224, [some (.ref 143), some (.int (zI k)), some (.int (zI (h + (-1)))), some (.int (zI i)), some (.int (zI op)), some (.int (zI v1)), some (.int (zI v2)), some (.int (zI 0))], [.int (zI (h + (-1))), .ref 150], es)) i_247_223 rfl ?_
      refine x0 (r := (225, [some (.ref 143), some (.int (zI k)), some (.int (zI (h + (-1)))), some (.int (zI i)), some (.int (zI op)), some (.int (zI v1)), some (.int (zI v2)), some (.int (zI 0))], [.int (zI 1), .int (zI (h + (-1))), .ref 150], es)) i_247_224 (by rfl) ?_
      refine x_isub i_247_225 ?_
      refine x0 (r := (228, [some (.ref 143), some (.int (zI k)), some (.int (zI (h + (-1)))), some (.int (zI i)), some (.int (zI op)), some (.int (zI v1)), some (.int (zI v2)), some (.int (zI 0))], [.int (zI op), .int (zI ((h + (-1)) - 1)), .ref 150], es)) i_247_226 rfl ?_
      refine x0 (r := (230, [some (.ref 143), some (.int (zI k)), some (.int (zI (h + (-1)))), some (.int (zI i)), some (.int (zI op)), some (.int (zI v1)), some (.int (zI v2)), some (.int (zI 0))], [.int (zI 7), .int (zI op), .int (zI ((h + (-1)) - 1)), .ref 150], es)) i_247_228 (by rfl) ?_
      refine x_cmpT i_247_230 (by unfold i32 iLO iHI; omega) (by unfold i32 iLO iHI; omega) rfl (by simp only [zC, cR]; omega) ?_
      refine x0 (r := (243, [some (.ref 143), some (.int (zI k)), some (.int (zI (h + (-1)))), some (.int (zI i)), some (.int (zI op)), some (.int (zI v1)), some (.int (zI v2)), some (.int (zI 0))], [.int (zI 0), .int (zI ((h + (-1)) - 1)), .ref 150], es)) i_247_241 rfl ?_
      refine x_ifT i_247_243 (by unfold i32 iLO iHI; omega) rfl (by simp only [zC, cR]; omega) ?_
      refine x0 (r := (251, [some (.ref 143), some (.int (zI k)), some (.int (zI (h + (-1)))), some (.int (zI i)), some (.int (zI op)), some (.int (zI v1)), some (.int (zI v2)), some (.int (zI 0))], [.int (zI 0), .int (zI ((h + (-1)) - 1)), .ref 150], es)) i_247_250 (by rfl) ?_
      refine x_iast (p := 86) i_247_251 hs_es rfl (by unfold i32 iLO iHI; omega) (by omega) (by omega) ?_
      obtain ⟨es22, e_es22⟩ : ∃ z : PH, z = sA es 86 ((h + (-1)) - 1).toNat (zI 0) := ⟨_, rfl⟩
      have hs_es22 : sh es22 := by rw [e_es22]; exact sh_sA hs_es
      rw [← e_es22]
      refine x_iinc (x := i) i_247_252 rfl (by show 3 < 8; decide) ?_
      show aW _ _ _ _ _ _ (255, [some (.ref 143), some (.int (zI k)), some (.int (zI (h + (-1)))), some (.int (zI (i + 1))), some (.int (zI op)), some (.int (zI v1)), some (.int (zI v2)), some (.int (zI 0))], [], es22)
      refine x0 (r := (11, [some (.ref 143), some (.int (zI k)), some (.int (zI (h + (-1)))), some (.int (zI (i + 1))), some (.int (zI op)), some (.int (zI v1)), some (.int (zI v2)), some (.int (zI 0))], [], es22)) i_247_255 rfl ?_
      exact K9 v1 e_v1 v2 e_v2 c3 c21 es22 e_es22
    · refine x_cmpF i_247_147 (by unfold i32 iLO iHI; omega) (by unfold i32 iLO iHI; omega) rfl (by simp only [zC, cR]; omega) ?_
      refine x0 (r := (151, [some (.ref 143), some (.int (zI k)), some (.int (zI (h + (-1)))), some (.int (zI i)), some (.int (zI op)), some (.int (zI v1)), some (.int (zI v2)), x7], [.int (zI 1)], es)) i_247_150 (by rfl) ?_
      refine x0 (r := (217, [some (.ref 143), some (.int (zI k)), some (.int (zI (h + (-1)))), some (.int (zI i)), some (.int (zI op)), some (.int (zI v1)), some (.int (zI v2)), x7], [.int (zI 1)], es)) i_247_151 rfl ?_
      refine x0 (r := (219, [some (.ref 143), some (.int (zI k)), some (.int (zI (h + (-1)))), some (.int (zI i)), some (.int (zI op)), some (.int (zI v1)), some (.int (zI v2)), some (.int (zI 1))], [], es)) i_247_217 rfl ?_
      refine x0 (r := (220, [some (.ref 143), some (.int (zI k)), some (.int (zI (h + (-1)))), some (.int (zI i)), some (.int (zI op)), some (.int (zI v1)), some (.int (zI v2)), some (.int (zI 1))], [.ref 143], es)) i_247_219 rfl ?_
      refine x_getr (p := 79) (k := 150) i_247_220 hs_es rfl rfl ?_
      show aW _ _ _ _ _ _ (223, [some (.ref 143), some (.int (zI k)), some (.int (zI (h + (-1)))), some (.int (zI i)), some (.int (zI op)), some (.int (zI v1)), some (.int (zI v2)), some (.int (zI 1))], [.ref 150], es)
      refine x0 (r := (224, [some (.ref 143), some (.int (zI k)), some (.int (zI (h + (-1)))), some (.int (zI i)), some (.int (zI op)), some (.int (zI v1)), some (.int (zI v2)), some (.int (zI 1))], [.int (zI (h + (-1))), .ref 150], es)) i_247_223 rfl ?_
      refine x0 (r := (225, [some (.ref 143), some (.int (zI k)), some (.int (zI (h + (-1)))), some (.int (zI i)), some (.int (zI op)), some (.int (zI v1)), some (.int (zI v2)), some (.int (zI 1))], [.int (zI 1), .int (zI (h + (-1))), .ref 150], es)) i_247_224 (by rfl) ?_
      refine x_isub i_247_225 ?_
      refine x0 (r := (228, [some (.ref 143), some (.int (zI k)), some (.int (zI (h + (-1)))), some (.int (zI i)), some (.int (zI op)), some (.int (zI v1)), some (.int (zI v2)), some (.int (zI 1))], [.int (zI op), .int (zI ((h + (-1)) - 1)), .ref 150], es)) i_247_226 rfl ?_
      refine x0 (r := (230, [some (.ref 143), some (.int (zI k)), some (.int (zI (h + (-1)))), some (.int (zI i)), some (.int (zI op)), some (.int (zI v1)), some (.int (zI v2)), some (.int (zI 1))], [.int (zI 7), .int (zI op), .int (zI ((h + (-1)) - 1)), .ref 150], es)) i_247_228 (by rfl) ?_
      refine x_cmpT i_247_230 (by unfold i32 iLO iHI; omega) (by unfold i32 iLO iHI; omega) rfl (by simp only [zC, cR]; omega) ?_
      refine x0 (r := (243, [some (.ref 143), some (.int (zI k)), some (.int (zI (h + (-1)))), some (.int (zI i)), some (.int (zI op)), some (.int (zI v1)), some (.int (zI v2)), some (.int (zI 1))], [.int (zI 1), .int (zI ((h + (-1)) - 1)), .ref 150], es)) i_247_241 rfl ?_
      refine x_ifF i_247_243 (by unfold i32 iLO iHI; omega) rfl (by simp only [zC, cR]; omega) ?_
      refine x0 (r := (247, [some (.ref 143), some (.int (zI k)), some (.int (zI (h + (-1)))), some (.int (zI i)), some (.int (zI op)), some (.int (zI v1)), some (.int (zI v2)), some (.int (zI 1))], [.int (zI 1), .int (zI ((h + (-1)) - 1)), .ref 150], es)) i_247_246 (by rfl) ?_
      refine x0 (r := (251, [some (.ref 143), some (.int (zI k)), some (.int (zI (h + (-1)))), some (.int (zI i)), some (.int (zI op)), some (.int (zI v1)), some (.int (zI v2)), some (.int (zI 1))], [.int (zI 1), .int (zI ((h + (-1)) - 1)), .ref 150], es)) i_247_247 rfl ?_
      refine x_iast (p := 86) i_247_251 hs_es rfl (by unfold i32 iLO iHI; omega) (by omega) (by omega) ?_
      obtain ⟨es23, e_es23⟩ : ∃ z : PH, z = sA es 86 ((h + (-1)) - 1).toNat (zI 1) := ⟨_, rfl⟩
      have hs_es23 : sh es23 := by rw [e_es23]; exact sh_sA hs_es
      rw [← e_es23]
      refine x_iinc (x := i) i_247_252 rfl (by show 3 < 8; decide) ?_
      show aW _ _ _ _ _ _ (255, [some (.ref 143), some (.int (zI k)), some (.int (zI (h + (-1)))), some (.int (zI (i + 1))), some (.int (zI op)), some (.int (zI v1)), some (.int (zI v2)), some (.int (zI 1))], [], es23)
      refine x0 (r := (11, [some (.ref 143), some (.int (zI k)), some (.int (zI (h + (-1)))), some (.int (zI (i + 1))), some (.int (zI op)), some (.int (zI v1)), some (.int (zI v2)), some (.int (zI 1))], [], es23)) i_247_255 rfl ?_
      exact K10 v1 e_v1 v2 e_v2 c3 c21 es23 e_es23
