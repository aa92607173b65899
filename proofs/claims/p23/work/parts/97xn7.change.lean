/-! printed by wip/rel/notes.py -/
theorem i_120_0 : iRow 120 0 = some (.aload_n 0, 0, 0, 0, (some (Jvm.ClassFile.FieldType.boolean))) := rfl
theorem i_120_1 : iRow 120 1 = some (.iload_n 1, 0, 0, 0, (some (Jvm.ClassFile.FieldType.boolean))) := rfl
theorem i_120_2 : iRow 120 2 = some (.iload_n 2, 0, 0, 0, (some (Jvm.ClassFile.FieldType.boolean))) := rfl
theorem i_120_3 : iRow 120 3 = some (.invokevirtual 198, 162, 121, 1, (some (Jvm.ClassFile.FieldType.boolean))) := rfl
theorem i_120_6 : iRow 120 6 = some (.ifCond .eq 11, 0, 0, 0, (some (Jvm.ClassFile.FieldType.boolean))) := rfl
theorem i_120_9 : iRow 120 9 = some (.aload_n 0, 0, 0, 0, (some (Jvm.ClassFile.FieldType.boolean))) := rfl
theorem i_120_10 : iRow 120 10 = some (.iload_n 3, 0, 0, 0, (some (Jvm.ClassFile.FieldType.boolean))) := rfl
theorem i_120_11 : iRow 120 11 = some (.invokevirtual 175, 135, 104, 1, (some (Jvm.ClassFile.FieldType.boolean))) := rfl
theorem i_120_14 : iRow 120 14 = some (.ifCond .ne 13, 0, 0, 0, (some (Jvm.ClassFile.FieldType.boolean))) := rfl
theorem i_120_17 : iRow 120 17 = some (.new 125, 18, 2, 1, (some (Jvm.ClassFile.FieldType.boolean))) := rfl
theorem i_120_27 : iRow 120 27 = some (.iload 4, 0, 0, 0, (some (Jvm.ClassFile.FieldType.boolean))) := rfl
theorem i_120_29 : iRow 120 29 = some (.iload 5, 0, 0, 0, (some (Jvm.ClassFile.FieldType.boolean))) := rfl
theorem i_120_31 : iRow 120 31 = some (.iload 6, 0, 0, 0, (some (Jvm.ClassFile.FieldType.boolean))) := rfl
theorem i_120_33 : iRow 120 33 = some (.invokestatic 180, 156, 117, 0, (some (Jvm.ClassFile.FieldType.boolean))) := rfl
theorem i_120_36 : iRow 120 36 = some (.ifCond .ne 13, 0, 0, 0, (some (Jvm.ClassFile.FieldType.boolean))) := rfl
theorem i_120_39 : iRow 120 39 = some (.new 85, 15, 0, 1, (some (Jvm.ClassFile.FieldType.boolean))) := rfl
theorem i_120_49 : iRow 120 49 = some (.aload_n 0, 0, 0, 0, (some (Jvm.ClassFile.FieldType.boolean))) := rfl
theorem i_120_50 : iRow 120 50 = some (.getfield 28, 139, 11, 2, (some (Jvm.ClassFile.FieldType.boolean))) := rfl
theorem i_120_53 : iRow 120 53 = some (.iload_n 1, 0, 0, 0, (some (Jvm.ClassFile.FieldType.boolean))) := rfl
theorem i_120_54 : iRow 120 54 = some (.iload_n 2, 0, 0, 0, (some (Jvm.ClassFile.FieldType.boolean))) := rfl
theorem i_120_55 : iRow 120 55 = some (.iconst 0, 0, 0, 0, (some (Jvm.ClassFile.FieldType.boolean))) := rfl
theorem i_120_56 : iRow 120 56 = some (.invokevirtual 204, 163, 43, 1, (some (Jvm.ClassFile.FieldType.boolean))) := rfl
theorem i_120_59 : iRow 120 59 = some (.iload_n 3, 0, 0, 0, (some (Jvm.ClassFile.FieldType.boolean))) := rfl
theorem i_120_60 : iRow 120 60 = some (.if_icmp .ne 52, 0, 0, 0, (some (Jvm.ClassFile.FieldType.boolean))) := rfl
theorem i_120_63 : iRow 120 63 = some (.aload_n 0, 0, 0, 0, (some (Jvm.ClassFile.FieldType.boolean))) := rfl
theorem i_120_64 : iRow 120 64 = some (.getfield 28, 139, 11, 2, (some (Jvm.ClassFile.FieldType.boolean))) := rfl
theorem i_120_67 : iRow 120 67 = some (.iload_n 1, 0, 0, 0, (some (Jvm.ClassFile.FieldType.boolean))) := rfl
theorem i_120_68 : iRow 120 68 = some (.iload_n 2, 0, 0, 0, (some (Jvm.ClassFile.FieldType.boolean))) := rfl
theorem i_120_69 : iRow 120 69 = some (.iconst 1, 0, 0, 0, (some (Jvm.ClassFile.FieldType.boolean))) := rfl
theorem i_120_70 : iRow 120 70 = some (.invokevirtual 204, 163, 43, 1, (some (Jvm.ClassFile.FieldType.boolean))) := rfl
theorem i_120_73 : iRow 120 73 = some (.iload 4, 0, 0, 0, (some (Jvm.ClassFile.FieldType.boolean))) := rfl
theorem i_120_75 : iRow 120 75 = some (.if_icmp .ne 37, 0, 0, 0, (some (Jvm.ClassFile.FieldType.boolean))) := rfl
theorem i_120_78 : iRow 120 78 = some (.aload_n 0, 0, 0, 0, (some (Jvm.ClassFile.FieldType.boolean))) := rfl
theorem i_120_79 : iRow 120 79 = some (.getfield 28, 139, 11, 2, (some (Jvm.ClassFile.FieldType.boolean))) := rfl
theorem i_120_82 : iRow 120 82 = some (.iload_n 1, 0, 0, 0, (some (Jvm.ClassFile.FieldType.boolean))) := rfl
theorem i_120_83 : iRow 120 83 = some (.iload_n 2, 0, 0, 0, (some (Jvm.ClassFile.FieldType.boolean))) := rfl
theorem i_120_84 : iRow 120 84 = some (.iconst 2, 0, 0, 0, (some (Jvm.ClassFile.FieldType.boolean))) := rfl
theorem i_120_85 : iRow 120 85 = some (.invokevirtual 204, 163, 43, 1, (some (Jvm.ClassFile.FieldType.boolean))) := rfl
theorem i_120_88 : iRow 120 88 = some (.iload 5, 0, 0, 0, (some (Jvm.ClassFile.FieldType.boolean))) := rfl
theorem i_120_90 : iRow 120 90 = some (.if_icmp .ne 22, 0, 0, 0, (some (Jvm.ClassFile.FieldType.boolean))) := rfl
theorem i_120_93 : iRow 120 93 = some (.aload_n 0, 0, 0, 0, (some (Jvm.ClassFile.FieldType.boolean))) := rfl
theorem i_120_94 : iRow 120 94 = some (.getfield 28, 139, 11, 2, (some (Jvm.ClassFile.FieldType.boolean))) := rfl
theorem i_120_97 : iRow 120 97 = some (.iload_n 1, 0, 0, 0, (some (Jvm.ClassFile.FieldType.boolean))) := rfl
theorem i_120_98 : iRow 120 98 = some (.iload_n 2, 0, 0, 0, (some (Jvm.ClassFile.FieldType.boolean))) := rfl
theorem i_120_99 : iRow 120 99 = some (.iconst 3, 0, 0, 0, (some (Jvm.ClassFile.FieldType.boolean))) := rfl
theorem i_120_100 : iRow 120 100 = some (.invokevirtual 204, 163, 43, 1, (some (Jvm.ClassFile.FieldType.boolean))) := rfl
theorem i_120_103 : iRow 120 103 = some (.iload 6, 0, 0, 0, (some (Jvm.ClassFile.FieldType.boolean))) := rfl
theorem i_120_105 : iRow 120 105 = some (.if_icmp .ne 7, 0, 0, 0, (some (Jvm.ClassFile.FieldType.boolean))) := rfl
theorem i_120_108 : iRow 120 108 = some (.iconst 1, 0, 0, 0, (some (Jvm.ClassFile.FieldType.boolean))) := rfl
theorem i_120_109 : iRow 120 109 = some (.goto 4, 0, 0, 0, (some (Jvm.ClassFile.FieldType.boolean))) := rfl
theorem i_120_112 : iRow 120 112 = some (.iconst 0, 0, 0, 0, (some (Jvm.ClassFile.FieldType.boolean))) := rfl
theorem i_120_113 : iRow 120 113 = some (.istore 7, 0, 0, 0, (some (Jvm.ClassFile.FieldType.boolean))) := rfl
theorem i_120_115 : iRow 120 115 = some (.aload_n 0, 0, 0, 0, (some (Jvm.ClassFile.FieldType.boolean))) := rfl
theorem i_120_116 : iRow 120 116 = some (.getfield 28, 139, 11, 2, (some (Jvm.ClassFile.FieldType.boolean))) := rfl
theorem i_120_119 : iRow 120 119 = some (.iload_n 1, 0, 0, 0, (some (Jvm.ClassFile.FieldType.boolean))) := rfl
theorem i_120_120 : iRow 120 120 = some (.iload_n 2, 0, 0, 0, (some (Jvm.ClassFile.FieldType.boolean))) := rfl
theorem i_120_121 : iRow 120 121 = some (.iload_n 3, 0, 0, 0, (some (Jvm.ClassFile.FieldType.boolean))) := rfl
theorem i_120_122 : iRow 120 122 = some (.iload 4, 0, 0, 0, (some (Jvm.ClassFile.FieldType.boolean))) := rfl
theorem i_120_124 : iRow 120 124 = some (.iload 5, 0, 0, 0, (some (Jvm.ClassFile.FieldType.boolean))) := rfl
theorem i_120_126 : iRow 120 126 = some (.iload 6, 0, 0, 0, (some (Jvm.ClassFile.FieldType.boolean))) := rfl
theorem i_120_128 : iRow 120 128 = some (.invokevirtual 194, 159, 119, 1, (some (Jvm.ClassFile.FieldType.boolean))) := rfl
theorem i_120_131 : iRow 120 131 = some (.aload_n 0, 0, 0, 0, (some (Jvm.ClassFile.FieldType.boolean))) := rfl
theorem i_120_132 : iRow 120 132 = some (.invokevirtual 104, 78, 73, 1, (some (Jvm.ClassFile.FieldType.boolean))) := rfl
theorem i_120_135 : iRow 120 135 = some (.iload 7, 0, 0, 0, (some (Jvm.ClassFile.FieldType.boolean))) := rfl
theorem i_120_137 : iRow 120 137 = some (.ifCond .ne 7, 0, 0, 0, (some (Jvm.ClassFile.FieldType.boolean))) := rfl
theorem i_120_140 : iRow 120 140 = some (.iconst 1, 0, 0, 0, (some (Jvm.ClassFile.FieldType.boolean))) := rfl
theorem i_120_141 : iRow 120 141 = some (.goto 4, 0, 0, 0, (some (Jvm.ClassFile.FieldType.boolean))) := rfl
theorem i_120_144 : iRow 120 144 = some (.iconst 0, 0, 0, 0, (some (Jvm.ClassFile.FieldType.boolean))) := rfl
theorem i_120_145 : iRow 120 145 = some (.ireturn, 0, 0, 0, (some (Jvm.ClassFile.FieldType.boolean))) := rfl
theorem i_121_0 : iRow 121 0 = some (.aload_n 0, 0, 0, 0, (some (Jvm.ClassFile.FieldType.boolean))) := rfl
theorem i_121_1 : iRow 121 1 = some (.iload_n 1, 0, 0, 0, (some (Jvm.ClassFile.FieldType.boolean))) := rfl
theorem i_121_2 : iRow 121 2 = some (.invokevirtual 172, 155, 116, 1, (some (Jvm.ClassFile.FieldType.boolean))) := rfl
theorem i_121_5 : iRow 121 5 = some (.ifCond .eq 23, 0, 0, 0, (some (Jvm.ClassFile.FieldType.boolean))) := rfl
theorem i_121_8 : iRow 121 8 = some (.iload_n 2, 0, 0, 0, (some (Jvm.ClassFile.FieldType.boolean))) := rfl
theorem i_121_9 : iRow 121 9 = some (.ifCond .lt 19, 0, 0, 0, (some (Jvm.ClassFile.FieldType.boolean))) := rfl
theorem i_121_12 : iRow 121 12 = some (.iload_n 2, 0, 0, 0, (some (Jvm.ClassFile.FieldType.boolean))) := rfl
theorem i_121_13 : iRow 121 13 = some (.aload_n 0, 0, 0, 0, (some (Jvm.ClassFile.FieldType.boolean))) := rfl
theorem i_121_14 : iRow 121 14 = some (.getfield 28, 139, 11, 2, (some (Jvm.ClassFile.FieldType.boolean))) := rfl
theorem i_121_17 : iRow 121 17 = some (.iload_n 1, 0, 0, 0, (some (Jvm.ClassFile.FieldType.boolean))) := rfl
theorem i_121_18 : iRow 121 18 = some (.invokevirtual 186, 157, 35, 1, (some (Jvm.ClassFile.FieldType.boolean))) := rfl
theorem i_121_21 : iRow 121 21 = some (.if_icmp .ge 7, 0, 0, 0, (some (Jvm.ClassFile.FieldType.boolean))) := rfl
theorem i_121_24 : iRow 121 24 = some (.iconst 1, 0, 0, 0, (some (Jvm.ClassFile.FieldType.boolean))) := rfl
theorem i_121_25 : iRow 121 25 = some (.goto 4, 0, 0, 0, (some (Jvm.ClassFile.FieldType.boolean))) := rfl
theorem i_121_28 : iRow 121 28 = some (.iconst 0, 0, 0, 0, (some (Jvm.ClassFile.FieldType.boolean))) := rfl
theorem i_121_29 : iRow 121 29 = some (.ireturn, 0, 0, 0, (some (Jvm.ClassFile.FieldType.boolean))) := rfl
theorem i_209_0 : iRow 209 0 = some (.aload_n 0, 0, 0, 0, (some (Jvm.ClassFile.FieldType.boolean))) := rfl
theorem i_209_1 : iRow 209 1 = some (.iconst 0, 0, 0, 0, (some (Jvm.ClassFile.FieldType.boolean))) := rfl
theorem i_209_2 : iRow 209 2 = some (.putfield 3, 164, 12, 0, (some (Jvm.ClassFile.FieldType.boolean))) := rfl
theorem i_209_5 : iRow 209 5 = some (.aload_n 0, 0, 0, 0, (some (Jvm.ClassFile.FieldType.boolean))) := rfl
theorem i_209_6 : iRow 209 6 = some (.aload_n 0, 0, 0, 0, (some (Jvm.ClassFile.FieldType.boolean))) := rfl
theorem i_209_7 : iRow 209 7 = some (.iload_n 1, 0, 0, 0, (some (Jvm.ClassFile.FieldType.boolean))) := rfl
theorem i_209_8 : iRow 209 8 = some (.iload_n 2, 0, 0, 0, (some (Jvm.ClassFile.FieldType.boolean))) := rfl
theorem i_209_9 : iRow 209 9 = some (.invokevirtual 269, 299, 210, 1, (some (Jvm.ClassFile.FieldType.boolean))) := rfl
theorem i_209_12 : iRow 209 12 = some (.ifCond .ne 11, 0, 0, 0, (some (Jvm.ClassFile.FieldType.boolean))) := rfl
theorem i_209_15 : iRow 209 15 = some (.aload_n 0, 0, 0, 0, (some (Jvm.ClassFile.FieldType.boolean))) := rfl
theorem i_209_16 : iRow 209 16 = some (.iload_n 3, 0, 0, 0, (some (Jvm.ClassFile.FieldType.boolean))) := rfl
theorem i_209_17 : iRow 209 17 = some (.invokevirtual 245, 287, 198, 1, (some (Jvm.ClassFile.FieldType.boolean))) := rfl
theorem i_209_20 : iRow 209 20 = some (.ifCond .eq 7, 0, 0, 0, (some (Jvm.ClassFile.FieldType.boolean))) := rfl
theorem i_209_23 : iRow 209 23 = some (.iconst 1, 0, 0, 0, (some (Jvm.ClassFile.FieldType.boolean))) := rfl
theorem i_209_24 : iRow 209 24 = some (.goto 4, 0, 0, 0, (some (Jvm.ClassFile.FieldType.boolean))) := rfl
theorem i_209_27 : iRow 209 27 = some (.iconst 0, 0, 0, 0, (some (Jvm.ClassFile.FieldType.boolean))) := rfl
theorem i_209_28 : iRow 209 28 = some (.iconst 1, 0, 0, 0, (some (Jvm.ClassFile.FieldType.boolean))) := rfl
theorem i_209_29 : iRow 209 29 = some (.invokevirtual 235, 283, 194, 1, (some (Jvm.ClassFile.FieldType.boolean))) := rfl
theorem i_209_32 : iRow 209 32 = some (.ifCond .ne 20, 0, 0, 0, (some (Jvm.ClassFile.FieldType.boolean))) := rfl
theorem i_209_35 : iRow 209 35 = some (.aload_n 0, 0, 0, 0, (some (Jvm.ClassFile.FieldType.boolean))) := rfl
theorem i_209_36 : iRow 209 36 = some (.iload 4, 0, 0, 0, (some (Jvm.ClassFile.FieldType.boolean))) := rfl
theorem i_209_38 : iRow 209 38 = some (.iload 5, 0, 0, 0, (some (Jvm.ClassFile.FieldType.boolean))) := rfl
theorem i_209_40 : iRow 209 40 = some (.iload 6, 0, 0, 0, (some (Jvm.ClassFile.FieldType.boolean))) := rfl
theorem i_209_42 : iRow 209 42 = some (.invokestatic 262, 293, 204, 0, (some (Jvm.ClassFile.FieldType.boolean))) := rfl
theorem i_209_45 : iRow 209 45 = some (.iconst 2, 0, 0, 0, (some (Jvm.ClassFile.FieldType.boolean))) := rfl
theorem i_209_46 : iRow 209 46 = some (.invokevirtual 235, 283, 194, 1, (some (Jvm.ClassFile.FieldType.boolean))) := rfl
theorem i_209_49 : iRow 209 49 = some (.ifCond .eq 5, 0, 0, 0, (some (Jvm.ClassFile.FieldType.boolean))) := rfl
theorem i_209_52 : iRow 209 52 = some (.iconst 0, 0, 0, 0, (some (Jvm.ClassFile.FieldType.boolean))) := rfl
theorem i_209_53 : iRow 209 53 = some (.ireturn, 0, 0, 0, (some (Jvm.ClassFile.FieldType.boolean))) := rfl
theorem i_209_54 : iRow 209 54 = some (.aload_n 0, 0, 0, 0, (some (Jvm.ClassFile.FieldType.boolean))) := rfl
theorem i_209_55 : iRow 209 55 = some (.iload_n 1, 0, 0, 0, (some (Jvm.ClassFile.FieldType.boolean))) := rfl
theorem i_209_56 : iRow 209 56 = some (.iload_n 2, 0, 0, 0, (some (Jvm.ClassFile.FieldType.boolean))) := rfl
theorem i_209_57 : iRow 209 57 = some (.iconst 0, 0, 0, 0, (some (Jvm.ClassFile.FieldType.boolean))) := rfl
theorem i_209_58 : iRow 209 58 = some (.invokevirtual 272, 300, 211, 1, (some (Jvm.ClassFile.FieldType.boolean))) := rfl
theorem i_209_61 : iRow 209 61 = some (.iload_n 3, 0, 0, 0, (some (Jvm.ClassFile.FieldType.boolean))) := rfl
theorem i_209_62 : iRow 209 62 = some (.if_icmp .ne 39, 0, 0, 0, (some (Jvm.ClassFile.FieldType.boolean))) := rfl
theorem i_209_65 : iRow 209 65 = some (.aload_n 0, 0, 0, 0, (some (Jvm.ClassFile.FieldType.boolean))) := rfl
theorem i_209_66 : iRow 209 66 = some (.iload_n 1, 0, 0, 0, (some (Jvm.ClassFile.FieldType.boolean))) := rfl
theorem i_209_67 : iRow 209 67 = some (.iload_n 2, 0, 0, 0, (some (Jvm.ClassFile.FieldType.boolean))) := rfl
theorem i_209_68 : iRow 209 68 = some (.iconst 1, 0, 0, 0, (some (Jvm.ClassFile.FieldType.boolean))) := rfl
theorem i_209_69 : iRow 209 69 = some (.invokevirtual 272, 300, 211, 1, (some (Jvm.ClassFile.FieldType.boolean))) := rfl
theorem i_209_72 : iRow 209 72 = some (.iload 4, 0, 0, 0, (some (Jvm.ClassFile.FieldType.boolean))) := rfl
theorem i_209_74 : iRow 209 74 = some (.if_icmp .ne 27, 0, 0, 0, (some (Jvm.ClassFile.FieldType.boolean))) := rfl
theorem i_209_77 : iRow 209 77 = some (.aload_n 0, 0, 0, 0, (some (Jvm.ClassFile.FieldType.boolean))) := rfl
theorem i_209_78 : iRow 209 78 = some (.iload_n 1, 0, 0, 0, (some (Jvm.ClassFile.FieldType.boolean))) := rfl
theorem i_209_79 : iRow 209 79 = some (.iload_n 2, 0, 0, 0, (some (Jvm.ClassFile.FieldType.boolean))) := rfl
theorem i_209_80 : iRow 209 80 = some (.iconst 2, 0, 0, 0, (some (Jvm.ClassFile.FieldType.boolean))) := rfl
theorem i_209_81 : iRow 209 81 = some (.invokevirtual 272, 300, 211, 1, (some (Jvm.ClassFile.FieldType.boolean))) := rfl
theorem i_209_84 : iRow 209 84 = some (.iload 5, 0, 0, 0, (some (Jvm.ClassFile.FieldType.boolean))) := rfl
theorem i_209_86 : iRow 209 86 = some (.if_icmp .ne 15, 0, 0, 0, (some (Jvm.ClassFile.FieldType.boolean))) := rfl
theorem i_209_89 : iRow 209 89 = some (.aload_n 0, 0, 0, 0, (some (Jvm.ClassFile.FieldType.boolean))) := rfl
theorem i_209_90 : iRow 209 90 = some (.iload_n 1, 0, 0, 0, (some (Jvm.ClassFile.FieldType.boolean))) := rfl
theorem i_209_91 : iRow 209 91 = some (.iload_n 2, 0, 0, 0, (some (Jvm.ClassFile.FieldType.boolean))) := rfl
theorem i_209_92 : iRow 209 92 = some (.iconst 3, 0, 0, 0, (some (Jvm.ClassFile.FieldType.boolean))) := rfl
theorem i_209_93 : iRow 209 93 = some (.invokevirtual 272, 300, 211, 1, (some (Jvm.ClassFile.FieldType.boolean))) := rfl
theorem i_209_96 : iRow 209 96 = some (.iload 6, 0, 0, 0, (some (Jvm.ClassFile.FieldType.boolean))) := rfl
theorem i_209_98 : iRow 209 98 = some (.if_icmp .eq 7, 0, 0, 0, (some (Jvm.ClassFile.FieldType.boolean))) := rfl
theorem i_209_101 : iRow 209 101 = some (.iconst 1, 0, 0, 0, (some (Jvm.ClassFile.FieldType.boolean))) := rfl
theorem i_209_102 : iRow 209 102 = some (.goto 4, 0, 0, 0, (some (Jvm.ClassFile.FieldType.boolean))) := rfl
theorem i_209_105 : iRow 209 105 = some (.iconst 0, 0, 0, 0, (some (Jvm.ClassFile.FieldType.boolean))) := rfl
theorem i_209_106 : iRow 209 106 = some (.istore 7, 0, 0, 0, (some (Jvm.ClassFile.FieldType.boolean))) := rfl
theorem i_209_108 : iRow 209 108 = some (.aload_n 0, 0, 0, 0, (some (Jvm.ClassFile.FieldType.boolean))) := rfl
theorem i_209_109 : iRow 209 109 = some (.iload_n 1, 0, 0, 0, (some (Jvm.ClassFile.FieldType.boolean))) := rfl
theorem i_209_110 : iRow 209 110 = some (.iload_n 2, 0, 0, 0, (some (Jvm.ClassFile.FieldType.boolean))) := rfl
theorem i_209_111 : iRow 209 111 = some (.iload_n 3, 0, 0, 0, (some (Jvm.ClassFile.FieldType.boolean))) := rfl
theorem i_209_112 : iRow 209 112 = some (.iload 4, 0, 0, 0, (some (Jvm.ClassFile.FieldType.boolean))) := rfl
theorem i_209_114 : iRow 209 114 = some (.iload 5, 0, 0, 0, (some (Jvm.ClassFile.FieldType.boolean))) := rfl
theorem i_209_116 : iRow 209 116 = some (.iload 6, 0, 0, 0, (some (Jvm.ClassFile.FieldType.boolean))) := rfl
theorem i_209_118 : iRow 209 118 = some (.invokevirtual 255, 297, 208, 1, (some (Jvm.ClassFile.FieldType.boolean))) := rfl
theorem i_209_121 : iRow 209 121 = some (.iload 7, 0, 0, 0, (some (Jvm.ClassFile.FieldType.boolean))) := rfl
theorem i_209_123 : iRow 209 123 = some (.ireturn, 0, 0, 0, (some (Jvm.ClassFile.FieldType.boolean))) := rfl
theorem i_283_0 : iRow 283 0 = some (.aload 7, 0, 0, 0, (some (Jvm.ClassFile.FieldType.int))) := rfl
theorem i_283_2 : iRow 283 2 = some (.iconst 0, 0, 0, 0, (some (Jvm.ClassFile.FieldType.int))) := rfl
theorem i_283_3 : iRow 283 3 = some (.aload_n 0, 0, 0, 0, (some (Jvm.ClassFile.FieldType.int))) := rfl
theorem i_283_4 : iRow 283 4 = some (.iload_n 1, 0, 0, 0, (some (Jvm.ClassFile.FieldType.int))) := rfl
theorem i_283_5 : iRow 283 5 = some (.iload_n 2, 0, 0, 0, (some (Jvm.ClassFile.FieldType.int))) := rfl
theorem i_283_6 : iRow 283 6 = some (.iload_n 3, 0, 0, 0, (some (Jvm.ClassFile.FieldType.int))) := rfl
theorem i_283_7 : iRow 283 7 = some (.iload 4, 0, 0, 0, (some (Jvm.ClassFile.FieldType.int))) := rfl
theorem i_283_9 : iRow 283 9 = some (.iload 5, 0, 0, 0, (some (Jvm.ClassFile.FieldType.int))) := rfl
theorem i_283_11 : iRow 283 11 = some (.iload 6, 0, 0, 0, (some (Jvm.ClassFile.FieldType.int))) := rfl
theorem i_283_13 : iRow 283 13 = some (.invokevirtual 38, 161, 120, 1, (some (Jvm.ClassFile.FieldType.int))) := rfl
theorem i_283_16 : iRow 283 16 = some (.ifCond .eq 7, 0, 0, 0, (some (Jvm.ClassFile.FieldType.int))) := rfl
theorem i_283_19 : iRow 283 19 = some (.lconst 1, 0, 0, 0, (some (Jvm.ClassFile.FieldType.int))) := rfl
theorem i_283_20 : iRow 283 20 = some (.goto 4, 0, 0, 0, (some (Jvm.ClassFile.FieldType.int))) := rfl
theorem i_283_23 : iRow 283 23 = some (.lconst 0, 0, 0, 0, (some (Jvm.ClassFile.FieldType.int))) := rfl
theorem i_283_24 : iRow 283 24 = some (.lastore, 0, 0, 0, (some (Jvm.ClassFile.FieldType.int))) := rfl
theorem i_283_25 : iRow 283 25 = some (.goto 11, 0, 0, 0, (some (Jvm.ClassFile.FieldType.int))) := rfl
theorem i_283_30 : iRow 283 30 = some (.iconst 1, 0, 0, 0, (some (Jvm.ClassFile.FieldType.int))) := rfl
theorem i_283_31 : iRow 283 31 = some (.ireturn, 0, 0, 0, (some (Jvm.ClassFile.FieldType.int))) := rfl
theorem i_283_34 : iRow 283 34 = some (.iconst 2, 0, 0, 0, (some (Jvm.ClassFile.FieldType.int))) := rfl
theorem i_283_35 : iRow 283 35 = some (.ireturn, 0, 0, 0, (some (Jvm.ClassFile.FieldType.int))) := rfl
theorem i_283_36 : iRow 283 36 = some (.iconst 0, 0, 0, 0, (some (Jvm.ClassFile.FieldType.int))) := rfl
theorem i_283_37 : iRow 283 37 = some (.ireturn, 0, 0, 0, (some (Jvm.ClassFile.FieldType.int))) := rfl
theorem s_xchg {O : pOut} {d kc ks : Nat} {Q : pRes → Prop} {es : PH} {bk nt kd fr fi ra : Int} (hs_es : sh es) (h_bk : -2147483648 ≤ bk ∧ bk ≤ 2147483647) (h_nt : -2147483648 ≤ nt ∧ nt ≤ 2147483647) (h_kd : -2147483648 ≤ kd ∧ kd ≤ 2147483647) (h_fr : -2147483648 ≤ fr ∧ fr ≤ 2147483647) (h_fi : -2147483648 ≤ fi ∧ fi ≤ 2147483647) (h_ra : -2147483648 ≤ ra ∧ ra ≤ 2147483647) (hT_es : hOK tT es)
    (K1 : bk < 0 → Q (.inr 2, es, kc + 1, ks + 6))
    (K2 : ¬ (bk < 0) → ∀ v2 : Int, v2 = (gI es 7 5).toInt → v2 ≤ bk → Q (.inr 2, es, kc + 1, ks + 6))
    (K3 : ¬ (bk < 0) → ∀ v2 : Int, v2 = (gI es 7 5).toInt → ¬ (v2 ≤ bk) → nt < 0 → Q (.inr 2, es, kc + 1, ks + 6))
    (K4 : ¬ (bk < 0) → ∀ v2 : Int, v2 = (gI es 7 5).toInt → ¬ (v2 ≤ bk) → ¬ (nt < 0) → ∀ v5 : Int, v5 = (gA es 13 bk.toNat).toInt → v5 ≤ nt → Q (.inr 2, es, kc + 1, ks + 6))
    (K5 : ¬ (bk < 0) → ∀ v2 : Int, v2 = (gI es 7 5).toInt → ¬ (v2 ≤ bk) → ¬ (nt < 0) → ∀ v5 : Int, v5 = (gA es 13 bk.toNat).toInt → ¬ (v5 ≤ nt) → kd < 0 → Q (.inr 2, es, kc + 1, ks + 6))
    (K6 : ¬ (bk < 0) → ∀ v2 : Int, v2 = (gI es 7 5).toInt → ¬ (v2 ≤ bk) → ¬ (nt < 0) → ∀ v5 : Int, v5 = (gA es 13 bk.toNat).toInt → ¬ (v5 ≤ nt) → ¬ (kd < 0) → ∀ v8 : Int, v8 = (gI es 7 0).toInt → v8 ≤ kd → Q (.inr 2, es, kc + 1, ks + 6))
    (K7 : ¬ (bk < 0) → ∀ v2 : Int, v2 = (gI es 7 5).toInt → ¬ (v2 ≤ bk) → ¬ (nt < 0) → ∀ v5 : Int, v5 = (gA es 13 bk.toNat).toInt → ¬ (v5 ≤ nt) → ¬ (kd < 0) → ∀ v8 : Int, v8 = (gI es 7 0).toInt → ¬ (v8 ≤ kd) → fr < (-1) → Q (.inr 0, es, kc + 1, ks + 6))
    (K8 : ¬ (bk < 0) → ∀ v2 : Int, v2 = (gI es 7 5).toInt → ¬ (v2 ≤ bk) → ¬ (nt < 0) → ∀ v5 : Int, v5 = (gA es 13 bk.toNat).toInt → ¬ (v5 ≤ nt) → ¬ (kd < 0) → ∀ v8 : Int, v8 = (gI es 7 0).toInt → ¬ (v8 ≤ kd) → ¬ (fr < (-1)) → 6 ≤ fr → Q (.inr 0, es, kc + 1, ks + 6))
    (K9 : ¬ (bk < 0) → ∀ v2 : Int, v2 = (gI es 7 5).toInt → ¬ (v2 ≤ bk) → ¬ (nt < 0) → ∀ v5 : Int, v5 = (gA es 13 bk.toNat).toInt → ¬ (v5 ≤ nt) → ¬ (kd < 0) → ∀ v8 : Int, v8 = (gI es 7 0).toInt → ¬ (v8 ≤ kd) → ¬ (fr < (-1)) → ¬ (6 ≤ fr) → fi < 0 → Q (.inr 0, es, kc + 1, ks + 6))
    (K10 : ¬ (bk < 0) → ∀ v2 : Int, v2 = (gI es 7 5).toInt → ¬ (v2 ≤ bk) → ¬ (nt < 0) → ∀ v5 : Int, v5 = (gA es 13 bk.toNat).toInt → ¬ (v5 ≤ nt) → ¬ (kd < 0) → ∀ v8 : Int, v8 = (gI es 7 0).toInt → ¬ (v8 ≤ kd) → ¬ (fr < (-1)) → ¬ (6 ≤ fr) → ¬ (fi < 0) → 6 ≤ fi → Q (.inr 0, es, kc + 1, ks + 6))
    (K11 : ¬ (bk < 0) → ∀ v2 : Int, v2 = (gI es 7 5).toInt → ¬ (v2 ≤ bk) → ¬ (nt < 0) → ∀ v5 : Int, v5 = (gA es 13 bk.toNat).toInt → ¬ (v5 ≤ nt) → ¬ (kd < 0) → ∀ v8 : Int, v8 = (gI es 7 0).toInt → ¬ (v8 ≤ kd) → ¬ (fr < (-1)) → ¬ (6 ≤ fr) → ¬ (fi < 0) → ¬ (6 ≤ fi) → ra < 0 → Q (.inr 0, es, kc + 1, ks + 6))
    (K12 : ¬ (bk < 0) → ∀ v2 : Int, v2 = (gI es 7 5).toInt → ¬ (v2 ≤ bk) → ¬ (nt < 0) → ∀ v5 : Int, v5 = (gA es 13 bk.toNat).toInt → ¬ (v5 ≤ nt) → ¬ (kd < 0) → ∀ v8 : Int, v8 = (gI es 7 0).toInt → ¬ (v8 ≤ kd) → ¬ (fr < (-1)) → ¬ (6 ≤ fr) → ¬ (fi < 0) → ¬ (6 ≤ fi) → ¬ (ra < 0) → 6 ≤ ra → Q (.inr 0, es, kc + 1, ks + 6))
    (K13 : ¬ (bk < 0) → ∀ v2 : Int, v2 = (gI es 7 5).toInt → ¬ (v2 ≤ bk) → ¬ (nt < 0) → ∀ v5 : Int, v5 = (gA es 13 bk.toNat).toInt → ¬ (v5 ≤ nt) → ¬ (kd < 0) → ∀ v8 : Int, v8 = (gI es 7 0).toInt → ¬ (v8 ≤ kd) → ¬ (fr < (-1)) → ¬ (6 ≤ fr) → ¬ (fi < 0) → ¬ (6 ≤ fi) → ¬ (ra < 0) → ¬ (6 ≤ ra) → ∀ v16 : Int, v16 = (gA es 14 ((((bk * 24) + nt) * 4) + 0).toNat).toInt → v16 ≠ kd → ∀ es18 : PH, es18 = sA es 14 (((bk * 24) + nt) * 4).toNat (zI kd) → ∀ es19 : PH, es19 = sA es18 14 ((((bk * 24) + nt) * 4) + 1).toNat (zI fr) → ∀ es20 : PH, es20 = sA es19 14 ((((bk * 24) + nt) * 4) + 2).toNat (zI fi) → ∀ es21 : PH, es21 = sA es20 14 ((((bk * 24) + nt) * 4) + 3).toNat (zI ra) → ∀ es22 : PH, es22 = sI es21 0 10 (.int (zI 0)) → ∀ es23 : PH, es23 = sI es22 73 3 (.int (zI 0)) → Q (.inl (some (.int (zI 1))), es23, kc, ks))
    (K14 : ¬ (bk < 0) → ∀ v2 : Int, v2 = (gI es 7 5).toInt → ¬ (v2 ≤ bk) → ¬ (nt < 0) → ∀ v5 : Int, v5 = (gA es 13 bk.toNat).toInt → ¬ (v5 ≤ nt) → ¬ (kd < 0) → ∀ v8 : Int, v8 = (gI es 7 0).toInt → ¬ (v8 ≤ kd) → ¬ (fr < (-1)) → ¬ (6 ≤ fr) → ¬ (fi < 0) → ¬ (6 ≤ fi) → ¬ (ra < 0) → ¬ (6 ≤ ra) → ∀ v16 : Int, v16 = (gA es 14 ((((bk * 24) + nt) * 4) + 0).toNat).toInt → ¬ (v16 ≠ kd) → ∀ v24 : Int, v24 = (gA es 14 ((((bk * 24) + nt) * 4) + 1).toNat).toInt → v24 ≠ fr → ∀ es26 : PH, es26 = sA es 14 (((bk * 24) + nt) * 4).toNat (zI kd) → ∀ es27 : PH, es27 = sA es26 14 ((((bk * 24) + nt) * 4) + 1).toNat (zI fr) → ∀ es28 : PH, es28 = sA es27 14 ((((bk * 24) + nt) * 4) + 2).toNat (zI fi) → ∀ es29 : PH, es29 = sA es28 14 ((((bk * 24) + nt) * 4) + 3).toNat (zI ra) → ∀ es30 : PH, es30 = sI es29 0 10 (.int (zI 0)) → ∀ es31 : PH, es31 = sI es30 73 3 (.int (zI 0)) → Q (.inl (some (.int (zI 1))), es31, kc, ks))
    (K15 : ¬ (bk < 0) → ∀ v2 : Int, v2 = (gI es 7 5).toInt → ¬ (v2 ≤ bk) → ¬ (nt < 0) → ∀ v5 : Int, v5 = (gA es 13 bk.toNat).toInt → ¬ (v5 ≤ nt) → ¬ (kd < 0) → ∀ v8 : Int, v8 = (gI es 7 0).toInt → ¬ (v8 ≤ kd) → ¬ (fr < (-1)) → ¬ (6 ≤ fr) → ¬ (fi < 0) → ¬ (6 ≤ fi) → ¬ (ra < 0) → ¬ (6 ≤ ra) → ∀ v16 : Int, v16 = (gA es 14 ((((bk * 24) + nt) * 4) + 0).toNat).toInt → ¬ (v16 ≠ kd) → ∀ v24 : Int, v24 = (gA es 14 ((((bk * 24) + nt) * 4) + 1).toNat).toInt → ¬ (v24 ≠ fr) → ∀ v32 : Int, v32 = (gA es 14 ((((bk * 24) + nt) * 4) + 2).toNat).toInt → v32 ≠ fi → ∀ es34 : PH, es34 = sA es 14 (((bk * 24) + nt) * 4).toNat (zI kd) → ∀ es35 : PH, es35 = sA es34 14 ((((bk * 24) + nt) * 4) + 1).toNat (zI fr) → ∀ es36 : PH, es36 = sA es35 14 ((((bk * 24) + nt) * 4) + 2).toNat (zI fi) → ∀ es37 : PH, es37 = sA es36 14 ((((bk * 24) + nt) * 4) + 3).toNat (zI ra) → ∀ es38 : PH, es38 = sI es37 0 10 (.int (zI 0)) → ∀ es39 : PH, es39 = sI es38 73 3 (.int (zI 0)) → Q (.inl (some (.int (zI 1))), es39, kc, ks))
    (K16 : ¬ (bk < 0) → ∀ v2 : Int, v2 = (gI es 7 5).toInt → ¬ (v2 ≤ bk) → ¬ (nt < 0) → ∀ v5 : Int, v5 = (gA es 13 bk.toNat).toInt → ¬ (v5 ≤ nt) → ¬ (kd < 0) → ∀ v8 : Int, v8 = (gI es 7 0).toInt → ¬ (v8 ≤ kd) → ¬ (fr < (-1)) → ¬ (6 ≤ fr) → ¬ (fi < 0) → ¬ (6 ≤ fi) → ¬ (ra < 0) → ¬ (6 ≤ ra) → ∀ v16 : Int, v16 = (gA es 14 ((((bk * 24) + nt) * 4) + 0).toNat).toInt → ¬ (v16 ≠ kd) → ∀ v24 : Int, v24 = (gA es 14 ((((bk * 24) + nt) * 4) + 1).toNat).toInt → ¬ (v24 ≠ fr) → ∀ v32 : Int, v32 = (gA es 14 ((((bk * 24) + nt) * 4) + 2).toNat).toInt → ¬ (v32 ≠ fi) → ∀ v40 : Int, v40 = (gA es 14 ((((bk * 24) + nt) * 4) + 3).toNat).toInt → v40 ≠ ra → ∀ es42 : PH, es42 = sA es 14 (((bk * 24) + nt) * 4).toNat (zI kd) → ∀ es43 : PH, es43 = sA es42 14 ((((bk * 24) + nt) * 4) + 1).toNat (zI fr) → ∀ es44 : PH, es44 = sA es43 14 ((((bk * 24) + nt) * 4) + 2).toNat (zI fi) → ∀ es45 : PH, es45 = sA es44 14 ((((bk * 24) + nt) * 4) + 3).toNat (zI ra) → ∀ es46 : PH, es46 = sI es45 0 10 (.int (zI 0)) → ∀ es47 : PH, es47 = sI es46 73 3 (.int (zI 0)) → Q (.inl (some (.int (zI 1))), es47, kc, ks))
    (K17 : ¬ (bk < 0) → ∀ v2 : Int, v2 = (gI es 7 5).toInt → ¬ (v2 ≤ bk) → ¬ (nt < 0) → ∀ v5 : Int, v5 = (gA es 13 bk.toNat).toInt → ¬ (v5 ≤ nt) → ¬ (kd < 0) → ∀ v8 : Int, v8 = (gI es 7 0).toInt → ¬ (v8 ≤ kd) → ¬ (fr < (-1)) → ¬ (6 ≤ fr) → ¬ (fi < 0) → ¬ (6 ≤ fi) → ¬ (ra < 0) → ¬ (6 ≤ ra) → ∀ v16 : Int, v16 = (gA es 14 ((((bk * 24) + nt) * 4) + 0).toNat).toInt → ¬ (v16 ≠ kd) → ∀ v24 : Int, v24 = (gA es 14 ((((bk * 24) + nt) * 4) + 1).toNat).toInt → ¬ (v24 ≠ fr) → ∀ v32 : Int, v32 = (gA es 14 ((((bk * 24) + nt) * 4) + 2).toNat).toInt → ¬ (v32 ≠ fi) → ∀ v40 : Int, v40 = (gA es 14 ((((bk * 24) + nt) * 4) + 3).toNat).toInt → ¬ (v40 ≠ ra) → ∀ es48 : PH, es48 = sA es 14 (((bk * 24) + nt) * 4).toNat (zI kd) → ∀ es49 : PH, es49 = sA es48 14 ((((bk * 24) + nt) * 4) + 1).toNat (zI fr) → ∀ es50 : PH, es50 = sA es49 14 ((((bk * 24) + nt) * 4) + 2).toNat (zI fi) → ∀ es51 : PH, es51 = sA es50 14 ((((bk * 24) + nt) * 4) + 3).toNat (zI ra) → ∀ es52 : PH, es52 = sI es51 0 10 (.int (zI 0)) → ∀ es53 : PH, es53 = sI es52 73 3 (.int (zI 0)) → Q (.inl (some (.int (zI 0))), es53, kc, ks)) :
    aW O (d + 3) 120 kc ks Q (0, [some (.ref 64), some (.int (zI bk)), some (.int (zI nt)), some (.int (zI kd)), some (.int (zI fr)), some (.int (zI fi)), some (.int (zI ra)), none], [], es) := by
  refine x0 (r := (1, [some (.ref 64), some (.int (zI bk)), some (.int (zI nt)), some (.int (zI kd)), some (.int (zI fr)), some (.int (zI fi)), some (.int (zI ra)), none], [.ref 64], es)) i_120_0 rfl ?_
  refine x0 (r := (2, [some (.ref 64), some (.int (zI bk)), some (.int (zI nt)), some (.int (zI kd)), some (.int (zI fr)), some (.int (zI fi)), some (.int (zI ra)), none], [.int (zI bk), .ref 64], es)) i_120_1 rfl ?_
  refine x0 (r := (3, [some (.ref 64), some (.int (zI bk)), some (.int (zI nt)), some (.int (zI kd)), some (.int (zI fr)), some (.int (zI fi)), some (.int (zI ra)), none], [.int (zI nt), .int (zI bk), .ref 64], es)) i_120_2 rfl ?_
  refine x_call (vs := [.ref 64, .int (zI bk), .int (zI nt)]) (rs := []) i_120_3 rfl (fun _ => rfl) rfl rfl rfl rfl rfl (pCall_v (p := 0) hs_es rfl rfl rfl rfl rfl (by decide) rfl rfl rfl rfl rfl) ?_
  show aW _ _ _ _ _ _ (0, [some (.ref 64), some (.int (zI bk)), some (.int (zI nt))], [], es)
  refine x0 (r := (1, [some (.ref 64), some (.int (zI bk)), some (.int (zI nt))], [.ref 64], es)) i_121_0 rfl ?_
  refine x0 (r := (2, [some (.ref 64), some (.int (zI bk)), some (.int (zI nt))], [.int (zI bk), .ref 64], es)) i_121_1 rfl ?_
  refine x_call (vs := [.ref 64, .int (zI bk)]) (rs := []) i_121_2 rfl (fun _ => rfl) rfl rfl rfl rfl rfl (pCall_v (p := 0) hs_es rfl rfl rfl rfl rfl (by decide) rfl rfl rfl rfl rfl) ?_
  show aW _ _ _ _ _ _ (0, [some (.ref 64), some (.int (zI bk))], [], es)
  refine x0 (r := (1, [some (.ref 64), some (.int (zI bk))], [.int (zI bk)], es)) i_116_0 rfl ?_
  by_cases c1 : bk < 0
  · refine x_ifT i_116_1 (by unfold i32 iLO iHI; omega) rfl (by simp only [zC, cR]; omega) ?_
    refine x0 (r := (20, [some (.ref 64), some (.int (zI bk))], [.int (zI 0)], es)) i_116_19 (by rfl) ?_
    refine x_ret (v := some (.int (zI 0))) i_116_20 rfl (fun _ => rfl) rfl rfl (pFin_b (by omega)) ?_
    show aW _ _ _ _ _ _ (5, [some (.ref 64), some (.int (zI bk)), some (.int (zI nt))], [.int (zI 0)], es)
    refine x_ifT i_121_5 (by unfold i32 iLO iHI; omega) rfl (by simp only [zC, cR]; omega) ?_
    refine x0 (r := (29, [some (.ref 64), some (.int (zI bk)), some (.int (zI nt))], [.int (zI 0)], es)) i_121_28 (by rfl) ?_
    refine x_ret (v := some (.int (zI 0))) i_121_29 rfl (fun _ => rfl) rfl rfl (pFin_b (by omega)) ?_
    show aW _ _ _ _ _ _ (6, [some (.ref 64), some (.int (zI bk)), some (.int (zI nt)), some (.int (zI kd)), some (.int (zI fr)), some (.int (zI fi)), some (.int (zI ra)), none], [.int (zI 0)], es)
    refine x_ifT i_120_6 (by unfold i32 iLO iHI; omega) rfl (by simp only [zC, cR]; omega) ?_
    refine x_thr i_120_17 rfl (fun _ => rfl) rfl rfl rfl rfl ?_
    exact K1 c1
  · refine x_ifF i_116_1 (by unfold i32 iLO iHI; omega) rfl (by simp only [zC, cR]; omega) ?_
    refine x0 (r := (5, [some (.ref 64), some (.int (zI bk))], [.int (zI bk)], es)) i_116_4 rfl ?_
    refine x0 (r := (6, [some (.ref 64), some (.int (zI bk))], [.ref 64, .int (zI bk)], es)) i_116_5 rfl ?_
    refine x_getr (p := 0) (k := 71) i_116_6 hs_es rfl rfl ?_
    show aW _ _ _ _ _ _ (9, [some (.ref 64), some (.int (zI bk))], [.ref 71, .int (zI bk)], es)
    refine x_geti (p := 7) i_116_9 hs_es rfl rfl ?_
    obtain ⟨v2, e_v2⟩ : ∃ z : Int, z = (gI es 7 5).toInt := ⟨_, rfl⟩
    rw [← e_v2]
    have r_v2 : iLO ≤ v2 ∧ v2 ≤ iHI := by rw [e_v2]; exact i32_rng _
    unfold iLO iHI at r_v2
    have b_v2 : (0 : Int) ≤ v2 ∧ v2 ≤ (3 : Int) := by rw [e_v2]; exact gI_bd hT_es (p := 7) (b := 5) rfl rfl
    by_cases c3 : v2 ≤ bk
    · refine x_cmpT i_116_12 (by unfold i32 iLO iHI; omega) (by unfold i32 iLO iHI; omega) rfl (by simp only [zC, cR]; omega) ?_
      refine x0 (r := (20, [some (.ref 64), some (.int (zI bk))], [.int (zI 0)], es)) i_116_19 (by rfl) ?_
      refine x_ret (v := some (.int (zI 0))) i_116_20 rfl (fun _ => rfl) rfl rfl (pFin_b (by omega)) ?_
      show aW _ _ _ _ _ _ (5, [some (.ref 64), some (.int (zI bk)), some (.int (zI nt))], [.int (zI 0)], es)
      refine x_ifT i_121_5 (by unfold i32 iLO iHI; omega) rfl (by simp only [zC, cR]; omega) ?_
      refine x0 (r := (29, [some (.ref 64), some (.int (zI bk)), some (.int (zI nt))], [.int (zI 0)], es)) i_121_28 (by rfl) ?_
      refine x_ret (v := some (.int (zI 0))) i_121_29 rfl (fun _ => rfl) rfl rfl (pFin_b (by omega)) ?_
      show aW _ _ _ _ _ _ (6, [some (.ref 64), some (.int (zI bk)), some (.int (zI nt)), some (.int (zI kd)), some (.int (zI fr)), some (.int (zI fi)), some (.int (zI ra)), none], [.int (zI 0)], es)
      refine x_ifT i_120_6 (by unfold i32 iLO iHI; omega) rfl (by simp only [zC, cR]; omega) ?_
      refine x_thr i_120_17 rfl (fun _ => rfl) rfl rfl rfl rfl ?_
      exact K2 c1 v2 e_v2 c3
    · refine x_cmpF i_116_12 (by unfold i32 iLO iHI; omega) (by unfold i32 iLO iHI; omega) rfl (by simp only [zC, cR]; omega) ?_
      refine x0 (r := (16, [some (.ref 64), some (.int (zI bk))], [.int (zI 1)], es)) i_116_15 (by rfl) ?_
      refine x0 (r := (20, [some (.ref 64), some (.int (zI bk))], [.int (zI 1)], es)) i_116_16 rfl ?_
      refine x_ret (v := some (.int (zI 1))) i_116_20 rfl (fun _ => rfl) rfl rfl (pFin_b (by omega)) ?_
      show aW _ _ _ _ _ _ (5, [some (.ref 64), some (.int (zI bk)), some (.int (zI nt))], [.int (zI 1)], es)
      refine x_ifF i_121_5 (by unfold i32 iLO iHI; omega) rfl (by simp only [zC, cR]; omega) ?_
      refine x0 (r := (9, [some (.ref 64), some (.int (zI bk)), some (.int (zI nt))], [.int (zI nt)], es)) i_121_8 rfl ?_
      by_cases c4 : nt < 0
      · refine x_ifT i_121_9 (by unfold i32 iLO iHI; omega) rfl (by simp only [zC, cR]; omega) ?_
        refine x0 (r := (29, [some (.ref 64), some (.int (zI bk)), some (.int (zI nt))], [.int (zI 0)], es)) i_121_28 (by rfl) ?_
        refine x_ret (v := some (.int (zI 0))) i_121_29 rfl (fun _ => rfl) rfl rfl (pFin_b (by omega)) ?_
        show aW _ _ _ _ _ _ (6, [some (.ref 64), some (.int (zI bk)), some (.int (zI nt)), some (.int (zI kd)), some (.int (zI fr)), some (.int (zI fi)), some (.int (zI ra)), none], [.int (zI 0)], es)
        refine x_ifT i_120_6 (by unfold i32 iLO iHI; omega) rfl (by simp only [zC, cR]; omega) ?_
        refine x_thr i_120_17 rfl (fun _ => rfl) rfl rfl rfl rfl ?_
        exact K3 c1 v2 e_v2 c3 c4
      · refine x_ifF i_121_9 (by unfold i32 iLO iHI; omega) rfl (by simp only [zC, cR]; omega) ?_
        refine x0 (r := (13, [some (.ref 64), some (.int (zI bk)), some (.int (zI nt))], [.int (zI nt)], es)) i_121_12 rfl ?_
        refine x0 (r := (14, [some (.ref 64), some (.int (zI bk)), some (.int (zI nt))], [.ref 64, .int (zI nt)], es)) i_121_13 rfl ?_
        refine x_getr (p := 0) (k := 71) i_121_14 hs_es rfl rfl ?_
        show aW _ _ _ _ _ _ (17, [some (.ref 64), some (.int (zI bk)), some (.int (zI nt))], [.ref 71, .int (zI nt)], es)
        refine x0 (r := (18, [some (.ref 64), some (.int (zI bk)), some (.int (zI nt))], [.int (zI bk), .ref 71, .int (zI nt)], es)) i_121_17 rfl ?_
        refine x_call (vs := [.ref 71, .int (zI bk)]) (rs := [.int (zI nt)]) i_121_18 rfl (fun _ => rfl) rfl rfl rfl rfl rfl (pCall_v (p := 7) hs_es rfl rfl rfl rfl rfl (by decide) rfl rfl rfl rfl rfl) ?_
        show aW _ _ _ _ _ _ (0, [some (.ref 71), some (.int (zI bk))], [], es)
        refine x0 (r := (1, [some (.ref 71), some (.int (zI bk))], [.ref 71], es)) i_35_0 rfl ?_
        refine x_getr (p := 7) (k := 77) i_35_1 hs_es rfl rfl ?_
        show aW _ _ _ _ _ _ (4, [some (.ref 71), some (.int (zI bk))], [.ref 77], es)
        refine x0 (r := (5, [some (.ref 71), some (.int (zI bk))], [.int (zI bk), .ref 77], es)) i_35_4 rfl ?_
        refine x_call (vs := [.ref 77, .int (zI bk)]) (rs := []) i_35_5 rfl (fun _ => rfl) rfl rfl rfl rfl rfl rfl ?_
        show aW _ _ _ _ _ _ (0, [some (.ref 77), some (.int (zI bk))], [], es)
        refine x0 (r := (1, [some (.ref 77), some (.int (zI bk))], [.int (zI bk)], es)) i_28_0 rfl ?_
        refine x_ifF i_28_1 (by unfold i32 iLO iHI; omega) rfl (by simp only [zC, cR]; omega) ?_
        refine x0 (r := (5, [some (.ref 77), some (.int (zI bk))], [.int (zI bk)], es)) i_28_4 rfl ?_
        refine x0 (r := (6, [some (.ref 77), some (.int (zI bk))], [.ref 77, .int (zI bk)], es)) i_28_5 rfl ?_
        refine x_alen (p := 13) (n := 3) i_28_6 hs_es rfl ?_
        refine x_cmpF i_28_7 (by unfold i32 iLO iHI; omega) (by unfold i32 iLO iHI; omega) rfl (by simp only [zC, cR]; omega) ?_
        refine x0 (r := (11, [some (.ref 77), some (.int (zI bk))], [.ref 77], es)) i_28_10 rfl ?_
        refine x0 (r := (12, [some (.ref 77), some (.int (zI bk))], [.int (zI bk), .ref 77], es)) i_28_11 rfl ?_
        refine x_iald (p := 13) i_28_12 hs_es rfl (by unfold i32 iLO iHI; omega) (by omega) (by omega) ?_
        obtain ⟨v5, e_v5⟩ : ∃ z : Int, z = (gA es 13 bk.toNat).toInt := ⟨_, rfl⟩
        rw [← e_v5]
        have r_v5 : iLO ≤ v5 ∧ v5 ≤ iHI := by rw [e_v5]; exact i32_rng _
        unfold iLO iHI at r_v5
        have b_v5 : (0 : Int) ≤ v5 ∧ v5 ≤ (24 : Int) := by rw [e_v5]; exact gA_bd hT_es (p := 13) (k := bk.toNat) rfl (by omega) (by decide)
        refine x0 (r := (17, [some (.ref 77), some (.int (zI bk))], [.int (zI v5)], es)) i_28_13 rfl ?_
        refine x_ret (v := some (.int (zI v5))) i_28_17 rfl (fun _ => rfl) rfl rfl rfl ?_
        show aW _ _ _ _ _ _ (8, [some (.ref 71), some (.int (zI bk))], [.int (zI v5)], es)
        refine x_ret (v := some (.int (zI v5))) i_35_8 rfl (fun _ => rfl) rfl rfl rfl ?_
        show aW _ _ _ _ _ _ (21, [some (.ref 64), some (.int (zI bk)), some (.int (zI nt))], [.int (zI v5), .int (zI nt)], es)
        by_cases c6 : v5 ≤ nt
        · refine x_cmpT i_121_21 (by unfold i32 iLO iHI; omega) (by unfold i32 iLO iHI; omega) rfl (by simp only [zC, cR]; omega) ?_
          refine x0 (r := (29, [some (.ref 64), some (.int (zI bk)), some (.int (zI nt))], [.int (zI 0)], es)) i_121_28 (by rfl) ?_
          refine x_ret (v := some (.int (zI 0))) i_121_29 rfl (fun _ => rfl) rfl rfl (pFin_b (by omega)) ?_
          show aW _ _ _ _ _ _ (6, [some (.ref 64), some (.int (zI bk)), some (.int (zI nt)), some (.int (zI kd)), some (.int (zI fr)), some (.int (zI fi)), some (.int (zI ra)), none], [.int (zI 0)], es)
          refine x_ifT i_120_6 (by unfold i32 iLO iHI; omega) rfl (by simp only [zC, cR]; omega) ?_
          refine x_thr i_120_17 rfl (fun _ => rfl) rfl rfl rfl rfl ?_
          exact K4 c1 v2 e_v2 c3 c4 v5 e_v5 c6
        · refine x_cmpF i_121_21 (by unfold i32 iLO iHI; omega) (by unfold i32 iLO iHI; omega) rfl (by simp only [zC, cR]; omega) ?_
          refine x0 (r := (25, [some (.ref 64), some (.int (zI bk)), some (.int (zI nt))], [.int (zI 1)], es)) i_121_24 (by rfl) ?_
          refine x0 (r := (29, [some (.ref 64), some (.int (zI bk)), some (.int (zI nt))], [.int (zI 1)], es)) i_121_25 rfl ?_
          refine x_ret (v := some (.int (zI 1))) i_121_29 rfl (fun _ => rfl) rfl rfl (pFin_b (by omega)) ?_
          show aW _ _ _ _ _ _ (6, [some (.ref 64), some (.int (zI bk)), some (.int (zI nt)), some (.int (zI kd)), some (.int (zI fr)), some (.int (zI fi)), some (.int (zI ra)), none], [.int (zI 1)], es)
          refine x_ifF i_120_6 (by unfold i32 iLO iHI; omega) rfl (by simp only [zC, cR]; omega) ?_
          refine x0 (r := (10, [some (.ref 64), some (.int (zI bk)), some (.int (zI nt)), some (.int (zI kd)), some (.int (zI fr)), some (.int (zI fi)), some (.int (zI ra)), none], [.ref 64], es)) i_120_9 rfl ?_
          refine x0 (r := (11, [some (.ref 64), some (.int (zI bk)), some (.int (zI nt)), some (.int (zI kd)), some (.int (zI fr)), some (.int (zI fi)), some (.int (zI ra)), none], [.int (zI kd), .ref 64], es)) i_120_10 rfl ?_
          refine x_call (vs := [.ref 64, .int (zI kd)]) (rs := []) i_120_11 rfl (fun _ => rfl) rfl rfl rfl rfl rfl (pCall_v (p := 0) hs_es rfl rfl rfl rfl rfl (by decide) rfl rfl rfl rfl rfl) ?_
          show aW _ _ _ _ _ _ (0, [some (.ref 64), some (.int (zI kd))], [], es)
          refine x0 (r := (1, [some (.ref 64), some (.int (zI kd))], [.int (zI kd)], es)) i_104_0 rfl ?_
          by_cases c7 : kd < 0
          · refine x_ifT i_104_1 (by unfold i32 iLO iHI; omega) rfl (by simp only [zC, cR]; omega) ?_
            refine x0 (r := (20, [some (.ref 64), some (.int (zI kd))], [.int (zI 0)], es)) i_104_19 (by rfl) ?_
            refine x_ret (v := some (.int (zI 0))) i_104_20 rfl (fun _ => rfl) rfl rfl (pFin_b (by omega)) ?_
            show aW _ _ _ _ _ _ (14, [some (.ref 64), some (.int (zI bk)), some (.int (zI nt)), some (.int (zI kd)), some (.int (zI fr)), some (.int (zI fi)), some (.int (zI ra)), none], [.int (zI 0)], es)
            refine x_ifF i_120_14 (by unfold i32 iLO iHI; omega) rfl (by simp only [zC, cR]; omega) ?_
            refine x_thr i_120_17 rfl (fun _ => rfl) rfl rfl rfl rfl ?_
            exact K5 c1 v2 e_v2 c3 c4 v5 e_v5 c6 c7
          · refine x_ifF i_104_1 (by unfold i32 iLO iHI; omega) rfl (by simp only [zC, cR]; omega) ?_
            refine x0 (r := (5, [some (.ref 64), some (.int (zI kd))], [.int (zI kd)], es)) i_104_4 rfl ?_
            refine x0 (r := (6, [some (.ref 64), some (.int (zI kd))], [.ref 64, .int (zI kd)], es)) i_104_5 rfl ?_
            refine x_getr (p := 0) (k := 71) i_104_6 hs_es rfl rfl ?_
            show aW _ _ _ _ _ _ (9, [some (.ref 64), some (.int (zI kd))], [.ref 71, .int (zI kd)], es)
            refine x_geti (p := 7) i_104_9 hs_es rfl rfl ?_
            obtain ⟨v8, e_v8⟩ : ∃ z : Int, z = (gI es 7 0).toInt := ⟨_, rfl⟩
            rw [← e_v8]
            have r_v8 : iLO ≤ v8 ∧ v8 ≤ iHI := by rw [e_v8]; exact i32_rng _
            unfold iLO iHI at r_v8
            by_cases c9 : v8 ≤ kd
            · refine x_cmpT i_104_12 (by unfold i32 iLO iHI; omega) (by unfold i32 iLO iHI; omega) rfl (by simp only [zC, cR]; omega) ?_
              refine x0 (r := (20, [some (.ref 64), some (.int (zI kd))], [.int (zI 0)], es)) i_104_19 (by rfl) ?_
              refine x_ret (v := some (.int (zI 0))) i_104_20 rfl (fun _ => rfl) rfl rfl (pFin_b (by omega)) ?_
              show aW _ _ _ _ _ _ (14, [some (.ref 64), some (.int (zI bk)), some (.int (zI nt)), some (.int (zI kd)), some (.int (zI fr)), some (.int (zI fi)), some (.int (zI ra)), none], [.int (zI 0)], es)
              refine x_ifF i_120_14 (by unfold i32 iLO iHI; omega) rfl (by simp only [zC, cR]; omega) ?_
              refine x_thr i_120_17 rfl (fun _ => rfl) rfl rfl rfl rfl ?_
              exact K6 c1 v2 e_v2 c3 c4 v5 e_v5 c6 c7 v8 e_v8 c9
            · refine x_cmpF i_104_12 (by unfold i32 iLO iHI; omega) (by unfold i32 iLO iHI; omega) rfl (by simp only [zC, cR]; omega) ?_
              refine x0 (r := (16, [some (.ref 64), some (.int (zI kd))], [.int (zI 1)], es)) i_104_15 (by rfl) ?_
              refine x0 (r := (20, [some (.ref 64), some (.int (zI kd))], [.int (zI 1)], es)) i_104_16 rfl ?_
              refine x_ret (v := some (.int (zI 1))) i_104_20 rfl (fun _ => rfl) rfl rfl (pFin_b (by omega)) ?_
              show aW _ _ _ _ _ _ (14, [some (.ref 64), some (.int (zI bk)), some (.int (zI nt)), some (.int (zI kd)), some (.int (zI fr)), some (.int (zI fi)), some (.int (zI ra)), none], [.int (zI 1)], es)
              refine x_ifT i_120_14 (by unfold i32 iLO iHI; omega) rfl (by simp only [zC, cR]; omega) ?_
              refine x0 (r := (29, [some (.ref 64), some (.int (zI bk)), some (.int (zI nt)), some (.int (zI kd)), some (.int (zI fr)), some (.int (zI fi)), some (.int (zI ra)), none], [.int (zI fr)], es)) i_120_27 rfl ?_
              refine x0 (r := (31, [some (.ref 64), some (.int (zI bk)), some (.int (zI nt)), some (.int (zI kd)), some (.int (zI fr)), some (.int (zI fi)), some (.int (zI ra)), none], [.int (zI fi), .int (zI fr)], es)) i_120_29 rfl ?_
              refine x0 (r := (33, [some (.ref 64), some (.int (zI bk)), some (.int (zI nt)), some (.int (zI kd)), some (.int (zI fr)), some (.int (zI fi)), some (.int (zI ra)), none], [.int (zI ra), .int (zI fi), .int (zI fr)], es)) i_120_31 rfl ?_
              refine x_call (vs := [.int (zI fr), .int (zI fi), .int (zI ra)]) (rs := []) i_120_33 rfl (fun _ => rfl) rfl rfl rfl rfl rfl rfl ?_
              show aW _ _ _ _ _ _ (0, [some (.int (zI fr)), some (.int (zI fi)), some (.int (zI ra))], [], es)
              refine x0 (r := (1, [some (.int (zI fr)), some (.int (zI fi)), some (.int (zI ra))], [.int (zI fr)], es)) i_117_0 rfl ?_
              refine x0 (r := (2, [some (.int (zI fr)), some (.int (zI fi)), some (.int (zI ra))], [.int (zI (-1)), .int (zI fr)], es)) i_117_1 (by rfl) ?_
              by_cases c10 : fr < (-1)
              · refine x_cmpT i_117_2 (by unfold i32 iLO iHI; omega) (by unfold i32 iLO iHI; omega) rfl (by simp only [zC, cR]; omega) ?_
                refine x0 (r := (36, [some (.int (zI fr)), some (.int (zI fi)), some (.int (zI ra))], [.int (zI 0)], es)) i_117_35 (by rfl) ?_
                refine x_ret (v := some (.int (zI 0))) i_117_36 rfl (fun _ => rfl) rfl rfl (pFin_b (by omega)) ?_
                show aW _ _ _ _ _ _ (36, [some (.ref 64), some (.int (zI bk)), some (.int (zI nt)), some (.int (zI kd)), some (.int (zI fr)), some (.int (zI fi)), some (.int (zI ra)), none], [.int (zI 0)], es)
                refine x_ifF i_120_36 (by unfold i32 iLO iHI; omega) rfl (by simp only [zC, cR]; omega) ?_
                refine x_thr i_120_39 rfl (fun _ => rfl) rfl rfl rfl rfl ?_
                exact K7 c1 v2 e_v2 c3 c4 v5 e_v5 c6 c7 v8 e_v8 c9 c10
              · refine x_cmpF i_117_2 (by unfold i32 iLO iHI; omega) (by unfold i32 iLO iHI; omega) rfl (by simp only [zC, cR]; omega) ?_
                refine x0 (r := (6, [some (.int (zI fr)), some (.int (zI fi)), some (.int (zI ra))], [.int (zI fr)], es)) i_117_5 rfl ?_
                refine x0 (r := (8, [some (.int (zI fr)), some (.int (zI fi)), some (.int (zI ra))], [.int (zI 6), .int (zI fr)], es)) i_117_6 (by rfl) ?_
                by_cases c11 : 6 ≤ fr
                · refine x_cmpT i_117_8 (by unfold i32 iLO iHI; omega) (by unfold i32 iLO iHI; omega) rfl (by simp only [zC, cR]; omega) ?_
                  refine x0 (r := (36, [some (.int (zI fr)), some (.int (zI fi)), some (.int (zI ra))], [.int (zI 0)], es)) i_117_35 (by rfl) ?_
                  refine x_ret (v := some (.int (zI 0))) i_117_36 rfl (fun _ => rfl) rfl rfl (pFin_b (by omega)) ?_
                  show aW _ _ _ _ _ _ (36, [some (.ref 64), some (.int (zI bk)), some (.int (zI nt)), some (.int (zI kd)), some (.int (zI fr)), some (.int (zI fi)), some (.int (zI ra)), none], [.int (zI 0)], es)
                  refine x_ifF i_120_36 (by unfold i32 iLO iHI; omega) rfl (by simp only [zC, cR]; omega) ?_
                  refine x_thr i_120_39 rfl (fun _ => rfl) rfl rfl rfl rfl ?_
                  exact K8 c1 v2 e_v2 c3 c4 v5 e_v5 c6 c7 v8 e_v8 c9 c10 c11
                · refine x_cmpF i_117_8 (by unfold i32 iLO iHI; omega) (by unfold i32 iLO iHI; omega) rfl (by simp only [zC, cR]; omega) ?_
                  refine x0 (r := (12, [some (.int (zI fr)), some (.int (zI fi)), some (.int (zI ra))], [.int (zI fi)], es)) i_117_11 rfl ?_
                  by_cases c12 : fi < 0
                  · refine x_ifT i_117_12 (by unfold i32 iLO iHI; omega) rfl (by simp only [zC, cR]; omega) ?_
                    refine x0 (r := (36, [some (.int (zI fr)), some (.int (zI fi)), some (.int (zI ra))], [.int (zI 0)], es)) i_117_35 (by rfl) ?_
                    refine x_ret (v := some (.int (zI 0))) i_117_36 rfl (fun _ => rfl) rfl rfl (pFin_b (by omega)) ?_
                    show aW _ _ _ _ _ _ (36, [some (.ref 64), some (.int (zI bk)), some (.int (zI nt)), some (.int (zI kd)), some (.int (zI fr)), some (.int (zI fi)), some (.int (zI ra)), none], [.int (zI 0)], es)
                    refine x_ifF i_120_36 (by unfold i32 iLO iHI; omega) rfl (by simp only [zC, cR]; omega) ?_
                    refine x_thr i_120_39 rfl (fun _ => rfl) rfl rfl rfl rfl ?_
                    exact K9 c1 v2 e_v2 c3 c4 v5 e_v5 c6 c7 v8 e_v8 c9 c10 c11 c12
                  · refine x_ifF i_117_12 (by unfold i32 iLO iHI; omega) rfl (by simp only [zC, cR]; omega) ?_
                    refine x0 (r := (16, [some (.int (zI fr)), some (.int (zI fi)), some (.int (zI ra))], [.int (zI fi)], es)) i_117_15 rfl ?_
                    refine x0 (r := (18, [some (.int (zI fr)), some (.int (zI fi)), some (.int (zI ra))], [.int (zI 6), .int (zI fi)], es)) i_117_16 (by rfl) ?_
                    by_cases c13 : 6 ≤ fi
                    · refine x_cmpT i_117_18 (by unfold i32 iLO iHI; omega) (by unfold i32 iLO iHI; omega) rfl (by simp only [zC, cR]; omega) ?_
                      refine x0 (r := (36, [some (.int (zI fr)), some (.int (zI fi)), some (.int (zI ra))], [.int (zI 0)], es)) i_117_35 (by rfl) ?_
                      refine x_ret (v := some (.int (zI 0))) i_117_36 rfl (fun _ => rfl) rfl rfl (pFin_b (by omega)) ?_
                      show aW _ _ _ _ _ _ (36, [some (.ref 64), some (.int (zI bk)), some (.int (zI nt)), some (.int (zI kd)), some (.int (zI fr)), some (.int (zI fi)), some (.int (zI ra)), none], [.int (zI 0)], es)
                      refine x_ifF i_120_36 (by unfold i32 iLO iHI; omega) rfl (by simp only [zC, cR]; omega) ?_
                      refine x_thr i_120_39 rfl (fun _ => rfl) rfl rfl rfl rfl ?_
                      exact K10 c1 v2 e_v2 c3 c4 v5 e_v5 c6 c7 v8 e_v8 c9 c10 c11 c12 c13
                    · refine x_cmpF i_117_18 (by unfold i32 iLO iHI; omega) (by unfold i32 iLO iHI; omega) rfl (by simp only [zC, cR]; omega) ?_
                      refine x0 (r := (22, [some (.int (zI fr)), some (.int (zI fi)), some (.int (zI ra))], [.int (zI ra)], es)) i_117_21 rfl ?_
                      by_cases c14 : ra < 0
                      · refine x_ifT i_117_22 (by unfold i32 iLO iHI; omega) rfl (by simp only [zC, cR]; omega) ?_
                        refine x0 (r := (36, [some (.int (zI fr)), some (.int (zI fi)), some (.int (zI ra))], [.int (zI 0)], es)) i_117_35 (by rfl) ?_
                        refine x_ret (v := some (.int (zI 0))) i_117_36 rfl (fun _ => rfl) rfl rfl (pFin_b (by omega)) ?_
                        show aW _ _ _ _ _ _ (36, [some (.ref 64), some (.int (zI bk)), some (.int (zI nt)), some (.int (zI kd)), some (.int (zI fr)), some (.int (zI fi)), some (.int (zI ra)), none], [.int (zI 0)], es)
                        refine x_ifF i_120_36 (by unfold i32 iLO iHI; omega) rfl (by simp only [zC, cR]; omega) ?_
                        refine x_thr i_120_39 rfl (fun _ => rfl) rfl rfl rfl rfl ?_
                        exact K11 c1 v2 e_v2 c3 c4 v5 e_v5 c6 c7 v8 e_v8 c9 c10 c11 c12 c13 c14
                      · refine x_ifF i_117_22 (by unfold i32 iLO iHI; omega) rfl (by simp only [zC, cR]; omega) ?_
                        refine x0 (r := (26, [some (.int (zI fr)), some (.int (zI fi)), some (.int (zI ra))], [.int (zI ra)], es)) i_117_25 rfl ?_
                        refine x0 (r := (28, [some (.int (zI fr)), some (.int (zI fi)), some (.int (zI ra))], [.int (zI 6), .int (zI ra)], es)) i_117_26 (by rfl) ?_
                        by_cases c15 : 6 ≤ ra
                        · refine x_cmpT i_117_28 (by unfold i32 iLO iHI; omega) (by unfold i32 iLO iHI; omega) rfl (by simp only [zC, cR]; omega) ?_
                          refine x0 (r := (36, [some (.int (zI fr)), some (.int (zI fi)), some (.int (zI ra))], [.int (zI 0)], es)) i_117_35 (by rfl) ?_
                          refine x_ret (v := some (.int (zI 0))) i_117_36 rfl (fun _ => rfl) rfl rfl (pFin_b (by omega)) ?_
                          show aW _ _ _ _ _ _ (36, [some (.ref 64), some (.int (zI bk)), some (.int (zI nt)), some (.int (zI kd)), some (.int (zI fr)), some (.int (zI fi)), some (.int (zI ra)), none], [.int (zI 0)], es)
                          refine x_ifF i_120_36 (by unfold i32 iLO iHI; omega) rfl (by simp only [zC, cR]; omega) ?_
                          refine x_thr i_120_39 rfl (fun _ => rfl) rfl rfl rfl rfl ?_
                          exact K12 c1 v2 e_v2 c3 c4 v5 e_v5 c6 c7 v8 e_v8 c9 c10 c11 c12 c13 c14 c15
                        · refine x_cmpF i_117_28 (by unfold i32 iLO iHI; omega) (by unfold i32 iLO iHI; omega) rfl (by simp only [zC, cR]; omega) ?_
                          refine x0 (r := (32, [some (.int (zI fr)), some (.int (zI fi)), some (.int (zI ra))], [.int (zI 1)], es)) i_117_31 (by rfl) ?_
                          refine x0 (r := (36, [some (.int (zI fr)), some (.int (zI fi)), some (.int (zI ra))], [.int (zI 1)], es)) i_117_32 rfl ?_
                          refine x_ret (v := some (.int (zI 1))) i_117_36 rfl (fun _ => rfl) rfl rfl (pFin_b (by omega)) ?_
                          show aW _ _ _ _ _ _ (36, [some (.ref 64), some (.int (zI bk)), some (.int (zI nt)), some (.int (zI kd)), some (.int (zI fr)), some (.int (zI fi)), some (.int (zI ra)), none], [.int (zI 1)], es)
                          refine x_ifT i_120_36 (by unfold i32 iLO iHI; omega) rfl (by simp only [zC, cR]; omega) ?_
                          refine x0 (r := (50, [some (.ref 64), some (.int (zI bk)), some (.int (zI nt)), some (.int (zI kd)), some (.int (zI fr)), some (.int (zI fi)), some (.int (zI ra)), none], [.ref 64], es)) i_120_49 rfl ?_
                          refine x_getr (p := 0) (k := 71) i_120_50 hs_es rfl rfl ?_
                          show aW _ _ _ _ _ _ (53, [some (.ref 64), some (.int (zI bk)), some (.int (zI nt)), some (.int (zI kd)), some (.int (zI fr)), some (.int (zI fi)), some (.int (zI ra)), none], [.ref 71], es)
                          refine x0 (r := (54, [some (.ref 64), some (.int (zI bk)), some (.int (zI nt)), some (.int (zI kd)), some (.int (zI fr)), some (.int (zI fi)), some (.int (zI ra)), none], [.int (zI bk), .ref 71], es)) i_120_53 rfl ?_
                          refine x0 (r := (55, [some (.ref 64), some (.int (zI bk)), some (.int (zI nt)), some (.int (zI kd)), some (.int (zI fr)), some (.int (zI fi)), some (.int (zI ra)), none], [.int (zI nt), .int (zI bk), .ref 71], es)) i_120_54 rfl ?_
                          refine x0 (r := (56, [some (.ref 64), some (.int (zI bk)), some (.int (zI nt)), some (.int (zI kd)), some (.int (zI fr)), some (.int (zI fi)), some (.int (zI ra)), none], [.int (zI 0), .int (zI nt), .int (zI bk), .ref 71], es)) i_120_55 (by rfl) ?_
                          refine x_call (vs := [.ref 71, .int (zI bk), .int (zI nt), .int (zI 0)]) (rs := []) i_120_56 rfl (fun _ => rfl) rfl rfl rfl rfl rfl (pCall_v (p := 7) hs_es rfl rfl rfl rfl rfl (by decide) rfl rfl rfl rfl rfl) ?_
                          show aW _ _ _ _ _ _ (0, [some (.ref 71), some (.int (zI bk)), some (.int (zI nt)), some (.int (zI 0))], [], es)
                          refine x0 (r := (1, [some (.ref 71), some (.int (zI bk)), some (.int (zI nt)), some (.int (zI 0))], [.ref 71], es)) i_43_0 rfl ?_
                          refine x_getr (p := 7) (k := 78) i_43_1 hs_es rfl rfl ?_
                          show aW _ _ _ _ _ _ (4, [some (.ref 71), some (.int (zI bk)), some (.int (zI nt)), some (.int (zI 0))], [.ref 78], es)
                          refine x0 (r := (5, [some (.ref 71), some (.int (zI bk)), some (.int (zI nt)), some (.int (zI 0))], [.int (zI bk), .ref 78], es)) i_43_4 rfl ?_
                          refine x0 (r := (7, [some (.ref 71), some (.int (zI bk)), some (.int (zI nt)), some (.int (zI 0))], [.int (zI 24), .int (zI bk), .ref 78], es)) i_43_5 (by rfl) ?_
                          refine x_imul i_43_7 ?_
                          refine x0 (r := (9, [some (.ref 71), some (.int (zI bk)), some (.int (zI nt)), some (.int (zI 0))], [.int (zI nt), .int (zI (bk * 24)), .ref 78], es)) i_43_8 rfl ?_
                          refine x_iadd i_43_9 ?_
                          refine x0 (r := (11, [some (.ref 71), some (.int (zI bk)), some (.int (zI nt)), some (.int (zI 0))], [.int (zI 4), .int (zI ((bk * 24) + nt)), .ref 78], es)) i_43_10 (by rfl) ?_
                          refine x_imul i_43_11 ?_
                          refine x0 (r := (13, [some (.ref 71), some (.int (zI bk)), some (.int (zI nt)), some (.int (zI 0))], [.int (zI 0), .int (zI (((bk * 24) + nt) * 4)), .ref 78], es)) i_43_12 rfl ?_
                          refine x_iadd i_43_13 ?_
                          refine x_call (vs := [.ref 78, .int (zI ((((bk * 24) + nt) * 4) + 0))]) (rs := []) i_43_14 rfl (fun _ => rfl) rfl rfl rfl rfl rfl rfl ?_
                          show aW _ _ _ _ _ _ (0, [some (.ref 78), some (.int (zI ((((bk * 24) + nt) * 4) + 0)))], [], es)
                          refine x0 (r := (1, [some (.ref 78), some (.int (zI ((((bk * 24) + nt) * 4) + 0)))], [.int (zI ((((bk * 24) + nt) * 4) + 0))], es)) i_28_0 rfl ?_
                          refine x_ifF i_28_1 (by unfold i32 iLO iHI; omega) rfl (by simp only [zC, cR]; omega) ?_
                          refine x0 (r := (5, [some (.ref 78), some (.int (zI ((((bk * 24) + nt) * 4) + 0)))], [.int (zI ((((bk * 24) + nt) * 4) + 0))], es)) i_28_4 rfl ?_
                          refine x0 (r := (6, [some (.ref 78), some (.int (zI ((((bk * 24) + nt) * 4) + 0)))], [.ref 78, .int (zI ((((bk * 24) + nt) * 4) + 0))], es)) i_28_5 rfl ?_
                          refine x_alen (p := 14) (n := 288) i_28_6 hs_es rfl ?_
                          refine x_cmpF i_28_7 (by unfold i32 iLO iHI; omega) (by unfold i32 iLO iHI; omega) rfl (by simp only [zC, cR]; omega) ?_
                          refine x0 (r := (11, [some (.ref 78), some (.int (zI ((((bk * 24) + nt) * 4) + 0)))], [.ref 78], es)) i_28_10 rfl ?_
                          refine x0 (r := (12, [some (.ref 78), some (.int (zI ((((bk * 24) + nt) * 4) + 0)))], [.int (zI ((((bk * 24) + nt) * 4) + 0)), .ref 78], es)) i_28_11 rfl ?_
                          refine x_iald (p := 14) i_28_12 hs_es rfl (by unfold i32 iLO iHI; omega) (by omega) (by omega) ?_
                          obtain ⟨v16, e_v16⟩ : ∃ z : Int, z = (gA es 14 ((((bk * 24) + nt) * 4) + 0).toNat).toInt := ⟨_, rfl⟩
                          rw [← e_v16]
                          have r_v16 : iLO ≤ v16 ∧ v16 ≤ iHI := by rw [e_v16]; exact i32_rng _
                          unfold iLO iHI at r_v16
                          refine x0 (r := (17, [some (.ref 78), some (.int (zI ((((bk * 24) + nt) * 4) + 0)))], [.int (zI v16)], es)) i_28_13 rfl ?_
                          refine x_ret (v := some (.int (zI v16))) i_28_17 rfl (fun _ => rfl) rfl rfl rfl ?_
                          show aW _ _ _ _ _ _ (17, [some (.ref 71), some (.int (zI bk)), some (.int (zI nt)), some (.int (zI 0))], [.int (zI v16)], es)
                          refine x_ret (v := some (.int (zI v16))) i_43_17 rfl (fun _ => rfl) rfl rfl rfl ?_
                          show aW _ _ _ _ _ _ (59, [some (.ref 64), some (.int (zI bk)), some (.int (zI nt)), some (.int (zI kd)), some (.int (zI fr)), some (.int (zI fi)), some (.int (zI ra)), none], [.int (zI v16)], es)
                          refine x0 (r := (60, [some (.ref 64), some (.int (zI bk)), some (.int (zI nt)), some (.int (zI kd)), some (.int (zI fr)), some (.int (zI fi)), some (.int (zI ra)), none], [.int (zI kd), .int (zI v16)], es)) i_120_59 rfl ?_
                          by_cases c17 : v16 ≠ kd
                          · refine x_cmpT i_120_60 (by unfold i32 iLO iHI; omega) (by unfold i32 iLO iHI; omega) rfl (by simp only [zC, cR]; omega) ?_
                            refine x0 (r := (113, [some (.ref 64), some (.int (zI bk)), some (.int (zI nt)), some (.int (zI kd)), some (.int (zI fr)), some (.int (zI fi)), some (.int (zI ra)), none], [.int (zI 0)], es)) i_120_112 (by rfl) ?_
                            refine x0 (r := (115, [some (.ref 64), some (.int (zI bk)), some (.int (zI nt)), some (.int (zI kd)), some (.int (zI fr)), some (.int (zI fi)), some (.int (zI ra)), some (.int (zI 0))], [], es)) i_120_113 rfl ?_
                            refine x0 (r := (116, [some (.ref 64), some (.int (zI bk)), some (.int (zI nt)), some (.int (zI kd)), some (.int (zI fr)), some (.int (zI fi)), some (.int (zI ra)), some (.int (zI 0))], [.ref 64], es)) i_120_115 rfl ?_
                            refine x_getr (p := 0) (k := 71) i_120_116 hs_es rfl rfl ?_
                            show aW _ _ _ _ _ _ (119, [some (.ref 64), some (.int (zI bk)), some (.int (zI nt)), some (.int (zI kd)), some (.int (zI fr)), some (.int (zI fi)), some (.int (zI ra)), some (.int (zI 0))], [.ref 71], es)
                            refine x0 (r := (120, [some (.ref 64), some (.int (zI bk)), some (.int (zI nt)), some (.int (zI kd)), some (.int (zI fr)), some (.int (zI fi)), some (.int (zI ra)), some (.int (zI 0))], [.int (zI bk), .ref 71], es)) i_120_119 rfl ?_
                            refine x0 (r := (121, [some (.ref 64), some (.int (zI bk)), some (.int (zI nt)), some (.int (zI kd)), some (.int (zI fr)), some (.int (zI fi)), some (.int (zI ra)), some (.int (zI 0))], [.int (zI nt), .int (zI bk), .ref 71], es)) i_120_120 rfl ?_
                            refine x0 (r := (122, [some (.ref 64), some (.int (zI bk)), some (.int (zI nt)), some (.int (zI kd)), some (.int (zI fr)), some (.int (zI fi)), some (.int (zI ra)), some (.int (zI 0))], [.int (zI kd), .int (zI nt), .int (zI bk), .ref 71], es)) i_120_121 rfl ?_
                            refine x0 (r := (124, [some (.ref 64), some (.int (zI bk)), some (.int (zI nt)), some (.int (zI kd)), some (.int (zI fr)), some (.int (zI fi)), some (.int (zI ra)), some (.int (zI 0))], [.int (zI fr), .int (zI kd), .int (zI nt), .int (zI bk), .ref 71], es)) i_120_122 rfl ?_
                            refine x0 (r := (126, [some (.ref 64), some (.int (zI bk)), some (.int (zI nt)), some (.int (zI kd)), some (.int (zI fr)), some (.int (zI fi)), some (.int (zI ra)), some (.int (zI 0))], [.int (zI fi), .int (zI fr), .int (zI kd), .int (zI nt), .int (zI bk), .ref 71], es)) i_120_124 rfl ?_
                            refine x0 (r := (128, [some (.ref 64), some (.int (zI bk)), some (.int (zI nt)), some (.int (zI kd)), some (.int (zI fr)), some (.int (zI fi)), some (.int (zI ra)), some (.int (zI 0))], [.int (zI ra), .int (zI fi), .int (zI fr), .int (zI kd), .int (zI nt), .int (zI bk), .ref 71], es)) i_120_126 rfl ?_
                            refine x_call (vs := [.ref 71, .int (zI bk), .int (zI nt), .int (zI kd), .int (zI fr), .int (zI fi), .int (zI ra)]) (rs := []) i_120_128 rfl (fun _ => rfl) rfl rfl rfl rfl rfl (pCall_v (p := 7) hs_es rfl rfl rfl rfl rfl (by decide) rfl rfl rfl rfl rfl) ?_
                            show aW _ _ _ _ _ _ (0, [some (.ref 71), some (.int (zI bk)), some (.int (zI nt)), some (.int (zI kd)), some (.int (zI fr)), some (.int (zI fi)), some (.int (zI ra)), none], [], es)
                            refine x0 (r := (1, [some (.ref 71), some (.int (zI bk)), some (.int (zI nt)), some (.int (zI kd)), some (.int (zI fr)), some (.int (zI fi)), some (.int (zI ra)), none], [.int (zI bk)], es)) i_119_0 rfl ?_
                            refine x0 (r := (3, [some (.ref 71), some (.int (zI bk)), some (.int (zI nt)), some (.int (zI kd)), some (.int (zI fr)), some (.int (zI fi)), some (.int (zI ra)), none], [.int (zI 24), .int (zI bk)], es)) i_119_1 (by rfl) ?_
                            refine x_imul i_119_3 ?_
                            refine x0 (r := (5, [some (.ref 71), some (.int (zI bk)), some (.int (zI nt)), some (.int (zI kd)), some (.int (zI fr)), some (.int (zI fi)), some (.int (zI ra)), none], [.int (zI nt), .int (zI (bk * 24))], es)) i_119_4 rfl ?_
                            refine x_iadd i_119_5 ?_
                            refine x0 (r := (7, [some (.ref 71), some (.int (zI bk)), some (.int (zI nt)), some (.int (zI kd)), some (.int (zI fr)), some (.int (zI fi)), some (.int (zI ra)), none], [.int (zI 4), .int (zI ((bk * 24) + nt))], es)) i_119_6 (by rfl) ?_
                            refine x_imul i_119_7 ?_
                            refine x0 (r := (10, [some (.ref 71), some (.int (zI bk)), some (.int (zI nt)), some (.int (zI kd)), some (.int (zI fr)), some (.int (zI fi)), some (.int (zI ra)), some (.int (zI (((bk * 24) + nt) * 4)))], [], es)) i_119_8 rfl ?_
                            refine x0 (r := (11, [some (.ref 71), some (.int (zI bk)), some (.int (zI nt)), some (.int (zI kd)), some (.int (zI fr)), some (.int (zI fi)), some (.int (zI ra)), some (.int (zI (((bk * 24) + nt) * 4)))], [.ref 71], es)) i_119_10 rfl ?_
                            refine x_getr (p := 7) (k := 78) i_119_11 hs_es rfl rfl ?_
                            show aW _ _ _ _ _ _ (14, [some (.ref 71), some (.int (zI bk)), some (.int (zI nt)), some (.int (zI kd)), some (.int (zI fr)), some (.int (zI fi)), some (.int (zI ra)), some (.int (zI (((bk * 24) + nt) * 4)))], [.ref 78], es)
                            refine x0 (r := (16, [some (.ref 71), some (.int (zI bk)), some (.int (zI nt)), some (.int (zI kd)), some (.int (zI fr)), some (.int (zI fi)), some (.int (zI ra)), some (.int (zI (((bk * 24) + nt) * 4)))], [.int (zI (((bk * 24) + nt) * 4)), .ref 78], es)) i_119_14 rfl ?_
                            refine x0 (r := (17, [some (.ref 71), some (.int (zI bk)), some (.int (zI nt)), some (.int (zI kd)), some (.int (zI fr)), some (.int (zI fi)), some (.int (zI ra)), some (.int (zI (((bk * 24) + nt) * 4)))], [.int (zI kd), .int (zI (((bk * 24) + nt) * 4)), .ref 78], es)) i_119_16 rfl ?_
                            refine x_call (vs := [.ref 78, .int (zI (((bk * 24) + nt) * 4)), .int (zI kd)]) (rs := []) i_119_17 rfl (fun _ => rfl) rfl rfl rfl rfl rfl rfl ?_
                            show aW _ _ _ _ _ _ (0, [some (.ref 78), some (.int (zI (((bk * 24) + nt) * 4))), some (.int (zI kd))], [], es)
                            refine x0 (r := (1, [some (.ref 78), some (.int (zI (((bk * 24) + nt) * 4))), some (.int (zI kd))], [.int (zI (((bk * 24) + nt) * 4))], es)) i_14_0 rfl ?_
                            refine x_ifF i_14_1 (by unfold i32 iLO iHI; omega) rfl (by simp only [zC, cR]; omega) ?_
                            refine x0 (r := (5, [some (.ref 78), some (.int (zI (((bk * 24) + nt) * 4))), some (.int (zI kd))], [.int (zI (((bk * 24) + nt) * 4))], es)) i_14_4 rfl ?_
                            refine x0 (r := (6, [some (.ref 78), some (.int (zI (((bk * 24) + nt) * 4))), some (.int (zI kd))], [.ref 78, .int (zI (((bk * 24) + nt) * 4))], es)) i_14_5 rfl ?_
                            refine x_alen (p := 14) (n := 288) i_14_6 hs_es rfl ?_
                            refine x_cmpF i_14_7 (by unfold i32 iLO iHI; omega) (by unfold i32 iLO iHI; omega) rfl (by simp only [zC, cR]; omega) ?_
                            refine x0 (r := (11, [some (.ref 78), some (.int (zI (((bk * 24) + nt) * 4))), some (.int (zI kd))], [.ref 78], es)) i_14_10 rfl ?_
                            refine x0 (r := (12, [some (.ref 78), some (.int (zI (((bk * 24) + nt) * 4))), some (.int (zI kd))], [.int (zI (((bk * 24) + nt) * 4)), .ref 78], es)) i_14_11 rfl ?_
                            refine x0 (r := (13, [some (.ref 78), some (.int (zI (((bk * 24) + nt) * 4))), some (.int (zI kd))], [.int (zI kd), .int (zI (((bk * 24) + nt) * 4)), .ref 78], es)) i_14_12 rfl ?_
                            refine x_iast (p := 14) i_14_13 hs_es rfl (by unfold i32 iLO iHI; omega) (by omega) (by omega) ?_
                            obtain ⟨es18, e_es18⟩ : ∃ z : PH, z = sA es 14 (((bk * 24) + nt) * 4).toNat (zI kd) := ⟨_, rfl⟩
                            have hs_es18 : sh es18 := by rw [e_es18]; exact sh_sA hs_es
                            have hT_es18 : hOK tT es18 := by rw [e_es18]; exact hOK_sA hT_es (p := 14) (n := 288) rfl (fun _ => i32_rng _)
                            rw [← e_es18]
                            refine x_ret (v := none) i_14_14 rfl (fun _ => rfl) rfl rfl rfl ?_
                            show aW _ _ _ _ _ _ (20, [some (.ref 71), some (.int (zI bk)), some (.int (zI nt)), some (.int (zI kd)), some (.int (zI fr)), some (.int (zI fi)), some (.int (zI ra)), some (.int (zI (((bk * 24) + nt) * 4)))], [], es18)
                            refine x0 (r := (21, [some (.ref 71), some (.int (zI bk)), some (.int (zI nt)), some (.int (zI kd)), some (.int (zI fr)), some (.int (zI fi)), some (.int (zI ra)), some (.int (zI (((bk * 24) + nt) * 4)))], [.ref 71], es18)) i_119_20 rfl ?_
                            refine x_getr (p := 7) (k := 78) i_119_21 hs_es18 rfl rfl ?_
                            show aW _ _ _ _ _ _ (24, [some (.ref 71), some (.int (zI bk)), some (.int (zI nt)), some (.int (zI kd)), some (.int (zI fr)), some (.int (zI fi)), some (.int (zI ra)), some (.int (zI (((bk * 24) + nt) * 4)))], [.ref 78], es18)
                            refine x0 (r := (26, [some (.ref 71), some (.int (zI bk)), some (.int (zI nt)), some (.int (zI kd)), some (.int (zI fr)), some (.int (zI fi)), some (.int (zI ra)), some (.int (zI (((bk * 24) + nt) * 4)))], [.int (zI (((bk * 24) + nt) * 4)), .ref 78], es18)) i_119_24 rfl ?_
                            refine x0 (r := (27, [some (.ref 71), some (.int (zI bk)), some (.int (zI nt)), some (.int (zI kd)), some (.int (zI fr)), some (.int (zI fi)), some (.int (zI ra)), some (.int (zI (((bk * 24) + nt) * 4)))], [.int (zI 1), .int (zI (((bk * 24) + nt) * 4)), .ref 78], es18)) i_119_26 (by rfl) ?_
                            refine x_iadd i_119_27 ?_
                            refine x0 (r := (30, [some (.ref 71), some (.int (zI bk)), some (.int (zI nt)), some (.int (zI kd)), some (.int (zI fr)), some (.int (zI fi)), some (.int (zI ra)), some (.int (zI (((bk * 24) + nt) * 4)))], [.int (zI fr), .int (zI ((((bk * 24) + nt) * 4) + 1)), .ref 78], es18)) i_119_28 rfl ?_
                            refine x_call (vs := [.ref 78, .int (zI ((((bk * 24) + nt) * 4) + 1)), .int (zI fr)]) (rs := []) i_119_30 rfl (fun _ => rfl) rfl rfl rfl rfl rfl rfl ?_
                            show aW _ _ _ _ _ _ (0, [some (.ref 78), some (.int (zI ((((bk * 24) + nt) * 4) + 1))), some (.int (zI fr))], [], es18)
                            refine x0 (r := (1, [some (.ref 78), some (.int (zI ((((bk * 24) + nt) * 4) + 1))), some (.int (zI fr))], [.int (zI ((((bk * 24) + nt) * 4) + 1))], es18)) i_14_0 rfl ?_
                            refine x_ifF i_14_1 (by unfold i32 iLO iHI; omega) rfl (by simp only [zC, cR]; omega) ?_
                            refine x0 (r := (5, [some (.ref 78), some (.int (zI ((((bk * 24) + nt) * 4) + 1))), some (.int (zI fr))], [.int (zI ((((bk * 24) + nt) * 4) + 1))], es18)) i_14_4 rfl ?_
                            refine x0 (r := (6, [some (.ref 78), some (.int (zI ((((bk * 24) + nt) * 4) + 1))), some (.int (zI fr))], [.ref 78, .int (zI ((((bk * 24) + nt) * 4) + 1))], es18)) i_14_5 rfl ?_
                            refine x_alen (p := 14) (n := 288) i_14_6 hs_es18 rfl ?_
                            refine x_cmpF i_14_7 (by unfold i32 iLO iHI; omega) (by unfold i32 iLO iHI; omega) rfl (by simp only [zC, cR]; omega) ?_
                            refine x0 (r := (11, [some (.ref 78), some (.int (zI ((((bk * 24) + nt) * 4) + 1))), some (.int (zI fr))], [.ref 78], es18)) i_14_10 rfl ?_
                            refine x0 (r := (12, [some (.ref 78), some (.int (zI ((((bk * 24) + nt) * 4) + 1))), some (.int (zI fr))], [.int (zI ((((bk * 24) + nt) * 4) + 1)), .ref 78], es18)) i_14_11 rfl ?_
                            refine x0 (r := (13, [some (.ref 78), some (.int (zI ((((bk * 24) + nt) * 4) + 1))), some (.int (zI fr))], [.int (zI fr), .int (zI ((((bk * 24) + nt) * 4) + 1)), .ref 78], es18)) i_14_12 rfl ?_
                            refine x_iast (p := 14) i_14_13 hs_es18 rfl (by unfold i32 iLO iHI; omega) (by omega) (by omega) ?_
                            obtain ⟨es19, e_es19⟩ : ∃ z : PH, z = sA es18 14 ((((bk * 24) + nt) * 4) + 1).toNat (zI fr) := ⟨_, rfl⟩
                            have hs_es19 : sh es19 := by rw [e_es19]; exact sh_sA hs_es18
                            have hT_es19 : hOK tT es19 := by rw [e_es19]; exact hOK_sA hT_es18 (p := 14) (n := 288) rfl (fun _ => i32_rng _)
                            rw [← e_es19]
                            refine x_ret (v := none) i_14_14 rfl (fun _ => rfl) rfl rfl rfl ?_
                            show aW _ _ _ _ _ _ (33, [some (.ref 71), some (.int (zI bk)), some (.int (zI nt)), some (.int (zI kd)), some (.int (zI fr)), some (.int (zI fi)), some (.int (zI ra)), some (.int (zI (((bk * 24) + nt) * 4)))], [], es19)
                            refine x0 (r := (34, [some (.ref 71), some (.int (zI bk)), some (.int (zI nt)), some (.int (zI kd)), some (.int (zI fr)), some (.int (zI fi)), some (.int (zI ra)), some (.int (zI (((bk * 24) + nt) * 4)))], [.ref 71], es19)) i_119_33 rfl ?_
                            refine x_getr (p := 7) (k := 78) i_119_34 hs_es19 rfl rfl ?_
                            show aW _ _ _ _ _ _ (37, [some (.ref 71), some (.int (zI bk)), some (.int (zI nt)), some (.int (zI kd)), some (.int (zI fr)), some (.int (zI fi)), some (.int (zI ra)), some (.int (zI (((bk * 24) + nt) * 4)))], [.ref 78], es19)
                            refine x0 (r := (39, [some (.ref 71), some (.int (zI bk)), some (.int (zI nt)), some (.int (zI kd)), some (.int (zI fr)), some (.int (zI fi)), some (.int (zI ra)), some (.int (zI (((bk * 24) + nt) * 4)))], [.int (zI (((bk * 24) + nt) * 4)), .ref 78], es19)) i_119_37 rfl ?_
                            refine x0 (r := (40, [some (.ref 71), some (.int (zI bk)), some (.int (zI nt)), some (.int (zI kd)), some (.int (zI fr)), some (.int (zI fi)), some (.int (zI ra)), some (.int (zI (((bk * 24) + nt) * 4)))], [.int (zI 2), .int (zI (((bk * 24) + nt) * 4)), .ref 78], es19)) i_119_39 (by rfl) ?_
                            refine x_iadd i_119_40 ?_
                            refine x0 (r := (43, [some (.ref 71), some (.int (zI bk)), some (.int (zI nt)), some (.int (zI kd)), some (.int (zI fr)), some (.int (zI fi)), some (.int (zI ra)), some (.int (zI (((bk * 24) + nt) * 4)))], [.int (zI fi), .int (zI ((((bk * 24) + nt) * 4) + 2)), .ref 78], es19)) i_119_41 rfl ?_
                            refine x_call (vs := [.ref 78, .int (zI ((((bk * 24) + nt) * 4) + 2)), .int (zI fi)]) (rs := []) i_119_43 rfl (fun _ => rfl) rfl rfl rfl rfl rfl rfl ?_
                            show aW _ _ _ _ _ _ (0, [some (.ref 78), some (.int (zI ((((bk * 24) + nt) * 4) + 2))), some (.int (zI fi))], [], es19)
                            refine x0 (r := (1, [some (.ref 78), some (.int (zI ((((bk * 24) + nt) * 4) + 2))), some (.int (zI fi))], [.int (zI ((((bk * 24) + nt) * 4) + 2))], es19)) i_14_0 rfl ?_
                            refine x_ifF i_14_1 (by unfold i32 iLO iHI; omega) rfl (by simp only [zC, cR]; omega) ?_
                            refine x0 (r := (5, [some (.ref 78), some (.int (zI ((((bk * 24) + nt) * 4) + 2))), some (.int (zI fi))], [.int (zI ((((bk * 24) + nt) * 4) + 2))], es19)) i_14_4 rfl ?_
                            refine x0 (r := (6, [some (.ref 78), some (.int (zI ((((bk * 24) + nt) * 4) + 2))), some (.int (zI fi))], [.ref 78, .int (zI ((((bk * 24) + nt) * 4) + 2))], es19)) i_14_5 rfl ?_
                            refine x_alen (p := 14) (n := 288) i_14_6 hs_es19 rfl ?_
                            refine x_cmpF i_14_7 (by unfold i32 iLO iHI; omega) (by unfold i32 iLO iHI; omega) rfl (by simp only [zC, cR]; omega) ?_
                            refine x0 (r := (11, [some (.ref 78), some (.int (zI ((((bk * 24) + nt) * 4) + 2))), some (.int (zI fi))], [.ref 78], es19)) i_14_10 rfl ?_
                            refine x0 (r := (12, [some (.ref 78), some (.int (zI ((((bk * 24) + nt) * 4) + 2))), some (.int (zI fi))], [.int (zI ((((bk * 24) + nt) * 4) + 2)), .ref 78], es19)) i_14_11 rfl ?_
                            refine x0 (r := (13, [some (.ref 78), some (.int (zI ((((bk * 24) + nt) * 4) + 2))), some (.int (zI fi))], [.int (zI fi), .int (zI ((((bk * 24) + nt) * 4) + 2)), .ref 78], es19)) i_14_12 rfl ?_
                            refine x_iast (p := 14) i_14_13 hs_es19 rfl (by unfold i32 iLO iHI; omega) (by omega) (by omega) ?_
                            obtain ⟨es20, e_es20⟩ : ∃ z : PH, z = sA es19 14 ((((bk * 24) + nt) * 4) + 2).toNat (zI fi) := ⟨_, rfl⟩
                            have hs_es20 : sh es20 := by rw [e_es20]; exact sh_sA hs_es19
                            have hT_es20 : hOK tT es20 := by rw [e_es20]; exact hOK_sA hT_es19 (p := 14) (n := 288) rfl (fun _ => i32_rng _)
                            rw [← e_es20]
                            refine x_ret (v := none) i_14_14 rfl (fun _ => rfl) rfl rfl rfl ?_
                            show aW _ _ _ _ _ _ (46, [some (.ref 71), some (.int (zI bk)), some (.int (zI nt)), some (.int (zI kd)), some (.int (zI fr)), some (.int (zI fi)), some (.int (zI ra)), some (.int (zI (((bk * 24) + nt) * 4)))], [], es20)
                            refine x0 (r := (47, [some (.ref 71), some (.int (zI bk)), some (.int (zI nt)), some (.int (zI kd)), some (.int (zI fr)), some (.int (zI fi)), some (.int (zI ra)), some (.int (zI (((bk * 24) + nt) * 4)))], [.ref 71], es20)) i_119_46 rfl ?_
                            refine x_getr (p := 7) (k := 78) i_119_47 hs_es20 rfl rfl ?_
                            show aW _ _ _ _ _ _ (50, [some (.ref 71), some (.int (zI bk)), some (.int (zI nt)), some (.int (zI kd)), some (.int (zI fr)), some (.int (zI fi)), some (.int (zI ra)), some (.int (zI (((bk * 24) + nt) * 4)))], [.ref 78], es20)
                            refine x0 (r := (52, [some (.ref 71), some (.int (zI bk)), some (.int (zI nt)), some (.int (zI kd)), some (.int (zI fr)), some (.int (zI fi)), some (.int (zI ra)), some (.int (zI (((bk * 24) + nt) * 4)))], [.int (zI (((bk * 24) + nt) * 4)), .ref 78], es20)) i_119_50 rfl ?_
                            refine x0 (r := (53, [some (.ref 71), some (.int (zI bk)), some (.int (zI nt)), some (.int (zI kd)), some (.int (zI fr)), some (.int (zI fi)), some (.int (zI ra)), some (.int (zI (((bk * 24) + nt) * 4)))], [.int (zI 3), .int (zI (((bk * 24) + nt) * 4)), .ref 78], es20)) i_119_52 (by rfl) ?_
                            refine x_iadd i_119_53 ?_
                            refine x0 (r := (56, [some (.ref 71), some (.int (zI bk)), some (.int (zI nt)), some (.int (zI kd)), some (.int (zI fr)), some (.int (zI fi)), some (.int (zI ra)), some (.int (zI (((bk * 24) + nt) * 4)))], [.int (zI ra), .int (zI ((((bk * 24) + nt) * 4) + 3)), .ref 78], es20)) i_119_54 rfl ?_
                            refine x_call (vs := [.ref 78, .int (zI ((((bk * 24) + nt) * 4) + 3)), .int (zI ra)]) (rs := []) i_119_56 rfl (fun _ => rfl) rfl rfl rfl rfl rfl rfl ?_
                            show aW _ _ _ _ _ _ (0, [some (.ref 78), some (.int (zI ((((bk * 24) + nt) * 4) + 3))), some (.int (zI ra))], [], es20)
                            refine x0 (r := (1, [some (.ref 78), some (.int (zI ((((bk * 24) + nt) * 4) + 3))), some (.int (zI ra))], [.int (zI ((((bk * 24) + nt) * 4) + 3))], es20)) i_14_0 rfl ?_
                            refine x_ifF i_14_1 (by unfold i32 iLO iHI; omega) rfl (by simp only [zC, cR]; omega) ?_
                            refine x0 (r := (5, [some (.ref 78), some (.int (zI ((((bk * 24) + nt) * 4) + 3))), some (.int (zI ra))], [.int (zI ((((bk * 24) + nt) * 4) + 3))], es20)) i_14_4 rfl ?_
                            refine x0 (r := (6, [some (.ref 78), some (.int (zI ((((bk * 24) + nt) * 4) + 3))), some (.int (zI ra))], [.ref 78, .int (zI ((((bk * 24) + nt) * 4) + 3))], es20)) i_14_5 rfl ?_
                            refine x_alen (p := 14) (n := 288) i_14_6 hs_es20 rfl ?_
                            refine x_cmpF i_14_7 (by unfold i32 iLO iHI; omega) (by unfold i32 iLO iHI; omega) rfl (by simp only [zC, cR]; omega) ?_
                            refine x0 (r := (11, [some (.ref 78), some (.int (zI ((((bk * 24) + nt) * 4) + 3))), some (.int (zI ra))], [.ref 78], es20)) i_14_10 rfl ?_
                            refine x0 (r := (12, [some (.ref 78), some (.int (zI ((((bk * 24) + nt) * 4) + 3))), some (.int (zI ra))], [.int (zI ((((bk * 24) + nt) * 4) + 3)), .ref 78], es20)) i_14_11 rfl ?_
                            refine x0 (r := (13, [some (.ref 78), some (.int (zI ((((bk * 24) + nt) * 4) + 3))), some (.int (zI ra))], [.int (zI ra), .int (zI ((((bk * 24) + nt) * 4) + 3)), .ref 78], es20)) i_14_12 rfl ?_
                            refine x_iast (p := 14) i_14_13 hs_es20 rfl (by unfold i32 iLO iHI; omega) (by omega) (by omega) ?_
                            obtain ⟨es21, e_es21⟩ : ∃ z : PH, z = sA es20 14 ((((bk * 24) + nt) * 4) + 3).toNat (zI ra) := ⟨_, rfl⟩
                            have hs_es21 : sh es21 := by rw [e_es21]; exact sh_sA hs_es20
                            have hT_es21 : hOK tT es21 := by rw [e_es21]; exact hOK_sA hT_es20 (p := 14) (n := 288) rfl (fun _ => i32_rng _)
                            rw [← e_es21]
                            refine x_ret (v := none) i_14_14 rfl (fun _ => rfl) rfl rfl rfl ?_
                            show aW _ _ _ _ _ _ (59, [some (.ref 71), some (.int (zI bk)), some (.int (zI nt)), some (.int (zI kd)), some (.int (zI fr)), some (.int (zI fi)), some (.int (zI ra)), some (.int (zI (((bk * 24) + nt) * 4)))], [], es21)
                            refine x_ret (v := none) i_119_59 rfl (fun _ => rfl) rfl rfl rfl ?_
                            show aW _ _ _ _ _ _ (131, [some (.ref 64), some (.int (zI bk)), some (.int (zI nt)), some (.int (zI kd)), some (.int (zI fr)), some (.int (zI fi)), some (.int (zI ra)), some (.int (zI 0))], [], es21)
                            refine x0 (r := (132, [some (.ref 64), some (.int (zI bk)), some (.int (zI nt)), some (.int (zI kd)), some (.int (zI fr)), some (.int (zI fi)), some (.int (zI ra)), some (.int (zI 0))], [.ref 64], es21)) i_120_131 rfl ?_
                            refine x_call (vs := [.ref 64]) (rs := []) i_120_132 rfl (fun _ => rfl) rfl rfl rfl rfl rfl (pCall_v (p := 0) hs_es21 rfl rfl rfl rfl rfl (by decide) rfl rfl rfl rfl rfl) ?_
                            show aW _ _ _ _ _ _ (0, [some (.ref 64)], [], es21)
                            refine x0 (r := (1, [some (.ref 64)], [.ref 64], es21)) i_73_0 rfl ?_
                            refine x0 (r := (2, [some (.ref 64)], [.int (zI 0), .ref 64], es21)) i_73_1 (by rfl) ?_
                            refine x_puti (p := 0) (ty := .boolean) i_73_2 hs_es21 rfl rfl rfl (Or.inr ⟨rfl, by omega⟩) ?_
                            obtain ⟨es22, e_es22⟩ : ∃ z : PH, z = sI es21 0 10 (.int (zI 0)) := ⟨_, rfl⟩
                            have hs_es22 : sh es22 := by rw [e_es22]; exact sh_sI hs_es21 (p := 0) (b := 10) rfl rfl
                            have hT_es22 : hOK tT es22 := by rw [e_es22]; exact hOK_sI hT_es21 (p := 0) (b := 10) rfl rfl (by rw [zI_toInt (by unfold i32 iLO iHI; omega)]; exact ⟨by show (0 : Int) ≤ 0; omega, by show 0 ≤ (1 : Int); omega⟩)
                            rw [← e_es22]
                            refine x0 (r := (6, [some (.ref 64)], [.ref 64], es22)) i_73_5 rfl ?_
                            refine x_getr (p := 0) (k := 137) i_73_6 hs_es22 rfl rfl ?_
                            show aW _ _ _ _ _ _ (9, [some (.ref 64)], [.ref 137], es22)
                            refine x0 (r := (10, [some (.ref 64)], [.int (zI 0), .ref 137], es22)) i_73_9 (by rfl) ?_
                            refine x_puti (p := 73) (ty := .boolean) i_73_10 hs_es22 rfl rfl rfl (Or.inr ⟨rfl, by omega⟩) ?_
                            obtain ⟨es23, e_es23⟩ : ∃ z : PH, z = sI es22 73 3 (.int (zI 0)) := ⟨_, rfl⟩
                            have hs_es23 : sh es23 := by rw [e_es23]; exact sh_sI hs_es22 (p := 73) (b := 3) rfl rfl
                            have hT_es23 : hOK tT es23 := by rw [e_es23]; exact hOK_sI hT_es22 (p := 73) (b := 3) rfl rfl (by rw [zI_toInt (by unfold i32 iLO iHI; omega)]; exact ⟨by show (0 : Int) ≤ 0; omega, by show 0 ≤ (1 : Int); omega⟩)
                            rw [← e_es23]
                            refine x_ret (v := none) i_73_13 rfl (fun _ => rfl) rfl rfl rfl ?_
                            show aW _ _ _ _ _ _ (135, [some (.ref 64), some (.int (zI bk)), some (.int (zI nt)), some (.int (zI kd)), some (.int (zI fr)), some (.int (zI fi)), some (.int (zI ra)), some (.int (zI 0))], [], es23)
                            refine x0 (r := (137, [some (.ref 64), some (.int (zI bk)), some (.int (zI nt)), some (.int (zI kd)), some (.int (zI fr)), some (.int (zI fi)), some (.int (zI ra)), some (.int (zI 0))], [.int (zI 0)], es23)) i_120_135 rfl ?_
                            refine x_ifF i_120_137 (by unfold i32 iLO iHI; omega) rfl (by simp only [zC, cR]; omega) ?_
                            refine x0 (r := (141, [some (.ref 64), some (.int (zI bk)), some (.int (zI nt)), some (.int (zI kd)), some (.int (zI fr)), some (.int (zI fi)), some (.int (zI ra)), some (.int (zI 0))], [.int (zI 1)], es23)) i_120_140 (by rfl) ?_
                            refine x0 (r := (145, [some (.ref 64), some (.int (zI bk)), some (.int (zI nt)), some (.int (zI kd)), some (.int (zI fr)), some (.int (zI fi)), some (.int (zI ra)), some (.int (zI 0))], [.int (zI 1)], es23)) i_120_141 rfl ?_
                            refine x_ret (v := some (.int (zI 1))) i_120_145 rfl (fun _ => rfl) rfl rfl (pFin_b (by omega)) ?_
                            exact K13 c1 v2 e_v2 c3 c4 v5 e_v5 c6 c7 v8 e_v8 c9 c10 c11 c12 c13 c14 c15 v16 e_v16 c17 es18 e_es18 es19 e_es19 es20 e_es20 es21 e_es21 es22 e_es22 es23 e_es23
                          · refine x_cmpF i_120_60 (by unfold i32 iLO iHI; omega) (by unfold i32 iLO iHI; omega) rfl (by simp only [zC, cR]; omega) ?_
                            refine x0 (r := (64, [some (.ref 64), some (.int (zI bk)), some (.int (zI nt)), some (.int (zI kd)), some (.int (zI fr)), some (.int (zI fi)), some (.int (zI ra)), none], [.ref 64], es)) i_120_63 rfl ?_
                            refine x_getr (p := 0) (k := 71) i_120_64 hs_es rfl rfl ?_
                            show aW _ _ _ _ _ _ (67, [some (.ref 64), some (.int (zI bk)), some (.int (zI nt)), some (.int (zI kd)), some (.int (zI fr)), some (.int (zI fi)), some (.int (zI ra)), none], [.ref 71], es)
                            refine x0 (r := (68, [some (.ref 64), some (.int (zI bk)), some (.int (zI nt)), some (.int (zI kd)), some (.int (zI fr)), some (.int (zI fi)), some (.int (zI ra)), none], [.int (zI bk), .ref 71], es)) i_120_67 rfl ?_
                            refine x0 (r := (69, [some (.ref 64), some (.int (zI bk)), some (.int (zI nt)), some (.int (zI kd)), some (.int (zI fr)), some (.int (zI fi)), some (.int (zI ra)), none], [.int (zI nt), .int (zI bk), .ref 71], es)) i_120_68 rfl ?_
                            refine x0 (r := (70, [some (.ref 64), some (.int (zI bk)), some (.int (zI nt)), some (.int (zI kd)), some (.int (zI fr)), some (.int (zI fi)), some (.int (zI ra)), none], [.int (zI 1), .int (zI nt), .int (zI bk), .ref 71], es)) i_120_69 (by rfl) ?_
                            refine x_call (vs := [.ref 71, .int (zI bk), .int (zI nt), .int (zI 1)]) (rs := []) i_120_70 rfl (fun _ => rfl) rfl rfl rfl rfl rfl (pCall_v (p := 7) hs_es rfl rfl rfl rfl rfl (by decide) rfl rfl rfl rfl rfl) ?_
                            show aW _ _ _ _ _ _ (0, [some (.ref 71), some (.int (zI bk)), some (.int (zI nt)), some (.int (zI 1))], [], es)
                            refine x0 (r := (1, [some (.ref 71), some (.int (zI bk)), some (.int (zI nt)), some (.int (zI 1))], [.ref 71], es)) i_43_0 rfl ?_
                            refine x_getr (p := 7) (k := 78) i_43_1 hs_es rfl rfl ?_
                            show aW _ _ _ _ _ _ (4, [some (.ref 71), some (.int (zI bk)), some (.int (zI nt)), some (.int (zI 1))], [.ref 78], es)
                            refine x0 (r := (5, [some (.ref 71), some (.int (zI bk)), some (.int (zI nt)), some (.int (zI 1))], [.int (zI bk), .ref 78], es)) i_43_4 rfl ?_
                            refine x0 (r := (7, [some (.ref 71), some (.int (zI bk)), some (.int (zI nt)), some (.int (zI 1))], [.int (zI 24), .int (zI bk), .ref 78], es)) i_43_5 (by rfl) ?_
                            refine x_imul i_43_7 ?_
                            refine x0 (r := (9, [some (.ref 71), some (.int (zI bk)), some (.int (zI nt)), some (.int (zI 1))], [.int (zI nt), .int (zI (bk * 24)), .ref 78], es)) i_43_8 rfl ?_
                            refine x_iadd i_43_9 ?_
                            refine x0 (r := (11, [some (.ref 71), some (.int (zI bk)), some (.int (zI nt)), some (.int (zI 1))], [.int (zI 4), .int (zI ((bk * 24) + nt)), .ref 78], es)) i_43_10 (by rfl) ?_
                            refine x_imul i_43_11 ?_
                            refine x0 (r := (13, [some (.ref 71), some (.int (zI bk)), some (.int (zI nt)), some (.int (zI 1))], [.int (zI 1), .int (zI (((bk * 24) + nt) * 4)), .ref 78], es)) i_43_12 rfl ?_
                            refine x_iadd i_43_13 ?_
                            refine x_call (vs := [.ref 78, .int (zI ((((bk * 24) + nt) * 4) + 1))]) (rs := []) i_43_14 rfl (fun _ => rfl) rfl rfl rfl rfl rfl rfl ?_
                            show aW _ _ _ _ _ _ (0, [some (.ref 78), some (.int (zI ((((bk * 24) + nt) * 4) + 1)))], [], es)
                            refine x0 (r := (1, [some (.ref 78), some (.int (zI ((((bk * 24) + nt) * 4) + 1)))], [.int (zI ((((bk * 24) + nt) * 4) + 1))], es)) i_28_0 rfl ?_
                            refine x_ifF i_28_1 (by unfold i32 iLO iHI; omega) rfl (by simp only [zC, cR]; omega) ?_
                            refine x0 (r := (5, [some (.ref 78), some (.int (zI ((((bk * 24) + nt) * 4) + 1)))], [.int (zI ((((bk * 24) + nt) * 4) + 1))], es)) i_28_4 rfl ?_
                            refine x0 (r := (6, [some (.ref 78), some (.int (zI ((((bk * 24) + nt) * 4) + 1)))], [.ref 78, .int (zI ((((bk * 24) + nt) * 4) + 1))], es)) i_28_5 rfl ?_
                            refine x_alen (p := 14) (n := 288) i_28_6 hs_es rfl ?_
                            refine x_cmpF i_28_7 (by unfold i32 iLO iHI; omega) (by unfold i32 iLO iHI; omega) rfl (by simp only [zC, cR]; omega) ?_
                            refine x0 (r := (11, [some (.ref 78), some (.int (zI ((((bk * 24) + nt) * 4) + 1)))], [.ref 78], es)) i_28_10 rfl ?_
                            refine x0 (r := (12, [some (.ref 78), some (.int (zI ((((bk * 24) + nt) * 4) + 1)))], [.int (zI ((((bk * 24) + nt) * 4) + 1)), .ref 78], es)) i_28_11 rfl ?_
                            refine x_iald (p := 14) i_28_12 hs_es rfl (by unfold i32 iLO iHI; omega) (by omega) (by omega) ?_
                            obtain ⟨v24, e_v24⟩ : ∃ z : Int, z = (gA es 14 ((((bk * 24) + nt) * 4) + 1).toNat).toInt := ⟨_, rfl⟩
                            rw [← e_v24]
                            have r_v24 : iLO ≤ v24 ∧ v24 ≤ iHI := by rw [e_v24]; exact i32_rng _
                            unfold iLO iHI at r_v24
                            refine x0 (r := (17, [some (.ref 78), some (.int (zI ((((bk * 24) + nt) * 4) + 1)))], [.int (zI v24)], es)) i_28_13 rfl ?_
                            refine x_ret (v := some (.int (zI v24))) i_28_17 rfl (fun _ => rfl) rfl rfl rfl ?_
                            show aW _ _ _ _ _ _ (17, [some (.ref 71), some (.int (zI bk)), some (.int (zI nt)), some (.int (zI 1))], [.int (zI v24)], es)
                            refine x_ret (v := some (.int (zI v24))) i_43_17 rfl (fun _ => rfl) rfl rfl rfl ?_
                            show aW _ _ _ _ _ _ (73, [some (.ref 64), some (.int (zI bk)), some (.int (zI nt)), some (.int (zI kd)), some (.int (zI fr)), some (.int (zI fi)), some (.int (zI ra)), none], [.int (zI v24)], es)
                            refine x0 (r := (75, [some (.ref 64), some (.int (zI bk)), some (.int (zI nt)), some (.int (zI kd)), some (.int (zI fr)), some (.int (zI fi)), some (.int (zI ra)), none], [.int (zI fr), .int (zI v24)], es)) i_120_73 rfl ?_
                            by_cases c25 : v24 ≠ fr
                            · refine x_cmpT i_120_75 (by unfold i32 iLO iHI; omega) (by unfold i32 iLO iHI; omega) rfl (by simp only [zC, cR]; omega) ?_
                              refine x0 (r := (113, [some (.ref 64), some (.int (zI bk)), some (.int (zI nt)), some (.int (zI kd)), some (.int (zI fr)), some (.int (zI fi)), some (.int (zI ra)), none], [.int (zI 0)], es)) i_120_112 (by rfl) ?_
                              refine x0 (r := (115, [some (.ref 64), some (.int (zI bk)), some (.int (zI nt)), some (.int (zI kd)), some (.int (zI fr)), some (.int (zI fi)), some (.int (zI ra)), some (.int (zI 0))], [], es)) i_120_113 rfl ?_
                              refine x0 (r := (116, [some (.ref 64), some (.int (zI bk)), some (.int (zI nt)), some (.int (zI kd)), some (.int (zI fr)), some (.int (zI fi)), some (.int (zI ra)), some (.int (zI 0))], [.ref 64], es)) i_120_115 rfl ?_
                              refine x_getr (p := 0) (k := 71) i_120_116 hs_es rfl rfl ?_
                              show aW _ _ _ _ _ _ (119, [some (.ref 64), some (.int (zI bk)), some (.int (zI nt)), some (.int (zI kd)), some (.int (zI fr)), some (.int (zI fi)), some (.int (zI ra)), some (.int (zI 0))], [.ref 71], es)
                              refine x0 (r := (120, [some (.ref 64), some (.int (zI bk)), some (.int (zI nt)), some (.int (zI kd)), some (.int (zI fr)), some (.int (zI fi)), some (.int (zI ra)), some (.int (zI 0))], [.int (zI bk), .ref 71], es)) i_120_119 rfl ?_
                              refine x0 (r := (121, [some (.ref 64), some (.int (zI bk)), some (.int (zI nt)), some (.int (zI kd)), some (.int (zI fr)), some (.int (zI fi)), some (.int (zI ra)), some (.int (zI 0))], [.int (zI nt), .int (zI bk), .ref 71], es)) i_120_120 rfl ?_
                              refine x0 (r := (122, [some (.ref 64), some (.int (zI bk)), some (.int (zI nt)), some (.int (zI kd)), some (.int (zI fr)), some (.int (zI fi)), some (.int (zI ra)), some (.int (zI 0))], [.int (zI kd), .int (zI nt), .int (zI bk), .ref 71], es)) i_120_121 rfl ?_
                              refine x0 (r := (124, [some (.ref 64), some (.int (zI bk)), some (.int (zI nt)), some (.int (zI kd)), some (.int (zI fr)), some (.int (zI fi)), some (.int (zI ra)), some (.int (zI 0))], [.int (zI fr), .int (zI kd), .int (zI nt), .int (zI bk), .ref 71], es)) i_120_122 rfl ?_
                              refine x0 (r := (126, [some (.ref 64), some (.int (zI bk)), some (.int (zI nt)), some (.int (zI kd)), some (.int (zI fr)), some (.int (zI fi)), some (.int (zI ra)), some (.int (zI 0))], [.int (zI fi), .int (zI fr), .int (zI kd), .int (zI nt), .int (zI bk), .ref 71], es)) i_120_124 rfl ?_
                              refine x0 (r := (128, [some (.ref 64), some (.int (zI bk)), some (.int (zI nt)), some (.int (zI kd)), some (.int (zI fr)), some (.int (zI fi)), some (.int (zI ra)), some (.int (zI 0))], [.int (zI ra), .int (zI fi), .int (zI fr), .int (zI kd), .int (zI nt), .int (zI bk), .ref 71], es)) i_120_126 rfl ?_
                              refine x_call (vs := [.ref 71, .int (zI bk), .int (zI nt), .int (zI kd), .int (zI fr), .int (zI fi), .int (zI ra)]) (rs := []) i_120_128 rfl (fun _ => rfl) rfl rfl rfl rfl rfl (pCall_v (p := 7) hs_es rfl rfl rfl rfl rfl (by decide) rfl rfl rfl rfl rfl) ?_
                              show aW _ _ _ _ _ _ (0, [some (.ref 71), some (.int (zI bk)), some (.int (zI nt)), some (.int (zI kd)), some (.int (zI fr)), some (.int (zI fi)), some (.int (zI ra)), none], [], es)
                              refine x0 (r := (1, [some (.ref 71), some (.int (zI bk)), some (.int (zI nt)), some (.int (zI kd)), some (.int (zI fr)), some (.int (zI fi)), some (.int (zI ra)), none], [.int (zI bk)], es)) i_119_0 rfl ?_
                              refine x0 (r := (3, [some (.ref 71), some (.int (zI bk)), some (.int (zI nt)), some (.int (zI kd)), some (.int (zI fr)), some (.int (zI fi)), some (.int (zI ra)), none], [.int (zI 24), .int (zI bk)], es)) i_119_1 (by rfl) ?_
                              refine x_imul i_119_3 ?_
                              refine x0 (r := (5, [some (.ref 71), some (.int (zI bk)), some (.int (zI nt)), some (.int (zI kd)), some (.int (zI fr)), some (.int (zI fi)), some (.int (zI ra)), none], [.int (zI nt), .int (zI (bk * 24))], es)) i_119_4 rfl ?_
                              refine x_iadd i_119_5 ?_
                              refine x0 (r := (7, [some (.ref 71), some (.int (zI bk)), some (.int (zI nt)), some (.int (zI kd)), some (.int (zI fr)), some (.int (zI fi)), some (.int (zI ra)), none], [.int (zI 4), .int (zI ((bk * 24) + nt))], es)) i_119_6 (by rfl) ?_
                              refine x_imul i_119_7 ?_
                              refine x0 (r := (10, [some (.ref 71), some (.int (zI bk)), some (.int (zI nt)), some (.int (zI kd)), some (.int (zI fr)), some (.int (zI fi)), some (.int (zI ra)), some (.int (zI (((bk * 24) + nt) * 4)))], [], es)) i_119_8 rfl ?_
                              refine x0 (r := (11, [some (.ref 71), some (.int (zI bk)), some (.int (zI nt)), some (.int (zI kd)), some (.int (zI fr)), some (.int (zI fi)), some (.int (zI ra)), some (.int (zI (((bk * 24) + nt) * 4)))], [.ref 71], es)) i_119_10 rfl ?_
                              refine x_getr (p := 7) (k := 78) i_119_11 hs_es rfl rfl ?_
                              show aW _ _ _ _ _ _ (14, [some (.ref 71), some (.int (zI bk)), some (.int (zI nt)), some (.int (zI kd)), some (.int (zI fr)), some (.int (zI fi)), some (.int (zI ra)), some (.int (zI (((bk * 24) + nt) * 4)))], [.ref 78], es)
                              refine x0 (r := (16, [some (.ref 71), some (.int (zI bk)), some (.int (zI nt)), some (.int (zI kd)), some (.int (zI fr)), some (.int (zI fi)), some (.int (zI ra)), some (.int (zI (((bk * 24) + nt) * 4)))], [.int (zI (((bk * 24) + nt) * 4)), .ref 78], es)) i_119_14 rfl ?_
                              refine x0 (r := (17, [some (.ref 71), some (.int (zI bk)), some (.int (zI nt)), some (.int (zI kd)), some (.int (zI fr)), some (.int (zI fi)), some (.int (zI ra)), some (.int (zI (((bk * 24) + nt) * 4)))], [.int (zI kd), .int (zI (((bk * 24) + nt) * 4)), .ref 78], es)) i_119_16 rfl ?_
                              refine x_call (vs := [.ref 78, .int (zI (((bk * 24) + nt) * 4)), .int (zI kd)]) (rs := []) i_119_17 rfl (fun _ => rfl) rfl rfl rfl rfl rfl rfl ?_
                              show aW _ _ _ _ _ _ (0, [some (.ref 78), some (.int (zI (((bk * 24) + nt) * 4))), some (.int (zI kd))], [], es)
                              refine x0 (r := (1, [some (.ref 78), some (.int (zI (((bk * 24) + nt) * 4))), some (.int (zI kd))], [.int (zI (((bk * 24) + nt) * 4))], es)) i_14_0 rfl ?_
                              refine x_ifF i_14_1 (by unfold i32 iLO iHI; omega) rfl (by simp only [zC, cR]; omega) ?_
                              refine x0 (r := (5, [some (.ref 78), some (.int (zI (((bk * 24) + nt) * 4))), some (.int (zI kd))], [.int (zI (((bk * 24) + nt) * 4))], es)) i_14_4 rfl ?_
                              refine x0 (r := (6, [some (.ref 78), some (.int (zI (((bk * 24) + nt) * 4))), some (.int (zI kd))], [.ref 78, .int (zI (((bk * 24) + nt) * 4))], es)) i_14_5 rfl ?_
                              refine x_alen (p := 14) (n := 288) i_14_6 hs_es rfl ?_
                              refine x_cmpF i_14_7 (by unfold i32 iLO iHI; omega) (by unfold i32 iLO iHI; omega) rfl (by simp only [zC, cR]; omega) ?_
                              refine x0 (r := (11, [some (.ref 78), some (.int (zI (((bk * 24) + nt) * 4))), some (.int (zI kd))], [.ref 78], es)) i_14_10 rfl ?_
                              refine x0 (r := (12, [some (.ref 78), some (.int (zI (((bk * 24) + nt) * 4))), some (.int (zI kd))], [.int (zI (((bk * 24) + nt) * 4)), .ref 78], es)) i_14_11 rfl ?_
                              refine x0 (r := (13, [some (.ref 78), some (.int (zI (((bk * 24) + nt) * 4))), some (.int (zI kd))], [.int (zI kd), .int (zI (((bk * 24) + nt) * 4)), .ref 78], es)) i_14_12 rfl ?_
                              refine x_iast (p := 14) i_14_13 hs_es rfl (by unfold i32 iLO iHI; omega) (by omega) (by omega) ?_
                              obtain ⟨es26, e_es26⟩ : ∃ z : PH, z = sA es 14 (((bk * 24) + nt) * 4).toNat (zI kd) := ⟨_, rfl⟩
                              have hs_es26 : sh es26 := by rw [e_es26]; exact sh_sA hs_es
                              have hT_es26 : hOK tT es26 := by rw [e_es26]; exact hOK_sA hT_es (p := 14) (n := 288) rfl (fun _ => i32_rng _)
                              rw [← e_es26]
                              refine x_ret (v := none) i_14_14 rfl (fun _ => rfl) rfl rfl rfl ?_
                              show aW _ _ _ _ _ _ (20, [some (.ref 71), some (.int (zI bk)), some (.int (zI nt)), some (.int (zI kd)), some (.int (zI fr)), some (.int (zI fi)), some (.int (zI ra)), some (.int (zI (((bk * 24) + nt) * 4)))], [], es26)
                              refine x0 (r := (21, [some (.ref 71), some (.int (zI bk)), some (.int (zI nt)), some (.int (zI kd)), some (.int (zI fr)), some (.int (zI fi)), some (.int (zI ra)), some (.int (zI (((bk * 24) + nt) * 4)))], [.ref 71], es26)) i_119_20 rfl ?_
                              refine x_getr (p := 7) (k := 78) i_119_21 hs_es26 rfl rfl ?_
                              show aW _ _ _ _ _ _ (24, [some (.ref 71), some (.int (zI bk)), some (.int (zI nt)), some (.int (zI kd)), some (.int (zI fr)), some (.int (zI fi)), some (.int (zI ra)), some (.int (zI (((bk * 24) + nt) * 4)))], [.ref 78], es26)
                              refine x0 (r := (26, [some (.ref 71), some (.int (zI bk)), some (.int (zI nt)), some (.int (zI kd)), some (.int (zI fr)), some (.int (zI fi)), some (.int (zI ra)), some (.int (zI (((bk * 24) + nt) * 4)))], [.int (zI (((bk * 24) + nt) * 4)), .ref 78], es26)) i_119_24 rfl ?_
                              refine x0 (r := (27, [some (.ref 71), some (.int (zI bk)), some (.int (zI nt)), some (.int (zI kd)), some (.int (zI fr)), some (.int (zI fi)), some (.int (zI ra)), some (.int (zI (((bk * 24) + nt) * 4)))], [.int (zI 1), .int (zI (((bk * 24) + nt) * 4)), .ref 78], es26)) i_119_26 (by rfl) ?_
                              refine x_iadd i_119_27 ?_
                              refine x0 (r := (30, [some (.ref 71), some (.int (zI bk)), some (.int (zI nt)), some (.int (zI kd)), some (.int (zI fr)), some (.int (zI fi)), some (.int (zI ra)), some (.int (zI (((bk * 24) + nt) * 4)))], [.int (zI fr), .int (zI ((((bk * 24) + nt) * 4) + 1)), .ref 78], es26)) i_119_28 rfl ?_
                              refine x_call (vs := [.ref 78, .int (zI ((((bk * 24) + nt) * 4) + 1)), .int (zI fr)]) (rs := []) i_119_30 rfl (fun _ => rfl) rfl rfl rfl rfl rfl rfl ?_
                              show aW _ _ _ _ _ _ (0, [some (.ref 78), some (.int (zI ((((bk * 24) + nt) * 4) + 1))), some (.int (zI fr))], [], es26)
                              refine x0 (r := (1, [some (.ref 78), some (.int (zI ((((bk * 24) + nt) * 4) + 1))), some (.int (zI fr))], [.int (zI ((((bk * 24) + nt) * 4) + 1))], es26)) i_14_0 rfl ?_
                              refine x_ifF i_14_1 (by unfold i32 iLO iHI; omega) rfl (by simp only [zC, cR]; omega) ?_
                              refine x0 (r := (5, [some (.ref 78), some (.int (zI ((((bk * 24) + nt) * 4) + 1))), some (.int (zI fr))], [.int (zI ((((bk * 24) + nt) * 4) + 1))], es26)) i_14_4 rfl ?_
                              refine x0 (r := (6, [some (.ref 78), some (.int (zI ((((bk * 24) + nt) * 4) + 1))), some (.int (zI fr))], [.ref 78, .int (zI ((((bk * 24) + nt) * 4) + 1))], es26)) i_14_5 rfl ?_
                              refine x_alen (p := 14) (n := 288) i_14_6 hs_es26 rfl ?_
                              refine x_cmpF i_14_7 (by unfold i32 iLO iHI; omega) (by unfold i32 iLO iHI; omega) rfl (by simp only [zC, cR]; omega) ?_
                              refine x0 (r := (11, [some (.ref 78), some (.int (zI ((((bk * 24) + nt) * 4) + 1))), some (.int (zI fr))], [.ref 78], es26)) i_14_10 rfl ?_
                              refine x0 (r := (12, [some (.ref 78), some (.int (zI ((((bk * 24) + nt) * 4) + 1))), some (.int (zI fr))], [.int (zI ((((bk * 24) + nt) * 4) + 1)), .ref 78], es26)) i_14_11 rfl ?_
                              refine x0 (r := (13, [some (.ref 78), some (.int (zI ((((bk * 24) + nt) * 4) + 1))), some (.int (zI fr))], [.int (zI fr), .int (zI ((((bk * 24) + nt) * 4) + 1)), .ref 78], es26)) i_14_12 rfl ?_
                              refine x_iast (p := 14) i_14_13 hs_es26 rfl (by unfold i32 iLO iHI; omega) (by omega) (by omega) ?_
                              obtain ⟨es27, e_es27⟩ : ∃ z : PH, z = sA es26 14 ((((bk * 24) + nt) * 4) + 1).toNat (zI fr) := ⟨_, rfl⟩
                              have hs_es27 : sh es27 := by rw [e_es27]; exact sh_sA hs_es26
                              have hT_es27 : hOK tT es27 := by rw [e_es27]; exact hOK_sA hT_es26 (p := 14) (n := 288) rfl (fun _ => i32_rng _)
                              rw [← e_es27]
                              refine x_ret (v := none) i_14_14 rfl (fun _ => rfl) rfl rfl rfl ?_
                              show aW _ _ _ _ _ _ (33, [some (.ref 71), some (.int (zI bk)), some (.int (zI nt)), some (.int (zI kd)), some (.int (zI fr)), some (.int (zI fi)), some (.int (zI ra)), some (.int (zI (((bk * 24) + nt) * 4)))], [], es27)
                              refine x0 (r := (34, [some (.ref 71), some (.int (zI bk)), some (.int (zI nt)), some (.int (zI kd)), some (.int (zI fr)), some (.int (zI fi)), some (.int (zI ra)), some (.int (zI (((bk * 24) + nt) * 4)))], [.ref 71], es27)) i_119_33 rfl ?_
                              refine x_getr (p := 7) (k := 78) i_119_34 hs_es27 rfl rfl ?_
                              show aW _ _ _ _ _ _ (37, [some (.ref 71), some (.int (zI bk)), some (.int (zI nt)), some (.int (zI kd)), some (.int (zI fr)), some (.int (zI fi)), some (.int (zI ra)), some (.int (zI (((bk * 24) + nt) * 4)))], [.ref 78], es27)
                              refine x0 (r := (39, [some (.ref 71), some (.int (zI bk)), some (.int (zI nt)), some (.int (zI kd)), some (.int (zI fr)), some (.int (zI fi)), some (.int (zI ra)), some (.int (zI (((bk * 24) + nt) * 4)))], [.int (zI (((bk * 24) + nt) * 4)), .ref 78], es27)) i_119_37 rfl ?_
                              refine x0 (r := (40, [some (.ref 71), some (.int (zI bk)), some (.int (zI nt)), some (.int (zI kd)), some (.int (zI fr)), some (.int (zI fi)), some (.int (zI ra)), some (.int (zI (((bk * 24) + nt) * 4)))], [.int (zI 2), .int (zI (((bk * 24) + nt) * 4)), .ref 78], es27)) i_119_39 (by rfl) ?_
                              refine x_iadd i_119_40 ?_
                              refine x0 (r := (43, [some (.ref 71), some (.int (zI bk)), some (.int (zI nt)), some (.int (zI kd)), some (.int (zI fr)), some (.int (zI fi)), some (.int (zI ra)), some (.int (zI (((bk * 24) + nt) * 4)))], [.int (zI fi), .int (zI ((((bk * 24) + nt) * 4) + 2)), .ref 78], es27)) i_119_41 rfl ?_
                              refine x_call (vs := [.ref 78, .int (zI ((((bk * 24) + nt) * 4) + 2)), .int (zI fi)]) (rs := []) i_119_43 rfl (fun _ => rfl) rfl rfl rfl rfl rfl rfl ?_
                              show aW _ _ _ _ _ _ (0, [some (.ref 78), some (.int (zI ((((bk * 24) + nt) * 4) + 2))), some (.int (zI fi))], [], es27)
                              refine x0 (r := (1, [some (.ref 78), some (.int (zI ((((bk * 24) + nt) * 4) + 2))), some (.int (zI fi))], [.int (zI ((((bk * 24) + nt) * 4) + 2))], es27)) i_14_0 rfl ?_
                              refine x_ifF i_14_1 (by unfold i32 iLO iHI; omega) rfl (by simp only [zC, cR]; omega) ?_
                              refine x0 (r := (5, [some (.ref 78), some (.int (zI ((((bk * 24) + nt) * 4) + 2))), some (.int (zI fi))], [.int (zI ((((bk * 24) + nt) * 4) + 2))], es27)) i_14_4 rfl ?_
                              refine x0 (r := (6, [some (.ref 78), some (.int (zI ((((bk * 24) + nt) * 4) + 2))), some (.int (zI fi))], [.ref 78, .int (zI ((((bk * 24) + nt) * 4) + 2))], es27)) i_14_5 rfl ?_
                              refine x_alen (p := 14) (n := 288) i_14_6 hs_es27 rfl ?_
                              refine x_cmpF i_14_7 (by unfold i32 iLO iHI; omega) (by unfold i32 iLO iHI; omega) rfl (by simp only [zC, cR]; omega) ?_
                              refine x0 (r := (11, [some (.ref 78), some (.int (zI ((((bk * 24) + nt) * 4) + 2))), some (.int (zI fi))], [.ref 78], es27)) i_14_10 rfl ?_
                              refine x0 (r := (12, [some (.ref 78), some (.int (zI ((((bk * 24) + nt) * 4) + 2))), some (.int (zI fi))], [.int (zI ((((bk * 24) + nt) * 4) + 2)), .ref 78], es27)) i_14_11 rfl ?_
                              refine x0 (r := (13, [some (.ref 78), some (.int (zI ((((bk * 24) + nt) * 4) + 2))), some (.int (zI fi))], [.int (zI fi), .int (zI ((((bk * 24) + nt) * 4) + 2)), .ref 78], es27)) i_14_12 rfl ?_
                              refine x_iast (p := 14) i_14_13 hs_es27 rfl (by unfold i32 iLO iHI; omega) (by omega) (by omega) ?_
                              obtain ⟨es28, e_es28⟩ : ∃ z : PH, z = sA es27 14 ((((bk * 24) + nt) * 4) + 2).toNat (zI fi) := ⟨_, rfl⟩
                              have hs_es28 : sh es28 := by rw [e_es28]; exact sh_sA hs_es27
                              have hT_es28 : hOK tT es28 := by rw [e_es28]; exact hOK_sA hT_es27 (p := 14) (n := 288) rfl (fun _ => i32_rng _)
                              rw [← e_es28]
                              refine x_ret (v := none) i_14_14 rfl (fun _ => rfl) rfl rfl rfl ?_
                              show aW _ _ _ _ _ _ (46, [some (.ref 71), some (.int (zI bk)), some (.int (zI nt)), some (.int (zI kd)), some (.int (zI fr)), some (.int (zI fi)), some (.int (zI ra)), some (.int (zI (((bk * 24) + nt) * 4)))], [], es28)
                              refine x0 (r := (47, [some (.ref 71), some (.int (zI bk)), some (.int (zI nt)), some (.int (zI kd)), some (.int (zI fr)), some (.int (zI fi)), some (.int (zI ra)), some (.int (zI (((bk * 24) + nt) * 4)))], [.ref 71], es28)) i_119_46 rfl ?_
                              refine x_getr (p := 7) (k := 78) i_119_47 hs_es28 rfl rfl ?_
                              show aW _ _ _ _ _ _ (50, [some (.ref 71), some (.int (zI bk)), some (.int (zI nt)), some (.int (zI kd)), some (.int (zI fr)), some (.int (zI fi)), some (.int (zI ra)), some (.int (zI (((bk * 24) + nt) * 4)))], [.ref 78], es28)
                              refine x0 (r := (52, [some (.ref 71), some (.int (zI bk)), some (.int (zI nt)), some (.int (zI kd)), some (.int (zI fr)), some (.int (zI fi)), some (.int (zI ra)), some (.int (zI (((bk * 24) + nt) * 4)))], [.int (zI (((bk * 24) + nt) * 4)), .ref 78], es28)) i_119_50 rfl ?_
                              refine x0 (r := (53, [some (.ref 71), some (.int (zI bk)), some (.int (zI nt)), some (.int (zI kd)), some (.int (zI fr)), some (.int (zI fi)), some (.int (zI ra)), some (.int (zI (((bk * 24) + nt) * 4)))], [.int (zI 3), .int (zI (((bk * 24) + nt) * 4)), .ref 78], es28)) i_119_52 (by rfl) ?_
                              refine x_iadd i_119_53 ?_
                              refine x0 (r := (56, [some (.ref 71), some (.int (zI bk)), some (.int (zI nt)), some (.int (zI kd)), some (.int (zI fr)), some (.int (zI fi)), some (.int (zI ra)), some (.int (zI (((bk * 24) + nt) * 4)))], [.int (zI ra), .int (zI ((((bk * 24) + nt) * 4) + 3)), .ref 78], es28)) i_119_54 rfl ?_
                              refine x_call (vs := [.ref 78, .int (zI ((((bk * 24) + nt) * 4) + 3)), .int (zI ra)]) (rs := []) i_119_56 rfl (fun _ => rfl) rfl rfl rfl rfl rfl rfl ?_
                              show aW _ _ _ _ _ _ (0, [some (.ref 78), some (.int (zI ((((bk * 24) + nt) * 4) + 3))), some (.int (zI ra))], [], es28)
                              refine x0 (r := (1, [some (.ref 78), some (.int (zI ((((bk * 24) + nt) * 4) + 3))), some (.int (zI ra))], [.int (zI ((((bk * 24) + nt) * 4) + 3))], es28)) i_14_0 rfl ?_
                              refine x_ifF i_14_1 (by unfold i32 iLO iHI; omega) rfl (by simp only [zC, cR]; omega) ?_
                              refine x0 (r := (5, [some (.ref 78), some (.int (zI ((((bk * 24) + nt) * 4) + 3))), some (.int (zI ra))], [.int (zI ((((bk * 24) + nt) * 4) + 3))], es28)) i_14_4 rfl ?_
                              refine x0 (r := (6, [some (.ref 78), some (.int (zI ((((bk * 24) + nt) * 4) + 3))), some (.int (zI ra))], [.ref 78, .int (zI ((((bk * 24) + nt) * 4) + 3))], es28)) i_14_5 rfl ?_
                              refine x_alen (p := 14) (n := 288) i_14_6 hs_es28 rfl ?_
                              refine x_cmpF i_14_7 (by unfold i32 iLO iHI; omega) (by unfold i32 iLO iHI; omega) rfl (by simp only [zC, cR]; omega) ?_
                              refine x0 (r := (11, [some (.ref 78), some (.int (zI ((((bk * 24) + nt) * 4) + 3))), some (.int (zI ra))], [.ref 78], es28)) i_14_10 rfl ?_
                              refine x0 (r := (12, [some (.ref 78), some (.int (zI ((((bk * 24) + nt) * 4) + 3))), some (.int (zI ra))], [.int (zI ((((bk * 24) + nt) * 4) + 3)), .ref 78], es28)) i_14_11 rfl ?_
                              refine x0 (r := (13, [some (.ref 78), some (.int (zI ((((bk * 24) + nt) * 4) + 3))), some (.int (zI ra))], [.int (zI ra), .int (zI ((((bk * 24) + nt) * 4) + 3)), .ref 78], es28)) i_14_12 rfl ?_
                              refine x_iast (p := 14) i_14_13 hs_es28 rfl (by unfold i32 iLO iHI; omega) (by omega) (by omega) ?_
                              obtain ⟨es29, e_es29⟩ : ∃ z : PH, z = sA es28 14 ((((bk * 24) + nt) * 4) + 3).toNat (zI ra) := ⟨_, rfl⟩
                              have hs_es29 : sh es29 := by rw [e_es29]; exact sh_sA hs_es28
                              have hT_es29 : hOK tT es29 := by rw [e_es29]; exact hOK_sA hT_es28 (p := 14) (n := 288) rfl (fun _ => i32_rng _)
                              rw [← e_es29]
                              refine x_ret (v := none) i_14_14 rfl (fun _ => rfl) rfl rfl rfl ?_
                              show aW _ _ _ _ _ _ (59, [some (.ref 71), some (.int (zI bk)), some (.int (zI nt)), some (.int (zI kd)), some (.int (zI fr)), some (.int (zI fi)), some (.int (zI ra)), some (.int (zI (((bk * 24) + nt) * 4)))], [], es29)
                              refine x_ret (v := none) i_119_59 rfl (fun _ => rfl) rfl rfl rfl ?_
                              show aW _ _ _ _ _ _ (131, [some (.ref 64), some (.int (zI bk)), some (.int (zI nt)), some (.int (zI kd)), some (.int (zI fr)), some (.int (zI fi)), some (.int (zI ra)), some (.int (zI 0))], [], es29)
                              refine x0 (r := (132, [some (.ref 64), some (.int (zI bk)), some (.int (zI nt)), some (.int (zI kd)), some (.int (zI fr)), some (.int (zI fi)), some (.int (zI ra)), some (.int (zI 0))], [.ref 64], es29)) i_120_131 rfl ?_
                              refine x_call (vs := [.ref 64]) (rs := []) i_120_132 rfl (fun _ => rfl) rfl rfl rfl rfl rfl (pCall_v (p := 0) hs_es29 rfl rfl rfl rfl rfl (by decide) rfl rfl rfl rfl rfl) ?_
                              show aW _ _ _ _ _ _ (0, [some (.ref 64)], [], es29)
                              refine x0 (r := (1, [some (.ref 64)], [.ref 64], es29)) i_73_0 rfl ?_
                              refine x0 (r := (2, [some (.ref 64)], [.int (zI 0), .ref 64], es29)) i_73_1 (by rfl) ?_
                              refine x_puti (p := 0) (ty := .boolean) i_73_2 hs_es29 rfl rfl rfl (Or.inr ⟨rfl, by omega⟩) ?_
                              obtain ⟨es30, e_es30⟩ : ∃ z : PH, z = sI es29 0 10 (.int (zI 0)) := ⟨_, rfl⟩
                              have hs_es30 : sh es30 := by rw [e_es30]; exact sh_sI hs_es29 (p := 0) (b := 10) rfl rfl
                              have hT_es30 : hOK tT es30 := by rw [e_es30]; exact hOK_sI hT_es29 (p := 0) (b := 10) rfl rfl (by rw [zI_toInt (by unfold i32 iLO iHI; omega)]; exact ⟨by show (0 : Int) ≤ 0; omega, by show 0 ≤ (1 : Int); omega⟩)
                              rw [← e_es30]
                              refine x0 (r := (6, [some (.ref 64)], [.ref 64], es30)) i_73_5 rfl ?_
                              refine x_getr (p := 0) (k := 137) i_73_6 hs_es30 rfl rfl ?_
                              show aW _ _ _ _ _ _ (9, [some (.ref 64)], [.ref 137], es30)
                              refine x0 (r := (10, [some (.ref 64)], [.int (zI 0), .ref 137], es30)) i_73_9 (by rfl) ?_
                              refine x_puti (p := 73) (ty := .boolean) i_73_10 hs_es30 rfl rfl rfl (Or.inr ⟨rfl, by omega⟩) ?_
                              obtain ⟨es31, e_es31⟩ : ∃ z : PH, z = sI es30 73 3 (.int (zI 0)) := ⟨_, rfl⟩
                              have hs_es31 : sh es31 := by rw [e_es31]; exact sh_sI hs_es30 (p := 73) (b := 3) rfl rfl
                              have hT_es31 : hOK tT es31 := by rw [e_es31]; exact hOK_sI hT_es30 (p := 73) (b := 3) rfl rfl (by rw [zI_toInt (by unfold i32 iLO iHI; omega)]; exact ⟨by show (0 : Int) ≤ 0; omega, by show 0 ≤ (1 : Int); omega⟩)
                              rw [← e_es31]
                              refine x_ret (v := none) i_73_13 rfl (fun _ => rfl) rfl rfl rfl ?_
                              show aW _ _ _ _ _ _ (135, [some (.ref 64), some (.int (zI bk)), some (.int (zI nt)), some (.int (zI kd)), some (.int (zI fr)), some (.int (zI fi)), some (.int (zI ra)), some (.int (zI 0))], [], es31)
                              refine x0 (r := (137, [some (.ref 64), some (.int (zI bk)), some (.int (zI nt)), some (.int (zI kd)), some (.int (zI fr)), some (.int (zI fi)), some (.int (zI ra)), some (.int (zI 0))], [.int (zI 0)], es31)) i_120_135 rfl ?_
                              refine x_ifF i_120_137 (by unfold i32 iLO iHI; omega) rfl (by simp only [zC, cR]; omega) ?_
                              refine x0 (r := (141, [some (.ref 64), some (.int (zI bk)), some (.int (zI nt)), some (.int (zI kd)), some (.int (zI fr)), some (.int (zI fi)), some (.int (zI ra)), some (.int (zI 0))], [.int (zI 1)], es31)) i_120_140 (by rfl) ?_
                              refine x0 (r := (145, [some (.ref 64), some (.int (zI bk)), some (.int (zI nt)), some (.int (zI kd)), some (.int (zI fr)), some (.int (zI fi)), some (.int (zI ra)), some (.int (zI 0))], [.int (zI 1)], es31)) i_120_141 rfl ?_
                              refine x_ret (v := some (.int (zI 1))) i_120_145 rfl (fun _ => rfl) rfl rfl (pFin_b (by omega)) ?_
                              exact K14 c1 v2 e_v2 c3 c4 v5 e_v5 c6 c7 v8 e_v8 c9 c10 c11 c12 c13 c14 c15 v16 e_v16 c17 v24 e_v24 c25 es26 e_es26 es27 e_es27 es28 e_es28 es29 e_es29 es30 e_es30 es31 e_es31
                            · refine x_cmpF i_120_75 (by unfold i32 iLO iHI; omega) (by unfold i32 iLO iHI; omega) rfl (by simp only [zC, cR]; omega) ?_
                              refine x0 (r := (79, [some (.ref 64), some (.int (zI bk)), some (.int (zI nt)), some (.int (zI kd)), some (.int (zI fr)), some (.int (zI fi)), some (.int (zI ra)), none], [.ref 64], es)) i_120_78 rfl ?_
                              refine x_getr (p := 0) (k := 71) i_120_79 hs_es rfl rfl ?_
                              show aW _ _ _ _ _ _ (82, [some (.ref 64), some (.int (zI bk)), some (.int (zI nt)), some (.int (zI kd)), some (.int (zI fr)), some (.int (zI fi)), some (.int (zI ra)), none], [.ref 71], es)
                              refine x0 (r := (83, [some (.ref 64), some (.int (zI bk)), some (.int (zI nt)), some (.int (zI kd)), some (.int (zI fr)), some (.int (zI fi)), some (.int (zI ra)), none], [.int (zI bk), .ref 71], es)) i_120_82 rfl ?_
                              refine x0 (r := (84, [some (.ref 64), some (.int (zI bk)), some (.int (zI nt)), some (.int (zI kd)), some (.int (zI fr)), some (.int (zI fi)), some (.int (zI ra)), none], [.int (zI nt), .int (zI bk), .ref 71], es)) i_120_83 rfl ?_
                              refine x0 (r := (85, [some (.ref 64), some (.int (zI bk)), some (.int (zI nt)), some (.int (zI kd)), some (.int (zI fr)), some (.int (zI fi)), some (.int (zI ra)), none], [.int (zI 2), .int (zI nt), .int (zI bk), .ref 71], es)) i_120_84 (by rfl) ?_
                              refine x_call (vs := [.ref 71, .int (zI bk), .int (zI nt), .int (zI 2)]) (rs := []) i_120_85 rfl (fun _ => rfl) rfl rfl rfl rfl rfl (pCall_v (p := 7) hs_es rfl rfl rfl rfl rfl (by decide) rfl rfl rfl rfl rfl) ?_
                              show aW _ _ _ _ _ _ (0, [some (.ref 71), some (.int (zI bk)), some (.int (zI nt)), some (.int (zI 2))], [], es)
                              refine x0 (r := (1, [some (.ref 71), some (.int (zI bk)), some (.int (zI nt)), some (.int (zI 2))], [.ref 71], es)) i_43_0 rfl ?_
                              refine x_getr (p := 7) (k := 78) i_43_1 hs_es rfl rfl ?_
                              show aW _ _ _ _ _ _ (4, [some (.ref 71), some (.int (zI bk)), some (.int (zI nt)), some (.int (zI 2))], [.ref 78], es)
                              refine x0 (r := (5, [some (.ref 71), some (.int (zI bk)), some (.int (zI nt)), some (.int (zI 2))], [.int (zI bk), .ref 78], es)) i_43_4 rfl ?_
                              refine x0 (r := (7, [some (.ref 71), some (.int (zI bk)), some (.int (zI nt)), some (.int (zI 2))], [.int (zI 24), .int (zI bk), .ref 78], es)) i_43_5 (by rfl) ?_
                              refine x_imul i_43_7 ?_
                              refine x0 (r := (9, [some (.ref 71), some (.int (zI bk)), some (.int (zI nt)), some (.int (zI 2))], [.int (zI nt), .int (zI (bk * 24)), .ref 78], es)) i_43_8 rfl ?_
                              refine x_iadd i_43_9 ?_
                              refine x0 (r := (11, [some (.ref 71), some (.int (zI bk)), some (.int (zI nt)), some (.int (zI 2))], [.int (zI 4), .int (zI ((bk * 24) + nt)), .ref 78], es)) i_43_10 (by rfl) ?_
                              refine x_imul i_43_11 ?_
                              refine x0 (r := (13, [some (.ref 71), some (.int (zI bk)), some (.int (zI nt)), some (.int (zI 2))], [.int (zI 2), .int (zI (((bk * 24) + nt) * 4)), .ref 78], es)) i_43_12 rfl ?_
                              refine x_iadd i_43_13 ?_
                              refine x_call (vs := [.ref 78, .int (zI ((((bk * 24) + nt) * 4) + 2))]) (rs := []) i_43_14 rfl (fun _ => rfl) rfl rfl rfl rfl rfl rfl ?_
                              show aW _ _ _ _ _ _ (0, [some (.ref 78), some (.int (zI ((((bk * 24) + nt) * 4) + 2)))], [], es)
                              refine x0 (r := (1, [some (.ref 78), some (.int (zI ((((bk * 24) + nt) * 4) + 2)))], [.int (zI ((((bk * 24) + nt) * 4) + 2))], es)) i_28_0 rfl ?_
                              refine x_ifF i_28_1 (by unfold i32 iLO iHI; omega) rfl (by simp only [zC, cR]; omega) ?_
                              refine x0 (r := (5, [some (.ref 78), some (.int (zI ((((bk * 24) + nt) * 4) + 2)))], [.int (zI ((((bk * 24) + nt) * 4) + 2))], es)) i_28_4 rfl ?_
                              refine x0 (r := (6, [some (.ref 78), some (.int (zI ((((bk * 24) + nt) * 4) + 2)))], [.ref 78, .int (zI ((((bk * 24) + nt) * 4) + 2))], es)) i_28_5 rfl ?_
                              refine x_alen (p := 14) (n := 288) i_28_6 hs_es rfl ?_
                              refine x_cmpF i_28_7 (by unfold i32 iLO iHI; omega) (by unfold i32 iLO iHI; omega) rfl (by simp only [zC, cR]; omega) ?_
                              refine x0 (r := (11, [some (.ref 78), some (.int (zI ((((bk * 24) + nt) * 4) + 2)))], [.ref 78], es)) i_28_10 rfl ?_
                              refine x0 (r := (12, [some (.ref 78), some (.int (zI ((((bk * 24) + nt) * 4) + 2)))], [.int (zI ((((bk * 24) + nt) * 4) + 2)), .ref 78], es)) i_28_11 rfl ?_
                              refine x_iald (p := 14) i_28_12 hs_es rfl (by unfold i32 iLO iHI; omega) (by omega) (by omega) ?_
                              obtain ⟨v32, e_v32⟩ : ∃ z : Int, z = (gA es 14 ((((bk * 24) + nt) * 4) + 2).toNat).toInt := ⟨_, rfl⟩
                              rw [← e_v32]
                              have r_v32 : iLO ≤ v32 ∧ v32 ≤ iHI := by rw [e_v32]; exact i32_rng _
                              unfold iLO iHI at r_v32
                              refine x0 (r := (17, [some (.ref 78), some (.int (zI ((((bk * 24) + nt) * 4) + 2)))], [.int (zI v32)], es)) i_28_13 rfl ?_
                              refine x_ret (v := some (.int (zI v32))) i_28_17 rfl (fun _ => rfl) rfl rfl rfl ?_
                              show aW _ _ _ _ _ _ (17, [some (.ref 71), some (.int (zI bk)), some (.int (zI nt)), some (.int (zI 2))], [.int (zI v32)], es)
                              refine x_ret (v := some (.int (zI v32))) i_43_17 rfl (fun _ => rfl) rfl rfl rfl ?_
                              show aW _ _ _ _ _ _ (88, [some (.ref 64), some (.int (zI bk)), some (.int (zI nt)), some (.int (zI kd)), some (.int (zI fr)), some (.int (zI fi)), some (.int (zI ra)), none], [.int (zI v32)], es)
                              refine x0 (r := (90, [some (.ref 64), some (.int (zI bk)), some (.int (zI nt)), some (.int (zI kd)), some (.int (zI fr)), some (.int (zI fi)), some (.int (zI ra)), none], [.int (zI fi), .int (zI v32)], es)) i_120_88 rfl ?_
                              by_cases c33 : v32 ≠ fi
                              · refine x_cmpT i_120_90 (by unfold i32 iLO iHI; omega) (by unfold i32 iLO iHI; omega) rfl (by simp only [zC, cR]; omega) ?_
                                refine x0 (r := (113, [some (.ref 64), some (.int (zI bk)), some (.int (zI nt)), some (.int (zI kd)), some (.int (zI fr)), some (.int (zI fi)), some (.int (zI ra)), none], [.int (zI 0)], es)) i_120_112 (by rfl) ?_
                                refine x0 (r := (115, [some (.ref 64), some (.int (zI bk)), some (.int (zI nt)), some (.int (zI kd)), some (.int (zI fr)), some (.int (zI fi)), some (.int (zI ra)), some (.int (zI 0))], [], es)) i_120_113 rfl ?_
                                refine x0 (r := (116, [some (.ref 64), some (.int (zI bk)), some (.int (zI nt)), some (.int (zI kd)), some (.int (zI fr)), some (.int (zI fi)), some (.int (zI ra)), some (.int (zI 0))], [.ref 64], es)) i_120_115 rfl ?_
                                refine x_getr (p := 0) (k := 71) i_120_116 hs_es rfl rfl ?_
                                show aW _ _ _ _ _ _ (119, [some (.ref 64), some (.int (zI bk)), some (.int (zI nt)), some (.int (zI kd)), some (.int (zI fr)), some (.int (zI fi)), some (.int (zI ra)), some (.int (zI 0))], [.ref 71], es)
                                refine x0 (r := (120, [some (.ref 64), some (.int (zI bk)), some (.int (zI nt)), some (.int (zI kd)), some (.int (zI fr)), some (.int (zI fi)), some (.int (zI ra)), some (.int (zI 0))], [.int (zI bk), .ref 71], es)) i_120_119 rfl ?_
                                refine x0 (r := (121, [some (.ref 64), some (.int (zI bk)), some (.int (zI nt)), some (.int (zI kd)), some (.int (zI fr)), some (.int (zI fi)), some (.int (zI ra)), some (.int (zI 0))], [.int (zI nt), .int (zI bk), .ref 71], es)) i_120_120 rfl ?_
                                refine x0 (r := (122, [some (.ref 64), some (.int (zI bk)), some (.int (zI nt)), some (.int (zI kd)), some (.int (zI fr)), some (.int (zI fi)), some (.int (zI ra)), some (.int (zI 0))], [.int (zI kd), .int (zI nt), .int (zI bk), .ref 71], es)) i_120_121 rfl ?_
                                refine x0 (r := (124, [some (.ref 64), some (.int (zI bk)), some (.int (zI nt)), some (.int (zI kd)), some (.int (zI fr)), some (.int (zI fi)), some (.int (zI ra)), some (.int (zI 0))], [.int (zI fr), .int (zI kd), .int (zI nt), .int (zI bk), .ref 71], es)) i_120_122 rfl ?_
                                refine x0 (r := (126, [some (.ref 64), some (.int (zI bk)), some (.int (zI nt)), some (.int (zI kd)), some (.int (zI fr)), some (.int (zI fi)), some (.int (zI ra)), some (.int (zI 0))], [.int (zI fi), .int (zI fr), .int (zI kd), .int (zI nt), .int (zI bk), .ref 71], es)) i_120_124 rfl ?_
                                refine x0 (r := (128, [some (.ref 64), some (.int (zI bk)), some (.int (zI nt)), some (.int (zI kd)), some (.int (zI fr)), some (.int (zI fi)), some (.int (zI ra)), some (.int (zI 0))], [.int (zI ra), .int (zI fi), .int (zI fr), .int (zI kd), .int (zI nt), .int (zI bk), .ref 71], es)) i_120_126 rfl ?_
                                refine x_call (vs := [.ref 71, .int (zI bk), .int (zI nt), .int (zI kd), .int (zI fr), .int (zI fi), .int (zI ra)]) (rs := []) i_120_128 rfl (fun _ => rfl) rfl rfl rfl rfl rfl (pCall_v (p := 7) hs_es rfl rfl rfl rfl rfl (by decide) rfl rfl rfl rfl rfl) ?_
                                show aW _ _ _ _ _ _ (0, [some (.ref 71), some (.int (zI bk)), some (.int (zI nt)), some (.int (zI kd)), some (.int (zI fr)), some (.int (zI fi)), some (.int (zI ra)), none], [], es)
                                refine x0 (r := (1, [some (.ref 71), some (.int (zI bk)), some (.int (zI nt)), some (.int (zI kd)), some (.int (zI fr)), some (.int (zI fi)), some (.int (zI ra)), none], [.int (zI bk)], es)) i_119_0 rfl ?_
                                refine x0 (r := (3, [some (.ref 71), some (.int (zI bk)), some (.int (zI nt)), some (.int (zI kd)), some (.int (zI fr)), some (.int (zI fi)), some (.int (zI ra)), none], [.int (zI 24), .int (zI bk)], es)) i_119_1 (by rfl) ?_
                                refine x_imul i_119_3 ?_
                                refine x0 (r := (5, [some (.ref 71), some (.int (zI bk)), some (.int (zI nt)), some (.int (zI kd)), some (.int (zI fr)), some (.int (zI fi)), some (.int (zI ra)), none], [.int (zI nt), .int (zI (bk * 24))], es)) i_119_4 rfl ?_
                                refine x_iadd i_119_5 ?_
                                refine x0 (r := (7, [some (.ref 71), some (.int (zI bk)), some (.int (zI nt)), some (.int (zI kd)), some (.int (zI fr)), some (.int (zI fi)), some (.int (zI ra)), none], [.int (zI 4), .int (zI ((bk * 24) + nt))], es)) i_119_6 (by rfl) ?_
                                refine x_imul i_119_7 ?_
                                refine x0 (r := (10, [some (.ref 71), some (.int (zI bk)), some (.int (zI nt)), some (.int (zI kd)), some (.int (zI fr)), some (.int (zI fi)), some (.int (zI ra)), some (.int (zI (((bk * 24) + nt) * 4)))], [], es)) i_119_8 rfl ?_
                                refine x0 (r := (11, [some (.ref 71), some (.int (zI bk)), some (.int (zI nt)), some (.int (zI kd)), some (.int (zI fr)), some (.int (zI fi)), some (.int (zI ra)), some (.int (zI (((bk * 24) + nt) * 4)))], [.ref 71], es)) i_119_10 rfl ?_
                                refine x_getr (p := 7) (k := 78) i_119_11 hs_es rfl rfl ?_
                                show aW _ _ _ _ _ _ (14, [some (.ref 71), some (.int (zI bk)), some (.int (zI nt)), some (.int (zI kd)), some (.int (zI fr)), some (.int (zI fi)), some (.int (zI ra)), some (.int (zI (((bk * 24) + nt) * 4)))], [.ref 78], es)
                                refine x0 (r := (16, [some (.ref 71), some (.int (zI bk)), some (.int (zI nt)), some (.int (zI kd)), some (.int (zI fr)), some (.int (zI fi)), some (.int (zI ra)), some (.int (zI (((bk * 24) + nt) * 4)))], [.int (zI (((bk * 24) + nt) * 4)), .ref 78], es)) i_119_14 rfl ?_
                                refine x0 (r := (17, [some (.ref 71), some (.int (zI bk)), some (.int (zI nt)), some (.int (zI kd)), some (.int (zI fr)), some (.int (zI fi)), some (.int (zI ra)), some (.int (zI (((bk * 24) + nt) * 4)))], [.int (zI kd), .int (zI (((bk * 24) + nt) * 4)), .ref 78], es)) i_119_16 rfl ?_
                                refine x_call (vs := [.ref 78, .int (zI (((bk * 24) + nt) * 4)), .int (zI kd)]) (rs := []) i_119_17 rfl (fun _ => rfl) rfl rfl rfl rfl rfl rfl ?_
                                show aW _ _ _ _ _ _ (0, [some (.ref 78), some (.int (zI (((bk * 24) + nt) * 4))), some (.int (zI kd))], [], es)
                                refine x0 (r := (1, [some (.ref 78), some (.int (zI (((bk * 24) + nt) * 4))), some (.int (zI kd))], [.int (zI (((bk * 24) + nt) * 4))], es)) i_14_0 rfl ?_
                                refine x_ifF i_14_1 (by unfold i32 iLO iHI; omega) rfl (by simp only [zC, cR]; omega) ?_
                                refine x0 (r := (5, [some (.ref 78), some (.int (zI (((bk * 24) + nt) * 4))), some (.int (zI kd))], [.int (zI (((bk * 24) + nt) * 4))], es)) i_14_4 rfl ?_
                                refine x0 (r := (6, [some (.ref 78), some (.int (zI (((bk * 24) + nt) * 4))), some (.int (zI kd))], [.ref 78, .int (zI (((bk * 24) + nt) * 4))], es)) i_14_5 rfl ?_
                                refine x_alen (p := 14) (n := 288) i_14_6 hs_es rfl ?_
                                refine x_cmpF i_14_7 (by unfold i32 iLO iHI; omega) (by unfold i32 iLO iHI; omega) rfl (by simp only [zC, cR]; omega) ?_
                                refine x0 (r := (11, [some (.ref 78), some (.int (zI (((bk * 24) + nt) * 4))), some (.int (zI kd))], [.ref 78], es)) i_14_10 rfl ?_
                                refine x0 (r := (12, [some (.ref 78), some (.int (zI (((bk * 24) + nt) * 4))), some (.int (zI kd))], [.int (zI (((bk * 24) + nt) * 4)), .ref 78], es)) i_14_11 rfl ?_
                                refine x0 (r := (13, [some (.ref 78), some (.int (zI (((bk * 24) + nt) * 4))), some (.int (zI kd))], [.int (zI kd), .int (zI (((bk * 24) + nt) * 4)), .ref 78], es)) i_14_12 rfl ?_
                                refine x_iast (p := 14) i_14_13 hs_es rfl (by unfold i32 iLO iHI; omega) (by omega) (by omega) ?_
                                obtain ⟨es34, e_es34⟩ : ∃ z : PH, z = sA es 14 (((bk * 24) + nt) * 4).toNat (zI kd) := ⟨_, rfl⟩
                                have hs_es34 : sh es34 := by rw [e_es34]; exact sh_sA hs_es
                                have hT_es34 : hOK tT es34 := by rw [e_es34]; exact hOK_sA hT_es (p := 14) (n := 288) rfl (fun _ => i32_rng _)
                                rw [← e_es34]
                                refine x_ret (v := none) i_14_14 rfl (fun _ => rfl) rfl rfl rfl ?_
                                show aW _ _ _ _ _ _ (20, [some (.ref 71), some (.int (zI bk)), some (.int (zI nt)), some (.int (zI kd)), some (.int (zI fr)), some (.int (zI fi)), some (.int (zI ra)), some (.int (zI (((bk * 24) + nt) * 4)))], [], es34)
                                refine x0 (r := (21, [some (.ref 71), some (.int (zI bk)), some (.int (zI nt)), some (.int (zI kd)), some (.int (zI fr)), some (.int (zI fi)), some (.int (zI ra)), some (.int (zI (((bk * 24) + nt) * 4)))], [.ref 71], es34)) i_119_20 rfl ?_
                                refine x_getr (p := 7) (k := 78) i_119_21 hs_es34 rfl rfl ?_
                                show aW _ _ _ _ _ _ (24, [some (.ref 71), some (.int (zI bk)), some (.int (zI nt)), some (.int (zI kd)), some (.int (zI fr)), some (.int (zI fi)), some (.int (zI ra)), some (.int (zI (((bk * 24) + nt) * 4)))], [.ref 78], es34)
                                refine x0 (r := (26, [some (.ref 71), some (.int (zI bk)), some (.int (zI nt)), some (.int (zI kd)), some (.int (zI fr)), some (.int (zI fi)), some (.int (zI ra)), some (.int (zI (((bk * 24) + nt) * 4)))], [.int (zI (((bk * 24) + nt) * 4)), .ref 78], es34)) i_119_24 rfl ?_
                                refine x0 (r := (27, [some (.ref 71), some (.int (zI bk)), some (.int (zI nt)), some (.int (zI kd)), some (.int (zI fr)), some (.int (zI fi)), some (.int (zI ra)), some (.int (zI (((bk * 24) + nt) * 4)))], [.int (zI 1), .int (zI (((bk * 24) + nt) * 4)), .ref 78], es34)) i_119_26 (by rfl) ?_
                                refine x_iadd i_119_27 ?_
                                refine x0 (r := (30, [some (.ref 71), some (.int (zI bk)), some (.int (zI nt)), some (.int (zI kd)), some (.int (zI fr)), some (.int (zI fi)), some (.int (zI ra)), some (.int (zI (((bk * 24) + nt) * 4)))], [.int (zI fr), .int (zI ((((bk * 24) + nt) * 4) + 1)), .ref 78], es34)) i_119_28 rfl ?_
                                refine x_call (vs := [.ref 78, .int (zI ((((bk * 24) + nt) * 4) + 1)), .int (zI fr)]) (rs := []) i_119_30 rfl (fun _ => rfl) rfl rfl rfl rfl rfl rfl ?_
                                show aW _ _ _ _ _ _ (0, [some (.ref 78), some (.int (zI ((((bk * 24) + nt) * 4) + 1))), some (.int (zI fr))], [], es34)
                                refine x0 (r := (1, [some (.ref 78), some (.int (zI ((((bk * 24) + nt) * 4) + 1))), some (.int (zI fr))], [.int (zI ((((bk * 24) + nt) * 4) + 1))], es34)) i_14_0 rfl ?_
                                refine x_ifF i_14_1 (by unfold i32 iLO iHI; omega) rfl (by simp only [zC, cR]; omega) ?_
                                refine x0 (r := (5, [some (.ref 78), some (.int (zI ((((bk * 24) + nt) * 4) + 1))), some (.int (zI fr))], [.int (zI ((((bk * 24) + nt) * 4) + 1))], es34)) i_14_4 rfl ?_
                                refine x0 (r := (6, [some (.ref 78), some (.int (zI ((((bk * 24) + nt) * 4) + 1))), some (.int (zI fr))], [.ref 78, .int (zI ((((bk * 24) + nt) * 4) + 1))], es34)) i_14_5 rfl ?_
                                refine x_alen (p := 14) (n := 288) i_14_6 hs_es34 rfl ?_
                                refine x_cmpF i_14_7 (by unfold i32 iLO iHI; omega) (by unfold i32 iLO iHI; omega) rfl (by simp only [zC, cR]; omega) ?_
                                refine x0 (r := (11, [some (.ref 78), some (.int (zI ((((bk * 24) + nt) * 4) + 1))), some (.int (zI fr))], [.ref 78], es34)) i_14_10 rfl ?_
                                refine x0 (r := (12, [some (.ref 78), some (.int (zI ((((bk * 24) + nt) * 4) + 1))), some (.int (zI fr))], [.int (zI ((((bk * 24) + nt) * 4) + 1)), .ref 78], es34)) i_14_11 rfl ?_
                                refine x0 (r := (13, [some (.ref 78), some (.int (zI ((((bk * 24) + nt) * 4) + 1))), some (.int (zI fr))], [.int (zI fr), .int (zI ((((bk * 24) + nt) * 4) + 1)), .ref 78], es34)) i_14_12 rfl ?_
                                refine x_iast (p := 14) i_14_13 hs_es34 rfl (by unfold i32 iLO iHI; omega) (by omega) (by omega) ?_
                                obtain ⟨es35, e_es35⟩ : ∃ z : PH, z = sA es34 14 ((((bk * 24) + nt) * 4) + 1).toNat (zI fr) := ⟨_, rfl⟩
                                have hs_es35 : sh es35 := by rw [e_es35]; exact sh_sA hs_es34
                                have hT_es35 : hOK tT es35 := by rw [e_es35]; exact hOK_sA hT_es34 (p := 14) (n := 288) rfl (fun _ => i32_rng _)
                                rw [← e_es35]
                                refine x_ret (v := none) i_14_14 rfl (fun _ => rfl) rfl rfl rfl ?_
                                show aW _ _ _ _ _ _ (33, [some (.ref 71), some (.int (zI bk)), some (.int (zI nt)), some (.int (zI kd)), some (.int (zI fr)), some (.int (zI fi)), some (.int (zI ra)), some (.int (zI (((bk * 24) + nt) * 4)))], [], es35)
                                refine x0 (r := (34, [some (.ref 71), some (.int (zI bk)), some (.int (zI nt)), some (.int (zI kd)), some (.int (zI fr)), some (.int (zI fi)), some (.int (zI ra)), some (.int (zI (((bk * 24) + nt) * 4)))], [.ref 71], es35)) i_119_33 rfl ?_
                                refine x_getr (p := 7) (k := 78) i_119_34 hs_es35 rfl rfl ?_
                                show aW _ _ _ _ _ _ (37, [some (.ref 71), some (.int (zI bk)), some (.int (zI nt)), some (.int (zI kd)), some (.int (zI fr)), some (.int (zI fi)), some (.int (zI ra)), some (.int (zI (((bk * 24) + nt) * 4)))], [.ref 78], es35)
                                refine x0 (r := (39, [some (.ref 71), some (.int (zI bk)), some (.int (zI nt)), some (.int (zI kd)), some (.int (zI fr)), some (.int (zI fi)), some (.int (zI ra)), some (.int (zI (((bk * 24) + nt) * 4)))], [.int (zI (((bk * 24) + nt) * 4)), .ref 78], es35)) i_119_37 rfl ?_
                                refine x0 (r := (40, [some (.ref 71), some (.int (zI bk)), some (.int (zI nt)), some (.int (zI kd)), some (.int (zI fr)), some (.int (zI fi)), some (.int (zI ra)), some (.int (zI (((bk * 24) + nt) * 4)))], [.int (zI 2), .int (zI (((bk * 24) + nt) * 4)), .ref 78], es35)) i_119_39 (by rfl) ?_
                                refine x_iadd i_119_40 ?_
                                refine x0 (r := (43, [some (.ref 71), some (.int (zI bk)), some (.int (zI nt)), some (.int (zI kd)), some (.int (zI fr)), some (.int (zI fi)), some (.int (zI ra)), some (.int (zI (((bk * 24) + nt) * 4)))], [.int (zI fi), .int (zI ((((bk * 24) + nt) * 4) + 2)), .ref 78], es35)) i_119_41 rfl ?_
                                refine x_call (vs := [.ref 78, .int (zI ((((bk * 24) + nt) * 4) + 2)), .int (zI fi)]) (rs := []) i_119_43 rfl (fun _ => rfl) rfl rfl rfl rfl rfl rfl ?_
                                show aW _ _ _ _ _ _ (0, [some (.ref 78), some (.int (zI ((((bk * 24) + nt) * 4) + 2))), some (.int (zI fi))], [], es35)
                                refine x0 (r := (1, [some (.ref 78), some (.int (zI ((((bk * 24) + nt) * 4) + 2))), some (.int (zI fi))], [.int (zI ((((bk * 24) + nt) * 4) + 2))], es35)) i_14_0 rfl ?_
                                refine x_ifF i_14_1 (by unfold i32 iLO iHI; omega) rfl (by simp only [zC, cR]; omega) ?_
                                refine x0 (r := (5, [some (.ref 78), some (.int (zI ((((bk * 24) + nt) * 4) + 2))), some (.int (zI fi))], [.int (zI ((((bk * 24) + nt) * 4) + 2))], es35)) i_14_4 rfl ?_
                                refine x0 (r := (6, [some (.ref 78), some (.int (zI ((((bk * 24) + nt) * 4) + 2))), some (.int (zI fi))], [.ref 78, .int (zI ((((bk * 24) + nt) * 4) + 2))], es35)) i_14_5 rfl ?_
                                refine x_alen (p := 14) (n := 288) i_14_6 hs_es35 rfl ?_
                                refine x_cmpF i_14_7 (by unfold i32 iLO iHI; omega) (by unfold i32 iLO iHI; omega) rfl (by simp only [zC, cR]; omega) ?_
                                refine x0 (r := (11, [some (.ref 78), some (.int (zI ((((bk * 24) + nt) * 4) + 2))), some (.int (zI fi))], [.ref 78], es35)) i_14_10 rfl ?_
                                refine x0 (r := (12, [some (.ref 78), some (.int (zI ((((bk * 24) + nt) * 4) + 2))), some (.int (zI fi))], [.int (zI ((((bk * 24) + nt) * 4) + 2)), .ref 78], es35)) i_14_11 rfl ?_
                                refine x0 (r := (13, [some (.ref 78), some (.int (zI ((((bk * 24) + nt) * 4) + 2))), some (.int (zI fi))], [.int (zI fi), .int (zI ((((bk * 24) + nt) * 4) + 2)), .ref 78], es35)) i_14_12 rfl ?_
                                refine x_iast (p := 14) i_14_13 hs_es35 rfl (by unfold i32 iLO iHI; omega) (by omega) (by omega) ?_
                                obtain ⟨es36, e_es36⟩ : ∃ z : PH, z = sA es35 14 ((((bk * 24) + nt) * 4) + 2).toNat (zI fi) := ⟨_, rfl⟩
                                have hs_es36 : sh es36 := by rw [e_es36]; exact sh_sA hs_es35
                                have hT_es36 : hOK tT es36 := by rw [e_es36]; exact hOK_sA hT_es35 (p := 14) (n := 288) rfl (fun _ => i32_rng _)
                                rw [← e_es36]
                                refine x_ret (v := none) i_14_14 rfl (fun _ => rfl) rfl rfl rfl ?_
                                show aW _ _ _ _ _ _ (46, [some (.ref 71), some (.int (zI bk)), some (.int (zI nt)), some (.int (zI kd)), some (.int (zI fr)), some (.int (zI fi)), some (.int (zI ra)), some (.int (zI (((bk * 24) + nt) * 4)))], [], es36)
                                refine x0 (r := (47, [some (.ref 71), some (.int (zI bk)), some (.int (zI nt)), some (.int (zI kd)), some (.int (zI fr)), some (.int (zI fi)), some (.int (zI ra)), some (.int (zI (((bk * 24) + nt) * 4)))], [.ref 71], es36)) i_119_46 rfl ?_
                                refine x_getr (p := 7) (k := 78) i_119_47 hs_es36 rfl rfl ?_
                                show aW _ _ _ _ _ _ (50, [some (.ref 71), some (.int (zI bk)), some (.int (zI nt)), some (.int (zI kd)), some (.int (zI fr)), some (.int (zI fi)), some (.int (zI ra)), some (.int (zI (((bk * 24) + nt) * 4)))], [.ref 78], es36)
                                refine x0 (r := (52, [some (.ref 71), some (.int (zI bk)), some (.int (zI nt)), some (.int (zI kd)), some (.int (zI fr)), some (.int (zI fi)), some (.int (zI ra)), some (.int (zI (((bk * 24) + nt) * 4)))], [.int (zI (((bk * 24) + nt) * 4)), .ref 78], es36)) i_119_50 rfl ?_
                                refine x0 (r := (53, [some (.ref 71), some (.int (zI bk)), some (.int (zI nt)), some (.int (zI kd)), some (.int (zI fr)), some (.int (zI fi)), some (.int (zI ra)), some (.int (zI (((bk * 24) + nt) * 4)))], [.int (zI 3), .int (zI (((bk * 24) + nt) * 4)), .ref 78], es36)) i_119_52 (by rfl) ?_
                                refine x_iadd i_119_53 ?_
                                refine x0 (r := (56, [some (.ref 71), some (.int (zI bk)), some (.int (zI nt)), some (.int (zI kd)), some (.int (zI fr)), some (.int (zI fi)), some (.int (zI ra)), some (.int (zI (((bk * 24) + nt) * 4)))], [.int (zI ra), .int (zI ((((bk * 24) + nt) * 4) + 3)), .ref 78], es36)) i_119_54 rfl ?_
                                refine x_call (vs := [.ref 78, .int (zI ((((bk * 24) + nt) * 4) + 3)), .int (zI ra)]) (rs := []) i_119_56 rfl (fun _ => rfl) rfl rfl rfl rfl rfl rfl ?_
                                show aW _ _ _ _ _ _ (0, [some (.ref 78), some (.int (zI ((((bk * 24) + nt) * 4) + 3))), some (.int (zI ra))], [], es36)
                                refine x0 (r := (1, [some (.ref 78), some (.int (zI ((((bk * 24) + nt) * 4) + 3))), some (.int (zI ra))], [.int (zI ((((bk * 24) + nt) * 4) + 3))], es36)) i_14_0 rfl ?_
                                refine x_ifF i_14_1 (by unfold i32 iLO iHI; omega) rfl (by simp only [zC, cR]; omega) ?_
                                refine x0 (r := (5, [some (.ref 78), some (.int (zI ((((bk * 24) + nt) * 4) + 3))), some (.int (zI ra))], [.int (zI ((((bk * 24) + nt) * 4) + 3))], es36)) i_14_4 rfl ?_
                                refine x0 (r := (6, [some (.ref 78), some (.int (zI ((((bk * 24) + nt) * 4) + 3))), some (.int (zI ra))], [.ref 78, .int (zI ((((bk * 24) + nt) * 4) + 3))], es36)) i_14_5 rfl ?_
                                refine x_alen (p := 14) (n := 288) i_14_6 hs_es36 rfl ?_
                                refine x_cmpF i_14_7 (by unfold i32 iLO iHI; omega) (by unfold i32 iLO iHI; omega) rfl (by simp only [zC, cR]; omega) ?_
                                refine x0 (r := (11, [some (.ref 78), some (.int (zI ((((bk * 24) + nt) * 4) + 3))), some (.int (zI ra))], [.ref 78], es36)) i_14_10 rfl ?_
                                refine x0 (r := (12, [some (.ref 78), some (.int (zI ((((bk * 24) + nt) * 4) + 3))), some (.int (zI ra))], [.int (zI ((((bk * 24) + nt) * 4) + 3)), .ref 78], es36)) i_14_11 rfl ?_
                                refine x0 (r := (13, [some (.ref 78), some (.int (zI ((((bk * 24) + nt) * 4) + 3))), some (.int (zI ra))], [.int (zI ra), .int (zI ((((bk * 24) + nt) * 4) + 3)), .ref 78], es36)) i_14_12 rfl ?_
                                refine x_iast (p := 14) i_14_13 hs_es36 rfl (by unfold i32 iLO iHI; omega) (by omega) (by omega) ?_
                                obtain ⟨es37, e_es37⟩ : ∃ z : PH, z = sA es36 14 ((((bk * 24) + nt) * 4) + 3).toNat (zI ra) := ⟨_, rfl⟩
                                have hs_es37 : sh es37 := by rw [e_es37]; exact sh_sA hs_es36
                                have hT_es37 : hOK tT es37 := by rw [e_es37]; exact hOK_sA hT_es36 (p := 14) (n := 288) rfl (fun _ => i32_rng _)
                                rw [← e_es37]
                                refine x_ret (v := none) i_14_14 rfl (fun _ => rfl) rfl rfl rfl ?_
                                show aW _ _ _ _ _ _ (59, [some (.ref 71), some (.int (zI bk)), some (.int (zI nt)), some (.int (zI kd)), some (.int (zI fr)), some (.int (zI fi)), some (.int (zI ra)), some (.int (zI (((bk * 24) + nt) * 4)))], [], es37)
                                refine x_ret (v := none) i_119_59 rfl (fun _ => rfl) rfl rfl rfl ?_
                                show aW _ _ _ _ _ _ (131, [some (.ref 64), some (.int (zI bk)), some (.int (zI nt)), some (.int (zI kd)), some (.int (zI fr)), some (.int (zI fi)), some (.int (zI ra)), some (.int (zI 0))], [], es37)
                                refine x0 (r := (132, [some (.ref 64), some (.int (zI bk)), some (.int (zI nt)), some (.int (zI kd)), some (.int (zI fr)), some (.int (zI fi)), some (.int (zI ra)), some (.int (zI 0))], [.ref 64], es37)) i_120_131 rfl ?_
                                refine x_call (vs := [.ref 64]) (rs := []) i_120_132 rfl (fun _ => rfl) rfl rfl rfl rfl rfl (pCall_v (p := 0) hs_es37 rfl rfl rfl rfl rfl (by decide) rfl rfl rfl rfl rfl) ?_
                                show aW _ _ _ _ _ _ (0, [some (.ref 64)], [], es37)
                                refine x0 (r := (1, [some (.ref 64)], [.ref 64], es37)) i_73_0 rfl ?_
                                refine x0 (r := (2, [some (.ref 64)], [.int (zI 0), .ref 64], es37)) i_73_1 (by rfl) ?_
                                refine x_puti (p := 0) (ty := .boolean) i_73_2 hs_es37 rfl rfl rfl (Or.inr ⟨rfl, by omega⟩) ?_
                                obtain ⟨es38, e_es38⟩ : ∃ z : PH, z = sI es37 0 10 (.int (zI 0)) := ⟨_, rfl⟩
                                have hs_es38 : sh es38 := by rw [e_es38]; exact sh_sI hs_es37 (p := 0) (b := 10) rfl rfl
                                have hT_es38 : hOK tT es38 := by rw [e_es38]; exact hOK_sI hT_es37 (p := 0) (b := 10) rfl rfl (by rw [zI_toInt (by unfold i32 iLO iHI; omega)]; exact ⟨by show (0 : Int) ≤ 0; omega, by show 0 ≤ (1 : Int); omega⟩)
                                rw [← e_es38]
                                refine x0 (r := (6, [some (.ref 64)], [.ref 64], es38)) i_73_5 rfl ?_
                                refine x_getr (p := 0) (k := 137) i_73_6 hs_es38 rfl rfl ?_
                                show aW _ _ _ _ _ _ (9, [some (.ref 64)], [.ref 137], es38)
                                refine x0 (r := (10, [some (.ref 64)], [.int (zI 0), .ref 137], es38)) i_73_9 (by rfl) ?_
                                refine x_puti (p := 73) (ty := .boolean) i_73_10 hs_es38 rfl rfl rfl (Or.inr ⟨rfl, by omega⟩) ?_
                                obtain ⟨es39, e_es39⟩ : ∃ z : PH, z = sI es38 73 3 (.int (zI 0)) := ⟨_, rfl⟩
                                have hs_es39 : sh es39 := by rw [e_es39]; exact sh_sI hs_es38 (p := 73) (b := 3) rfl rfl
                                have hT_es39 : hOK tT es39 := by rw [e_es39]; exact hOK_sI hT_es38 (p := 73) (b := 3) rfl rfl (by rw [zI_toInt (by unfold i32 iLO iHI; omega)]; exact ⟨by show (0 : Int) ≤ 0; omega, by show 0 ≤ (1 : Int); omega⟩)
                                rw [← e_es39]
                                refine x_ret (v := none) i_73_13 rfl (fun _ => rfl) rfl rfl rfl ?_
                                show aW _ _ _ _ _ _ (135, [some (.ref 64), some (.int (zI bk)), some (.int (zI nt)), some (.int (zI kd)), some (.int (zI fr)), some (.int (zI fi)), some (.int (zI ra)), some (.int (zI 0))], [], es39)
                                refine x0 (r := (137, [some (.ref 64), some (.int (zI bk)), some (.int (zI nt)), some (.int (zI kd)), some (.int (zI fr)), some (.int (zI fi)), some (.int (zI ra)), some (.int (zI 0))], [.int (zI 0)], es39)) i_120_135 rfl ?_
                                refine x_ifF i_120_137 (by unfold i32 iLO iHI; omega) rfl (by simp only [zC, cR]; omega) ?_
                                refine x0 (r := (141, [some (.ref 64), some (.int (zI bk)), some (.int (zI nt)), some (.int (zI kd)), some (.int (zI fr)), some (.int (zI fi)), some (.int (zI ra)), some (.int (zI 0))], [.int (zI 1)], es39)) i_120_140 (by rfl) ?_
                                refine x0 (r := (145, [some (.ref 64), some (.int (zI bk)), some (.int (zI nt)), some (.int (zI kd)), some (.int (zI fr)), some (.int (zI fi)), some (.int (zI ra)), some (.int (zI 0))], [.int (zI 1)], es39)) i_120_141 rfl ?_
                                refine x_ret (v := some (.int (zI 1))) i_120_145 rfl (fun _ => rfl) rfl rfl (pFin_b (by omega)) ?_
                                exact K15 c1 v2 e_v2 c3 c4 v5 e_v5 c6 c7 v8 e_v8 c9 c10 c11 c12 c13 c14 c15 v16 e_v16 c17 v24 e_v24 c25 v32 e_v32 c33 es34 e_es34 es35 e_es35 es36 e_es36 es37 e_es37 es38 e_es38 es39 e_es39
                              · refine x_cmpF i_120_90 (by unfold i32 iLO iHI; omega) (by unfold i32 iLO iHI; omega) rfl (by simp only [zC, cR]; omega) ?_
                                refine x0 (r := (94, [some (.ref 64), some (.int (zI bk)), some (.int (zI nt)), some (.int (zI kd)), some (.int (zI fr)), some (.int (zI fi)), some (.int (zI ra)), none], [.ref 64], es)) i_120_93 rfl ?_
                                refine x_getr (p := 0) (k := 71) i_120_94 hs_es rfl rfl ?_
                                show aW _ _ _ _ _ _ (97, [some (.ref 64), some (.int (zI bk)), some (.int (zI nt)), some (.int (zI kd)), some (.int (zI fr)), some (.int (zI fi)), some (.int (zI ra)), none], [.ref 71], es)
                                refine x0 (r := (98, [some (.ref 64), some (.int (zI bk)), some (.int (zI nt)), some (.int (zI kd)), some (.int (zI fr)), some (.int (zI fi)), some (.int (zI ra)), none], [.int (zI bk), .ref 71], es)) i_120_97 rfl ?_
                                refine x0 (r := (99, [some (.ref 64), some (.int (zI bk)), some (.int (zI nt)), some (.int (zI kd)), some (.int (zI fr)), some (.int (zI fi)), some (.int (zI ra)), none], [.int (zI nt), .int (zI bk), .ref 71], es)) i_120_98 rfl ?_
                                refine x0 (r := (100, [some (.ref 64), some (.int (zI bk)), some (.int (zI nt)), some (.int (zI kd)), some (.int (zI fr)), some (.int (zI fi)), some (.int (zI ra)), none], [.int (zI 3), .int (zI nt), .int (zI bk), .ref 71], es)) i_120_99 (by rfl) ?_
                                refine x_call (vs := [.ref 71, .int (zI bk), .int (zI nt), .int (zI 3)]) (rs := []) i_120_100 rfl (fun _ => rfl) rfl rfl rfl rfl rfl (pCall_v (p := 7) hs_es rfl rfl rfl rfl rfl (by decide) rfl rfl rfl rfl rfl) ?_
                                show aW _ _ _ _ _ _ (0, [some (.ref 71), some (.int (zI bk)), some (.int (zI nt)), some (.int (zI 3))], [], es)
                                refine x0 (r := (1, [some (.ref 71), some (.int (zI bk)), some (.int (zI nt)), some (.int (zI 3))], [.ref 71], es)) i_43_0 rfl ?_
                                refine x_getr (p := 7) (k := 78) i_43_1 hs_es rfl rfl ?_
                                show aW _ _ _ _ _ _ (4, [some (.ref 71), some (.int (zI bk)), some (.int (zI nt)), some (.int (zI 3))], [.ref 78], es)
                                refine x0 (r := (5, [some (.ref 71), some (.int (zI bk)), some (.int (zI nt)), some (.int (zI 3))], [.int (zI bk), .ref 78], es)) i_43_4 rfl ?_
                                refine x0 (r := (7, [some (.ref 71), some (.int (zI bk)), some (.int (zI nt)), some (.int (zI 3))], [.int (zI 24), .int (zI bk), .ref 78], es)) i_43_5 (by rfl) ?_
                                refine x_imul i_43_7 ?_
                                refine x0 (r := (9, [some (.ref 71), some (.int (zI bk)), some (.int (zI nt)), some (.int (zI 3))], [.int (zI nt), .int (zI (bk * 24)), .ref 78], es)) i_43_8 rfl ?_
                                refine x_iadd i_43_9 ?_
                                refine x0 (r := (11, [some (.ref 71), some (.int (zI bk)), some (.int (zI nt)), some (.int (zI 3))], [.int (zI 4), .int (zI ((bk * 24) + nt)), .ref 78], es)) i_43_10 (by rfl) ?_
                                refine x_imul i_43_11 ?_
                                refine x0 (r := (13, [some (.ref 71), some (.int (zI bk)), some (.int (zI nt)), some (.int (zI 3))], [.int (zI 3), .int (zI (((bk * 24) + nt) * 4)), .ref 78], es)) i_43_12 rfl ?_
                                refine x_iadd i_43_13 ?_
                                refine x_call (vs := [.ref 78, .int (zI ((((bk * 24) + nt) * 4) + 3))]) (rs := []) i_43_14 rfl (fun _ => rfl) rfl rfl rfl rfl rfl rfl ?_
                                show aW _ _ _ _ _ _ (0, [some (.ref 78), some (.int (zI ((((bk * 24) + nt) * 4) + 3)))], [], es)
                                refine x0 (r := (1, [some (.ref 78), some (.int (zI ((((bk * 24) + nt) * 4) + 3)))], [.int (zI ((((bk * 24) + nt) * 4) + 3))], es)) i_28_0 rfl ?_
                                refine x_ifF i_28_1 (by unfold i32 iLO iHI; omega) rfl (by simp only [zC, cR]; omega) ?_
                                refine x0 (r := (5, [some (.ref 78), some (.int (zI ((((bk * 24) + nt) * 4) + 3)))], [.int (zI ((((bk * 24) + nt) * 4) + 3))], es)) i_28_4 rfl ?_
                                refine x0 (r := (6, [some (.ref 78), some (.int (zI ((((bk * 24) + nt) * 4) + 3)))], [.ref 78, .int (zI ((((bk * 24) + nt) * 4) + 3))], es)) i_28_5 rfl ?_
                                refine x_alen (p := 14) (n := 288) i_28_6 hs_es rfl ?_
                                refine x_cmpF i_28_7 (by unfold i32 iLO iHI; omega) (by unfold i32 iLO iHI; omega) rfl (by simp only [zC, cR]; omega) ?_
                                refine x0 (r := (11, [some (.ref 78), some (.int (zI ((((bk * 24) + nt) * 4) + 3)))], [.ref 78], es)) i_28_10 rfl ?_
                                refine x0 (r := (12, [some (.ref 78), some (.int (zI ((((bk * 24) + nt) * 4) + 3)))], [.int (zI ((((bk * 24) + nt) * 4) + 3)), .ref 78], es)) i_28_11 rfl ?_
                                refine x_iald (p := 14) i_28_12 hs_es rfl (by unfold i32 iLO iHI; omega) (by omega) (by omega) ?_
                                obtain ⟨v40, e_v40⟩ : ∃ z : Int, z = (gA es 14 ((((bk * 24) + nt) * 4) + 3).toNat).toInt := ⟨_, rfl⟩
                                rw [← e_v40]
                                have r_v40 : iLO ≤ v40 ∧ v40 ≤ iHI := by rw [e_v40]; exact i32_rng _
                                unfold iLO iHI at r_v40
                                refine x0 (r := (17, [some (.ref 78), some (.int (zI ((((bk * 24) + nt) * 4) + 3)))], [.int (zI v40)], es)) i_28_13 rfl ?_
                                refine x_ret (v := some (.int (zI v40))) i_28_17 rfl (fun _ => rfl) rfl rfl rfl ?_
                                show aW _ _ _ _ _ _ (17, [some (.ref 71), some (.int (zI bk)), some (.int (zI nt)), some (.int (zI 3))], [.int (zI v40)], es)
                                refine x_ret (v := some (.int (zI v40))) i_43_17 rfl (fun _ => rfl) rfl rfl rfl ?_
                                show aW _ _ _ _ _ _ (103, [some (.ref 64), some (.int (zI bk)), some (.int (zI nt)), some (.int (zI kd)), some (.int (zI fr)), some (.int (zI fi)), some (.int (zI ra)), none], [.int (zI v40)], es)
                                refine x0 (r := (105, [some (.ref 64), some (.int (zI bk)), some (.int (zI nt)), some (.int (zI kd)), some (.int (zI fr)), some (.int (zI fi)), some (.int (zI ra)), none], [.int (zI ra), .int (zI v40)], es)) i_120_103 rfl ?_
                                by_cases c41 : v40 ≠ ra
                                · refine x_cmpT i_120_105 (by unfold i32 iLO iHI; omega) (by unfold i32 iLO iHI; omega) rfl (by simp only [zC, cR]; omega) ?_
                                  refine x0 (r := (113, [some (.ref 64), some (.int (zI bk)), some (.int (zI nt)), some (.int (zI kd)), some (.int (zI fr)), some (.int (zI fi)), some (.int (zI ra)), none], [.int (zI 0)], es)) i_120_112 (by rfl) ?_
                                  refine x0 (r := (115, [some (.ref 64), some (.int (zI bk)), some (.int (zI nt)), some (.int (zI kd)), some (.int (zI fr)), some (.int (zI fi)), some (.int (zI ra)), some (.int (zI 0))], [], es)) i_120_113 rfl ?_
                                  refine x0 (r := (116, [some (.ref 64), some (.int (zI bk)), some (.int (zI nt)), some (.int (zI kd)), some (.int (zI fr)), some (.int (zI fi)), some (.int (zI ra)), some (.int (zI 0))], [.ref 64], es)) i_120_115 rfl ?_
                                  refine x_getr (p := 0) (k := 71) i_120_116 hs_es rfl rfl ?_
                                  show aW _ _ _ _ _ _ (119, [some (.ref 64), some (.int (zI bk)), some (.int (zI nt)), some (.int (zI kd)), some (.int (zI fr)), some (.int (zI fi)), some (.int (zI ra)), some (.int (zI 0))], [.ref 71], es)
                                  refine x0 (r := (120, [some (.ref 64), some (.int (zI bk)), some (.int (zI nt)), some (.int (zI kd)), some (.int (zI fr)), some (.int (zI fi)), some (.int (zI ra)), some (.int (zI 0))], [.int (zI bk), .ref 71], es)) i_120_119 rfl ?_
                                  refine x0 (r := (121, [some (.ref 64), some (.int (zI bk)), some (.int (zI nt)), some (.int (zI kd)), some (.int (zI fr)), some (.int (zI fi)), some (.int (zI ra)), some (.int (zI 0))], [.int (zI nt), .int (zI bk), .ref 71], es)) i_120_120 rfl ?_
                                  refine x0 (r := (122, [some (.ref 64), some (.int (zI bk)), some (.int (zI nt)), some (.int (zI kd)), some (.int (zI fr)), some (.int (zI fi)), some (.int (zI ra)), some (.int (zI 0))], [.int (zI kd), .int (zI nt), .int (zI bk), .ref 71], es)) i_120_121 rfl ?_
                                  refine x0 (r := (124, [some (.ref 64), some (.int (zI bk)), some (.int (zI nt)), some (.int (zI kd)), some (.int (zI fr)), some (.int (zI fi)), some (.int (zI ra)), some (.int (zI 0))], [.int (zI fr), .int (zI kd), .int (zI nt), .int (zI bk), .ref 71], es)) i_120_122 rfl ?_
                                  refine x0 (r := (126, [some (.ref 64), some (.int (zI bk)), some (.int (zI nt)), some (.int (zI kd)), some (.int (zI fr)), some (.int (zI fi)), some (.int (zI ra)), some (.int (zI 0))], [.int (zI fi), .int (zI fr), .int (zI kd), .int (zI nt), .int (zI bk), .ref 71], es)) i_120_124 rfl ?_
                                  refine x0 (r := (128, [some (.ref 64), some (.int (zI bk)), some (.int (zI nt)), some (.int (zI kd)), some (.int (zI fr)), some (.int (zI fi)), some (.int (zI ra)), some (.int (zI 0))], [.int (zI ra), .int (zI fi), .int (zI fr), .int (zI kd), .int (zI nt), .int (zI bk), .ref 71], es)) i_120_126 rfl ?_
                                  refine x_call (vs := [.ref 71, .int (zI bk), .int (zI nt), .int (zI kd), .int (zI fr), .int (zI fi), .int (zI ra)]) (rs := []) i_120_128 rfl (fun _ => rfl) rfl rfl rfl rfl rfl (pCall_v (p := 7) hs_es rfl rfl rfl rfl rfl (by decide) rfl rfl rfl rfl rfl) ?_
                                  show aW _ _ _ _ _ _ (0, [some (.ref 71), some (.int (zI bk)), some (.int (zI nt)), some (.int (zI kd)), some (.int (zI fr)), some (.int (zI fi)), some (.int (zI ra)), none], [], es)
                                  refine x0 (r := (1, [some (.ref 71), some (.int (zI bk)), some (.int (zI nt)), some (.int (zI kd)), some (.int (zI fr)), some (.int (zI fi)), some (.int (zI ra)), none], [.int (zI bk)], es)) i_119_0 rfl ?_
                                  refine x0 (r := (3, [some (.ref 71), some (.int (zI bk)), some (.int (zI nt)), some (.int (zI kd)), some (.int (zI fr)), some (.int (zI fi)), some (.int (zI ra)), none], [.int (zI 24), .int (zI bk)], es)) i_119_1 (by rfl) ?_
                                  refine x_imul i_119_3 ?_
                                  refine x0 (r := (5, [some (.ref 71), some (.int (zI bk)), some (.int (zI nt)), some (.int (zI kd)), some (.int (zI fr)), some (.int (zI fi)), some (.int (zI ra)), none], [.int (zI nt), .int (zI (bk * 24))], es)) i_119_4 rfl ?_
                                  refine x_iadd i_119_5 ?_
                                  refine x0 (r := (7, [some (.ref 71), some (.int (zI bk)), some (.int (zI nt)), some (.int (zI kd)), some (.int (zI fr)), some (.int (zI fi)), some (.int (zI ra)), none], [.int (zI 4), .int (zI ((bk * 24) + nt))], es)) i_119_6 (by rfl) ?_
                                  refine x_imul i_119_7 ?_
                                  refine x0 (r := (10, [some (.ref 71), some (.int (zI bk)), some (.int (zI nt)), some (.int (zI kd)), some (.int (zI fr)), some (.int (zI fi)), some (.int (zI ra)), some (.int (zI (((bk * 24) + nt) * 4)))], [], es)) i_119_8 rfl ?_
                                  refine x0 (r := (11, [some (.ref 71), some (.int (zI bk)), some (.int (zI nt)), some (.int (zI kd)), some (.int (zI fr)), some (.int (zI fi)), some (.int (zI ra)), some (.int (zI (((bk * 24) + nt) * 4)))], [.ref 71], es)) i_119_10 rfl ?_
                                  refine x_getr (p := 7) (k := 78) i_119_11 hs_es rfl rfl ?_
                                  show aW _ _ _ _ _ _ (14, [some (.ref 71), some (.int (zI bk)), some (.int (zI nt)), some (.int (zI kd)), some (.int (zI fr)), some (.int (zI fi)), some (.int (zI ra)), some (.int (zI (((bk * 24) + nt) * 4)))], [.ref 78], es)
                                  refine x0 (r := (16, [some (.ref 71), some (.int (zI bk)), some (.int (zI nt)), some (.int (zI kd)), some (.int (zI fr)), some (.int (zI fi)), some (.int (zI ra)), some (.int (zI (((bk * 24) + nt) * 4)))], [.int (zI (((bk * 24) + nt) * 4)), .ref 78], es)) i_119_14 rfl ?_
                                  refine x0 (r := (17, [some (.ref 71), some (.int (zI bk)), some (.int (zI nt)), some (.int (zI kd)), some (.int (zI fr)), some (.int (zI fi)), some (.int (zI ra)), some (.int (zI (((bk * 24) + nt) * 4)))], [.int (zI kd), .int (zI (((bk * 24) + nt) * 4)), .ref 78], es)) i_119_16 rfl ?_
                                  refine x_call (vs := [.ref 78, .int (zI (((bk * 24) + nt) * 4)), .int (zI kd)]) (rs := []) i_119_17 rfl (fun _ => rfl) rfl rfl rfl rfl rfl rfl ?_
                                  show aW _ _ _ _ _ _ (0, [some (.ref 78), some (.int (zI (((bk * 24) + nt) * 4))), some (.int (zI kd))], [], es)
                                  refine x0 (r := (1, [some (.ref 78), some (.int (zI (((bk * 24) + nt) * 4))), some (.int (zI kd))], [.int (zI (((bk * 24) + nt) * 4))], es)) i_14_0 rfl ?_
                                  refine x_ifF i_14_1 (by unfold i32 iLO iHI; omega) rfl (by simp only [zC, cR]; omega) ?_
                                  refine x0 (r := (5, [some (.ref 78), some (.int (zI (((bk * 24) + nt) * 4))), some (.int (zI kd))], [.int (zI (((bk * 24) + nt) * 4))], es)) i_14_4 rfl ?_
                                  refine x0 (r := (6, [some (.ref 78), some (.int (zI (((bk * 24) + nt) * 4))), some (.int (zI kd))], [.ref 78, .int (zI (((bk * 24) + nt) * 4))], es)) i_14_5 rfl ?_
                                  refine x_alen (p := 14) (n := 288) i_14_6 hs_es rfl ?_
                                  refine x_cmpF i_14_7 (by unfold i32 iLO iHI; omega) (by unfold i32 iLO iHI; omega) rfl (by simp only [zC, cR]; omega) ?_
                                  refine x0 (r := (11, [some (.ref 78), some (.int (zI (((bk * 24) + nt) * 4))), some (.int (zI kd))], [.ref 78], es)) i_14_10 rfl ?_
                                  refine x0 (r := (12, [some (.ref 78), some (.int (zI (((bk * 24) + nt) * 4))), some (.int (zI kd))], [.int (zI (((bk * 24) + nt) * 4)), .ref 78], es)) i_14_11 rfl ?_
                                  refine x0 (r := (13, [some (.ref 78), some (.int (zI (((bk * 24) + nt) * 4))), some (.int (zI kd))], [.int (zI kd), .int (zI (((bk * 24) + nt) * 4)), .ref 78], es)) i_14_12 rfl ?_
                                  refine x_iast (p := 14) i_14_13 hs_es rfl (by unfold i32 iLO iHI; omega) (by omega) (by omega) ?_
                                  obtain ⟨es42, e_es42⟩ : ∃ z : PH, z = sA es 14 (((bk * 24) + nt) * 4).toNat (zI kd) := ⟨_, rfl⟩
                                  have hs_es42 : sh es42 := by rw [e_es42]; exact sh_sA hs_es
                                  have hT_es42 : hOK tT es42 := by rw [e_es42]; exact hOK_sA hT_es (p := 14) (n := 288) rfl (fun _ => i32_rng _)
                                  rw [← e_es42]
                                  refine x_ret (v := none) i_14_14 rfl (fun _ => rfl) rfl rfl rfl ?_
                                  show aW _ _ _ _ _ _ (20, [some (.ref 71), some (.int (zI bk)), some (.int (zI nt)), some (.int (zI kd)), some (.int (zI fr)), some (.int (zI fi)), some (.int (zI ra)), some (.int (zI (((bk * 24) + nt) * 4)))], [], es42)
                                  refine x0 (r := (21, [some (.ref 71), some (.int (zI bk)), some (.int (zI nt)), some (.int (zI kd)), some (.int (zI fr)), some (.int (zI fi)), some (.int (zI ra)), some (.int (zI (((bk * 24) + nt) * 4)))], [.ref 71], es42)) i_119_20 rfl ?_
                                  refine x_getr (p := 7) (k := 78) i_119_21 hs_es42 rfl rfl ?_
                                  show aW _ _ _ _ _ _ (24, [some (.ref 71), some (.int (zI bk)), some (.int (zI nt)), some (.int (zI kd)), some (.int (zI fr)), some (.int (zI fi)), some (.int (zI ra)), some (.int (zI (((bk * 24) + nt) * 4)))], [.ref 78], es42)
                                  refine x0 (r := (26, [some (.ref 71), some (.int (zI bk)), some (.int (zI nt)), some (.int (zI kd)), some (.int (zI fr)), some (.int (zI fi)), some (.int (zI ra)), some (.int (zI (((bk * 24) + nt) * 4)))], [.int (zI (((bk * 24) + nt) * 4)), .ref 78], es42)) i_119_24 rfl ?_
                                  refine x0 (r := (27, [some (.ref 71), some (.int (zI bk)), some (.int (zI nt)), some (.int (zI kd)), some (.int (zI fr)), some (.int (zI fi)), some (.int (zI ra)), some (.int (zI (((bk * 24) + nt) * 4)))], [.int (zI 1), .int (zI (((bk * 24) + nt) * 4)), .ref 78], es42)) i_119_26 (by rfl) ?_
                                  refine x_iadd i_119_27 ?_
                                  refine x0 (r := (30, [some (.ref 71), some (.int (zI bk)), some (.int (zI nt)), some (.int (zI kd)), some (.int (zI fr)), some (.int (zI fi)), some (.int (zI ra)), some (.int (zI (((bk * 24) + nt) * 4)))], [.int (zI fr), .int (zI ((((bk * 24) + nt) * 4) + 1)), .ref 78], es42)) i_119_28 rfl ?_
                                  refine x_call (vs := [.ref 78, .int (zI ((((bk * 24) + nt) * 4) + 1)), .int (zI fr)]) (rs := []) i_119_30 rfl (fun _ => rfl) rfl rfl rfl rfl rfl rfl ?_
                                  show aW _ _ _ _ _ _ (0, [some (.ref 78), some (.int (zI ((((bk * 24) + nt) * 4) + 1))), some (.int (zI fr))], [], es42)
                                  refine x0 (r := (1, [some (.ref 78), some (.int (zI ((((bk * 24) + nt) * 4) + 1))), some (.int (zI fr))], [.int (zI ((((bk * 24) + nt) * 4) + 1))], es42)) i_14_0 rfl ?_
                                  refine x_ifF i_14_1 (by unfold i32 iLO iHI; omega) rfl (by simp only [zC, cR]; omega) ?_
                                  refine x0 (r := (5, [some (.ref 78), some (.int (zI ((((bk * 24) + nt) * 4) + 1))), some (.int (zI fr))], [.int (zI ((((bk * 24) + nt) * 4) + 1))], es42)) i_14_4 rfl ?_
                                  refine x0 (r := (6, [some (.ref 78), some (.int (zI ((((bk * 24) + nt) * 4) + 1))), some (.int (zI fr))], [.ref 78, .int (zI ((((bk * 24) + nt) * 4) + 1))], es42)) i_14_5 rfl ?_
                                  refine x_alen (p := 14) (n := 288) i_14_6 hs_es42 rfl ?_
                                  refine x_cmpF i_14_7 (by unfold i32 iLO iHI; omega) (by unfold i32 iLO iHI; omega) rfl (by simp only [zC, cR]; omega) ?_
                                  refine x0 (r := (11, [some (.ref 78), some (.int (zI ((((bk * 24) + nt) * 4) + 1))), some (.int (zI fr))], [.ref 78], es42)) i_14_10 rfl ?_
                                  refine x0 (r := (12, [some (.ref 78), some (.int (zI ((((bk * 24) + nt) * 4) + 1))), some (.int (zI fr))], [.int (zI ((((bk * 24) + nt) * 4) + 1)), .ref 78], es42)) i_14_11 rfl ?_
                                  refine x0 (r := (13, [some (.ref 78), some (.int (zI ((((bk * 24) + nt) * 4) + 1))), some (.int (zI fr))], [.int (zI fr), .int (zI ((((bk * 24) + nt) * 4) + 1)), .ref 78], es42)) i_14_12 rfl ?_
                                  refine x_iast (p := 14) i_14_13 hs_es42 rfl (by unfold i32 iLO iHI; omega) (by omega) (by omega) ?_
                                  obtain ⟨es43, e_es43⟩ : ∃ z : PH, z = sA es42 14 ((((bk * 24) + nt) * 4) + 1).toNat (zI fr) := ⟨_, rfl⟩
                                  have hs_es43 : sh es43 := by rw [e_es43]; exact sh_sA hs_es42
                                  have hT_es43 : hOK tT es43 := by rw [e_es43]; exact hOK_sA hT_es42 (p := 14) (n := 288) rfl (fun _ => i32_rng _)
                                  rw [← e_es43]
                                  refine x_ret (v := none) i_14_14 rfl (fun _ => rfl) rfl rfl rfl ?_
                                  show aW _ _ _ _ _ _ (33, [some (.ref 71), some (.int (zI bk)), some (.int (zI nt)), some (.int (zI kd)), some (.int (zI fr)), some (.int (zI fi)), some (.int (zI ra)), some (.int (zI (((bk * 24) + nt) * 4)))], [], es43)
                                  refine x0 (r := (34, [some (.ref 71), some (.int (zI bk)), some (.int (zI nt)), some (.int (zI kd)), some (.int (zI fr)), some (.int (zI fi)), some (.int (zI ra)), some (.int (zI (((bk * 24) + nt) * 4)))], [.ref 71], es43)) i_119_33 rfl ?_
                                  refine x_getr (p := 7) (k := 78) i_119_34 hs_es43 rfl rfl ?_
                                  show aW _ _ _ _ _ _ (37, [some (.ref 71), some (.int (zI bk)), some (.int (zI nt)), some (.int (zI kd)), some (.int (zI fr)), some (.int (zI fi)), some (.int (zI ra)), some (.int (zI (((bk * 24) + nt) * 4)))], [.ref 78], es43)
                                  refine x0 (r := (39, [some (.ref 71), some (.int (zI bk)), some (.int (zI nt)), some (.int (zI kd)), some (.int (zI fr)), some (.int (zI fi)), some (.int (zI ra)), some (.int (zI (((bk * 24) + nt) * 4)))], [.int (zI (((bk * 24) + nt) * 4)), .ref 78], es43)) i_119_37 rfl ?_
                                  refine x0 (r := (40, [some (.ref 71), some (.int (zI bk)), some (.int (zI nt)), some (.int (zI kd)), some (.int (zI fr)), some (.int (zI fi)), some (.int (zI ra)), some (.int (zI (((bk * 24) + nt) * 4)))], [.int (zI 2), .int (zI (((bk * 24) + nt) * 4)), .ref 78], es43)) i_119_39 (by rfl) ?_
                                  refine x_iadd i_119_40 ?_
                                  refine x0 (r := (43, [some (.ref 71), some (.int (zI bk)), some (.int (zI nt)), some (.int (zI kd)), some (.int (zI fr)), some (.int (zI fi)), some (.int (zI ra)), some (.int (zI (((bk * 24) + nt) * 4)))], [.int (zI fi), .int (zI ((((bk * 24) + nt) * 4) + 2)), .ref 78], es43)) i_119_41 rfl ?_
                                  refine x_call (vs := [.ref 78, .int (zI ((((bk * 24) + nt) * 4) + 2)), .int (zI fi)]) (rs := []) i_119_43 rfl (fun _ => rfl) rfl rfl rfl rfl rfl rfl ?_
                                  show aW _ _ _ _ _ _ (0, [some (.ref 78), some (.int (zI ((((bk * 24) + nt) * 4) + 2))), some (.int (zI fi))], [], es43)
                                  refine x0 (r := (1, [some (.ref 78), some (.int (zI ((((bk * 24) + nt) * 4) + 2))), some (.int (zI fi))], [.int (zI ((((bk * 24) + nt) * 4) + 2))], es43)) i_14_0 rfl ?_
                                  refine x_ifF i_14_1 (by unfold i32 iLO iHI; omega) rfl (by simp only [zC, cR]; omega) ?_
                                  refine x0 (r := (5, [some (.ref 78), some (.int (zI ((((bk * 24) + nt) * 4) + 2))), some (.int (zI fi))], [.int (zI ((((bk * 24) + nt) * 4) + 2))], es43)) i_14_4 rfl ?_
                                  refine x0 (r := (6, [some (.ref 78), some (.int (zI ((((bk * 24) + nt) * 4) + 2))), some (.int (zI fi))], [.ref 78, .int (zI ((((bk * 24) + nt) * 4) + 2))], es43)) i_14_5 rfl ?_
                                  refine x_alen (p := 14) (n := 288) i_14_6 hs_es43 rfl ?_
                                  refine x_cmpF i_14_7 (by unfold i32 iLO iHI; omega) (by unfold i32 iLO iHI; omega) rfl (by simp only [zC, cR]; omega) ?_
                                  refine x0 (r := (11, [some (.ref 78), some (.int (zI ((((bk * 24) + nt) * 4) + 2))), some (.int (zI fi))], [.ref 78], es43)) i_14_10 rfl ?_
                                  refine x0 (r := (12, [some (.ref 78), some (.int (zI ((((bk * 24) + nt) * 4) + 2))), some (.int (zI fi))], [.int (zI ((((bk * 24) + nt) * 4) + 2)), .ref 78], es43)) i_14_11 rfl ?_
                                  refine x0 (r := (13, [some (.ref 78), some (.int (zI ((((bk * 24) + nt) * 4) + 2))), some (.int (zI fi))], [.int (zI fi), .int (zI ((((bk * 24) + nt) * 4) + 2)), .ref 78], es43)) i_14_12 rfl ?_
                                  refine x_iast (p := 14) i_14_13 hs_es43 rfl (by unfold i32 iLO iHI; omega) (by omega) (by omega) ?_
                                  obtain ⟨es44, e_es44⟩ : ∃ z : PH, z = sA es43 14 ((((bk * 24) + nt) * 4) + 2).toNat (zI fi) := ⟨_, rfl⟩
                                  have hs_es44 : sh es44 := by rw [e_es44]; exact sh_sA hs_es43
                                  have hT_es44 : hOK tT es44 := by rw [e_es44]; exact hOK_sA hT_es43 (p := 14) (n := 288) rfl (fun _ => i32_rng _)
                                  rw [← e_es44]
                                  refine x_ret (v := none) i_14_14 rfl (fun _ => rfl) rfl rfl rfl ?_
                                  show aW _ _ _ _ _ _ (46, [some (.ref 71), some (.int (zI bk)), some (.int (zI nt)), some (.int (zI kd)), some (.int (zI fr)), some (.int (zI fi)), some (.int (zI ra)), some (.int (zI (((bk * 24) + nt) * 4)))], [], es44)
                                  refine x0 (r := (47, [some (.ref 71), some (.int (zI bk)), some (.int (zI nt)), some (.int (zI kd)), some (.int (zI fr)), some (.int (zI fi)), some (.int (zI ra)), some (.int (zI (((bk * 24) + nt) * 4)))], [.ref 71], es44)) i_119_46 rfl ?_
                                  refine x_getr (p := 7) (k := 78) i_119_47 hs_es44 rfl rfl ?_
                                  show aW _ _ _ _ _ _ (50, [some (.ref 71), some (.int (zI bk)), some (.int (zI nt)), some (.int (zI kd)), some (.int (zI fr)), some (.int (zI fi)), some (.int (zI ra)), some (.int (zI (((bk * 24) + nt) * 4)))], [.ref 78], es44)
                                  refine x0 (r := (52, [some (.ref 71), some (.int (zI bk)), some (.int (zI nt)), some (.int (zI kd)), some (.int (zI fr)), some (.int (zI fi)), some (.int (zI ra)), some (.int (zI (((bk * 24) + nt) * 4)))], [.int (zI (((bk * 24) + nt) * 4)), .ref 78], es44)) i_119_50 rfl ?_
                                  refine x0 (r := (53, [some (.ref 71), some (.int (zI bk)), some (.int (zI nt)), some (.int (zI kd)), some (.int (zI fr)), some (.int (zI fi)), some (.int (zI ra)), some (.int (zI (((bk * 24) + nt) * 4)))], [.int (zI 3), .int (zI (((bk * 24) + nt) * 4)), .ref 78], es44)) i_119_52 (by rfl) ?_
                                  refine x_iadd i_119_53 ?_
                                  refine x0 (r := (56, [some (.ref 71), some (.int (zI bk)), some (.int (zI nt)), some (.int (zI kd)), some (.int (zI fr)), some (.int (zI fi)), some (.int (zI ra)), some (.int (zI (((bk * 24) + nt) * 4)))], [.int (zI ra), .int (zI ((((bk * 24) + nt) * 4) + 3)), .ref 78], es44)) i_119_54 rfl ?_
                                  refine x_call (vs := [.ref 78, .int (zI ((((bk * 24) + nt) * 4) + 3)), .int (zI ra)]) (rs := []) i_119_56 rfl (fun _ => rfl) rfl rfl rfl rfl rfl rfl ?_
                                  show aW _ _ _ _ _ _ (0, [some (.ref 78), some (.int (zI ((((bk * 24) + nt) * 4) + 3))), some (.int (zI ra))], [], es44)
                                  refine x0 (r := (1, [some (.ref 78), some (.int (zI ((((bk * 24) + nt) * 4) + 3))), some (.int (zI ra))], [.int (zI ((((bk * 24) + nt) * 4) + 3))], es44)) i_14_0 rfl ?_
                                  refine x_ifF i_14_1 (by unfold i32 iLO iHI; omega) rfl (by simp only [zC, cR]; omega) ?_
                                  refine x0 (r := (5, [some (.ref 78), some (.int (zI ((((bk * 24) + nt) * 4) + 3))), some (.int (zI ra))], [.int (zI ((((bk * 24) + nt) * 4) + 3))], es44)) i_14_4 rfl ?_
                                  refine x0 (r := (6, [some (.ref 78), some (.int (zI ((((bk * 24) + nt) * 4) + 3))), some (.int (zI ra))], [.ref 78, .int (zI ((((bk * 24) + nt) * 4) + 3))], es44)) i_14_5 rfl ?_
                                  refine x_alen (p := 14) (n := 288) i_14_6 hs_es44 rfl ?_
                                  refine x_cmpF i_14_7 (by unfold i32 iLO iHI; omega) (by unfold i32 iLO iHI; omega) rfl (by simp only [zC, cR]; omega) ?_
                                  refine x0 (r := (11, [some (.ref 78), some (.int (zI ((((bk * 24) + nt) * 4) + 3))), some (.int (zI ra))], [.ref 78], es44)) i_14_10 rfl ?_
                                  refine x0 (r := (12, [some (.ref 78), some (.int (zI ((((bk * 24) + nt) * 4) + 3))), some (.int (zI ra))], [.int (zI ((((bk * 24) + nt) * 4) + 3)), .ref 78], es44)) i_14_11 rfl ?_
                                  refine x0 (r := (13, [some (.ref 78), some (.int (zI ((((bk * 24) + nt) * 4) + 3))), some (.int (zI ra))], [.int (zI ra), .int (zI ((((bk * 24) + nt) * 4) + 3)), .ref 78], es44)) i_14_12 rfl ?_
                                  refine x_iast (p := 14) i_14_13 hs_es44 rfl (by unfold i32 iLO iHI; omega) (by omega) (by omega) ?_
                                  obtain ⟨es45, e_es45⟩ : ∃ z : PH, z = sA es44 14 ((((bk * 24) + nt) * 4) + 3).toNat (zI ra) := ⟨_, rfl⟩
                                  have hs_es45 : sh es45 := by rw [e_es45]; exact sh_sA hs_es44
                                  have hT_es45 : hOK tT es45 := by rw [e_es45]; exact hOK_sA hT_es44 (p := 14) (n := 288) rfl (fun _ => i32_rng _)
                                  rw [← e_es45]
                                  refine x_ret (v := none) i_14_14 rfl (fun _ => rfl) rfl rfl rfl ?_
                                  show aW _ _ _ _ _ _ (59, [some (.ref 71), some (.int (zI bk)), some (.int (zI nt)), some (.int (zI kd)), some (.int (zI fr)), some (.int (zI fi)), some (.int (zI ra)), some (.int (zI (((bk * 24) + nt) * 4)))], [], es45)
                                  refine x_ret (v := none) i_119_59 rfl (fun _ => rfl) rfl rfl rfl ?_
                                  show aW _ _ _ _ _ _ (131, [some (.ref 64), some (.int (zI bk)), some (.int (zI nt)), some (.int (zI kd)), some (.int (zI fr)), some (.int (zI fi)), some (.int (zI ra)), some (.int (zI 0))], [], es45)
                                  refine x0 (r := (132, [some (.ref 64), some (.int (zI bk)), some (.int (zI nt)), some (.int (zI kd)), some (.int (zI fr)), some (.int (zI fi)), some (.int (zI ra)), some (.int (zI 0))], [.ref 64], es45)) i_120_131 rfl ?_
                                  refine x_call (vs := [.ref 64]) (rs := []) i_120_132 rfl (fun _ => rfl) rfl rfl rfl rfl rfl (pCall_v (p := 0) hs_es45 rfl rfl rfl rfl rfl (by decide) rfl rfl rfl rfl rfl) ?_
                                  show aW _ _ _ _ _ _ (0, [some (.ref 64)], [], es45)
                                  refine x0 (r := (1, [some (.ref 64)], [.ref 64], es45)) i_73_0 rfl ?_
                                  refine x0 (r := (2, [some (.ref 64)], [.int (zI 0), .ref 64], es45)) i_73_1 (by rfl) ?_
                                  refine x_puti (p := 0) (ty := .boolean) i_73_2 hs_es45 rfl rfl rfl (Or.inr ⟨rfl, by omega⟩) ?_
                                  obtain ⟨es46, e_es46⟩ : ∃ z : PH, z = sI es45 0 10 (.int (zI 0)) := ⟨_, rfl⟩
                                  have hs_es46 : sh es46 := by rw [e_es46]; exact sh_sI hs_es45 (p := 0) (b := 10) rfl rfl
                                  have hT_es46 : hOK tT es46 := by rw [e_es46]; exact hOK_sI hT_es45 (p := 0) (b := 10) rfl rfl (by rw [zI_toInt (by unfold i32 iLO iHI; omega)]; exact ⟨by show (0 : Int) ≤ 0; omega, by show 0 ≤ (1 : Int); omega⟩)
                                  rw [← e_es46]
                                  refine x0 (r := (6, [some (.ref 64)], [.ref 64], es46)) i_73_5 rfl ?_
                                  refine x_getr (p := 0) (k := 137) i_73_6 hs_es46 rfl rfl ?_
                                  show aW _ _ _ _ _ _ (9, [some (.ref 64)], [.ref 137], es46)
                                  refine x0 (r := (10, [some (.ref 64)], [.int (zI 0), .ref 137], es46)) i_73_9 (by rfl) ?_
                                  refine x_puti (p := 73) (ty := .boolean) i_73_10 hs_es46 rfl rfl rfl (Or.inr ⟨rfl, by omega⟩) ?_
                                  obtain ⟨es47, e_es47⟩ : ∃ z : PH, z = sI es46 73 3 (.int (zI 0)) := ⟨_, rfl⟩
                                  have hs_es47 : sh es47 := by rw [e_es47]; exact sh_sI hs_es46 (p := 73) (b := 3) rfl rfl
                                  have hT_es47 : hOK tT es47 := by rw [e_es47]; exact hOK_sI hT_es46 (p := 73) (b := 3) rfl rfl (by rw [zI_toInt (by unfold i32 iLO iHI; omega)]; exact ⟨by show (0 : Int) ≤ 0; omega, by show 0 ≤ (1 : Int); omega⟩)
                                  rw [← e_es47]
                                  refine x_ret (v := none) i_73_13 rfl (fun _ => rfl) rfl rfl rfl ?_
                                  show aW _ _ _ _ _ _ (135, [some (.ref 64), some (.int (zI bk)), some (.int (zI nt)), some (.int (zI kd)), some (.int (zI fr)), some (.int (zI fi)), some (.int (zI ra)), some (.int (zI 0))], [], es47)
                                  refine x0 (r := (137, [some (.ref 64), some (.int (zI bk)), some (.int (zI nt)), some (.int (zI kd)), some (.int (zI fr)), some (.int (zI fi)), some (.int (zI ra)), some (.int (zI 0))], [.int (zI 0)], es47)) i_120_135 rfl ?_
                                  refine x_ifF i_120_137 (by unfold i32 iLO iHI; omega) rfl (by simp only [zC, cR]; omega) ?_
                                  refine x0 (r := (141, [some (.ref 64), some (.int (zI bk)), some (.int (zI nt)), some (.int (zI kd)), some (.int (zI fr)), some (.int (zI fi)), some (.int (zI ra)), some (.int (zI 0))], [.int (zI 1)], es47)) i_120_140 (by rfl) ?_
                                  refine x0 (r := (145, [some (.ref 64), some (.int (zI bk)), some (.int (zI nt)), some (.int (zI kd)), some (.int (zI fr)), some (.int (zI fi)), some (.int (zI ra)), some (.int (zI 0))], [.int (zI 1)], es47)) i_120_141 rfl ?_
                                  refine x_ret (v := some (.int (zI 1))) i_120_145 rfl (fun _ => rfl) rfl rfl (pFin_b (by omega)) ?_
                                  exact K16 c1 v2 e_v2 c3 c4 v5 e_v5 c6 c7 v8 e_v8 c9 c10 c11 c12 c13 c14 c15 v16 e_v16 c17 v24 e_v24 c25 v32 e_v32 c33 v40 e_v40 c41 es42 e_es42 es43 e_es43 es44 e_es44 es45 e_es45 es46 e_es46 es47 e_es47
                                · refine x_cmpF i_120_105 (by unfold i32 iLO iHI; omega) (by unfold i32 iLO iHI; omega) rfl (by simp only [zC, cR]; omega) ?_
                                  refine x0 (r := (109, [some (.ref 64), some (.int (zI bk)), some (.int (zI nt)), some (.int (zI kd)), some (.int (zI fr)), some (.int (zI fi)), some (.int (zI ra)), none], [.int (zI 1)], es)) i_120_108 (by rfl) ?_
                                  refine x0 (r := (113, [some (.ref 64), some (.int (zI bk)), some (.int (zI nt)), some (.int (zI kd)), some (.int (zI fr)), some (.int (zI fi)), some (.int (zI ra)), none], [.int (zI 1)], es)) i_120_109 rfl ?_
                                  refine x0 (r := (115, [some (.ref 64), some (.int (zI bk)), some (.int (zI nt)), some (.int (zI kd)), some (.int (zI fr)), some (.int (zI fi)), some (.int (zI ra)), some (.int (zI 1))], [], es)) i_120_113 rfl ?_
                                  refine x0 (r := (116, [some (.ref 64), some (.int (zI bk)), some (.int (zI nt)), some (.int (zI kd)), some (.int (zI fr)), some (.int (zI fi)), some (.int (zI ra)), some (.int (zI 1))], [.ref 64], es)) i_120_115 rfl ?_
                                  refine x_getr (p := 0) (k := 71) i_120_116 hs_es rfl rfl ?_
                                  show aW _ _ _ _ _ _ (119, [some (.ref 64), some (.int (zI bk)), some (.int (zI nt)), some (.int (zI kd)), some (.int (zI fr)), some (.int (zI fi)), some (.int (zI ra)), some (.int (zI 1))], [.ref 71], es)
                                  refine x0 (r := (120, [some (.ref 64), some (.int (zI bk)), some (.int (zI nt)), some (.int (zI kd)), some (.int (zI fr)), some (.int (zI fi)), some (.int (zI ra)), some (.int (zI 1))], [.int (zI bk), .ref 71], es)) i_120_119 rfl ?_
                                  refine x0 (r := (121, [some (.ref 64), some (.int (zI bk)), some (.int (zI nt)), some (.int (zI kd)), some (.int (zI fr)), some (.int (zI fi)), some (.int (zI ra)), some (.int (zI 1))], [.int (zI nt), .int (zI bk), .ref 71], es)) i_120_120 rfl ?_
                                  refine x0 (r := (122, [some (.ref 64), some (.int (zI bk)), some (.int (zI nt)), some (.int (zI kd)), some (.int (zI fr)), some (.int (zI fi)), some (.int (zI ra)), some (.int (zI 1))], [.int (zI kd), .int (zI nt), .int (zI bk), .ref 71], es)) i_120_121 rfl ?_
                                  refine x0 (r := (124, [some (.ref 64), some (.int (zI bk)), some (.int (zI nt)), some (.int (zI kd)), some (.int (zI fr)), some (.int (zI fi)), some (.int (zI ra)), some (.int (zI 1))], [.int (zI fr), .int (zI kd), .int (zI nt), .int (zI bk), .ref 71], es)) i_120_122 rfl ?_
                                  refine x0 (r := (126, [some (.ref 64), some (.int (zI bk)), some (.int (zI nt)), some (.int (zI kd)), some (.int (zI fr)), some (.int (zI fi)), some (.int (zI ra)), some (.int (zI 1))], [.int (zI fi), .int (zI fr), .int (zI kd), .int (zI nt), .int (zI bk), .ref 71], es)) i_120_124 rfl ?_
                                  refine x0 (r := (128, [some (.ref 64), some (.int (zI bk)), some (.int (zI nt)), some (.int (zI kd)), some (.int (zI fr)), some (.int (zI fi)), some (.int (zI ra)), some (.int (zI 1))], [.int (zI ra), .int (zI fi), .int (zI fr), .int (zI kd), .int (zI nt), .int (zI bk), .ref 71], es)) i_120_126 rfl ?_
                                  refine x_call (vs := [.ref 71, .int (zI bk), .int (zI nt), .int (zI kd), .int (zI fr), .int (zI fi), .int (zI ra)]) (rs := []) i_120_128 rfl (fun _ => rfl) rfl rfl rfl rfl rfl (pCall_v (p := 7) hs_es rfl rfl rfl rfl rfl (by decide) rfl rfl rfl rfl rfl) ?_
                                  show aW _ _ _ _ _ _ (0, [some (.ref 71), some (.int (zI bk)), some (.int (zI nt)), some (.int (zI kd)), some (.int (zI fr)), some (.int (zI fi)), some (.int (zI ra)), none], [], es)
                                  refine x0 (r := (1, [some (.ref 71), some (.int (zI bk)), some (.int (zI nt)), some (.int (zI kd)), some (.int (zI fr)), some (.int (zI fi)), some (.int (zI ra)), none], [.int (zI bk)], es)) i_119_0 rfl ?_
                                  refine x0 (r := (3, [some (.ref 71), some (.int (zI bk)), some (.int (zI nt)), some (.int (zI kd)), some (.int (zI fr)), some (.int (zI fi)), some (.int (zI ra)), none], [.int (zI 24), .int (zI bk)], es)) i_119_1 (by rfl) ?_
                                  refine x_imul i_119_3 ?_
                                  refine x0 (r := (5, [some (.ref 71), some (.int (zI bk)), some (.int (zI nt)), some (.int (zI kd)), some (.int (zI fr)), some (.int (zI fi)), some (.int (zI ra)), none], [.int (zI nt), .int (zI (bk * 24))], es)) i_119_4 rfl ?_
                                  refine x_iadd i_119_5 ?_
                                  refine x0 (r := (7, [some (.ref 71), some (.int (zI bk)), some (.int (zI nt)), some (.int (zI kd)), some (.int (zI fr)), some (.int (zI fi)), some (.int (zI ra)), none], [.int (zI 4), .int (zI ((bk * 24) + nt))], es)) i_119_6 (by rfl) ?_
                                  refine x_imul i_119_7 ?_
                                  refine x0 (r := (10, [some (.ref 71), some (.int (zI bk)), some (.int (zI nt)), some (.int (zI kd)), some (.int (zI fr)), some (.int (zI fi)), some (.int (zI ra)), some (.int (zI (((bk * 24) + nt) * 4)))], [], es)) i_119_8 rfl ?_
                                  refine x0 (r := (11, [some (.ref 71), some (.int (zI bk)), some (.int (zI nt)), some (.int (zI kd)), some (.int (zI fr)), some (.int (zI fi)), some (.int (zI ra)), some (.int (zI (((bk * 24) + nt) * 4)))], [.ref 71], es)) i_119_10 rfl ?_
                                  refine x_getr (p := 7) (k := 78) i_119_11 hs_es rfl rfl ?_
                                  show aW _ _ _ _ _ _ (14, [some (.ref 71), some (.int (zI bk)), some (.int (zI nt)), some (.int (zI kd)), some (.int (zI fr)), some (.int (zI fi)), some (.int (zI ra)), some (.int (zI (((bk * 24) + nt) * 4)))], [.ref 78], es)
                                  refine x0 (r := (16, [some (.ref 71), some (.int (zI bk)), some (.int (zI nt)), some (.int (zI kd)), some (.int (zI fr)), some (.int (zI fi)), some (.int (zI ra)), some (.int (zI (((bk * 24) + nt) * 4)))], [.int (zI (((bk * 24) + nt) * 4)), .ref 78], es)) i_119_14 rfl ?_
                                  refine x0 (r := (17, [some (.ref 71), some (.int (zI bk)), some (.int (zI nt)), some (.int (zI kd)), some (.int (zI fr)), some (.int (zI fi)), some (.int (zI ra)), some (.int (zI (((bk * 24) + nt) * 4)))], [.int (zI kd), .int (zI (((bk * 24) + nt) * 4)), .ref 78], es)) i_119_16 rfl ?_
                                  refine x_call (vs := [.ref 78, .int (zI (((bk * 24) + nt) * 4)), .int (zI kd)]) (rs := []) i_119_17 rfl (fun _ => rfl) rfl rfl rfl rfl rfl rfl ?_
                                  show aW _ _ _ _ _ _ (0, [some (.ref 78), some (.int (zI (((bk * 24) + nt) * 4))), some (.int (zI kd))], [], es)
                                  refine x0 (r := (1, [some (.ref 78), some (.int (zI (((bk * 24) + nt) * 4))), some (.int (zI kd))], [.int (zI (((bk * 24) + nt) * 4))], es)) i_14_0 rfl ?_
                                  refine x_ifF i_14_1 (by unfold i32 iLO iHI; omega) rfl (by simp only [zC, cR]; omega) ?_
                                  refine x0 (r := (5, [some (.ref 78), some (.int (zI (((bk * 24) + nt) * 4))), some (.int (zI kd))], [.int (zI (((bk * 24) + nt) * 4))], es)) i_14_4 rfl ?_
                                  refine x0 (r := (6, [some (.ref 78), some (.int (zI (((bk * 24) + nt) * 4))), some (.int (zI kd))], [.ref 78, .int (zI (((bk * 24) + nt) * 4))], es)) i_14_5 rfl ?_
                                  refine x_alen (p := 14) (n := 288) i_14_6 hs_es rfl ?_
                                  refine x_cmpF i_14_7 (by unfold i32 iLO iHI; omega) (by unfold i32 iLO iHI; omega) rfl (by simp only [zC, cR]; omega) ?_
                                  refine x0 (r := (11, [some (.ref 78), some (.int (zI (((bk * 24) + nt) * 4))), some (.int (zI kd))], [.ref 78], es)) i_14_10 rfl ?_
                                  refine x0 (r := (12, [some (.ref 78), some (.int (zI (((bk * 24) + nt) * 4))), some (.int (zI kd))], [.int (zI (((bk * 24) + nt) * 4)), .ref 78], es)) i_14_11 rfl ?_
                                  refine x0 (r := (13, [some (.ref 78), some (.int (zI (((bk * 24) + nt) * 4))), some (.int (zI kd))], [.int (zI kd), .int (zI (((bk * 24) + nt) * 4)), .ref 78], es)) i_14_12 rfl ?_
                                  refine x_iast (p := 14) i_14_13 hs_es rfl (by unfold i32 iLO iHI; omega) (by omega) (by omega) ?_
                                  obtain ⟨es48, e_es48⟩ : ∃ z : PH, z = sA es 14 (((bk * 24) + nt) * 4).toNat (zI kd) := ⟨_, rfl⟩
                                  have hs_es48 : sh es48 := by rw [e_es48]; exact sh_sA hs_es
                                  have hT_es48 : hOK tT es48 := by rw [e_es48]; exact hOK_sA hT_es (p := 14) (n := 288) rfl (fun _ => i32_rng _)
                                  rw [← e_es48]
                                  refine x_ret (v := none) i_14_14 rfl (fun _ => rfl) rfl rfl rfl ?_
                                  show aW _ _ _ _ _ _ (20, [some (.ref 71), some (.int (zI bk)), some (.int (zI nt)), some (.int (zI kd)), some (.int (zI fr)), some (.int (zI fi)), some (.int (zI ra)), some (.int (zI (((bk * 24) + nt) * 4)))], [], es48)
                                  refine x0 (r := (21, [some (.ref 71), some (.int (zI bk)), some (.int (zI nt)), some (.int (zI kd)), some (.int (zI fr)), some (.int (zI fi)), some (.int (zI ra)), some (.int (zI (((bk * 24) + nt) * 4)))], [.ref 71], es48)) i_119_20 rfl ?_
                                  refine x_getr (p := 7) (k := 78) i_119_21 hs_es48 rfl rfl ?_
                                  show aW _ _ _ _ _ _ (24, [some (.ref 71), some (.int (zI bk)), some (.int (zI nt)), some (.int (zI kd)), some (.int (zI fr)), some (.int (zI fi)), some (.int (zI ra)), some (.int (zI (((bk * 24) + nt) * 4)))], [.ref 78], es48)
                                  refine x0 (r := (26, [some (.ref 71), some (.int (zI bk)), some (.int (zI nt)), some (.int (zI kd)), some (.int (zI fr)), some (.int (zI fi)), some (.int (zI ra)), some (.int (zI (((bk * 24) + nt) * 4)))], [.int (zI (((bk * 24) + nt) * 4)), .ref 78], es48)) i_119_24 rfl ?_
                                  refine x0 (r := (27, [some (.ref 71), some (.int (zI bk)), some (.int (zI nt)), some (.int (zI kd)), some (.int (zI fr)), some (.int (zI fi)), some (.int (zI ra)), some (.int (zI (((bk * 24) + nt) * 4)))], [.int (zI 1), .int (zI (((bk * 24) + nt) * 4)), .ref 78], es48)) i_119_26 (by rfl) ?_
                                  refine x_iadd i_119_27 ?_
                                  refine x0 (r := (30, [some (.ref 71), some (.int (zI bk)), some (.int (zI nt)), some (.int (zI kd)), some (.int (zI fr)), some (.int (zI fi)), some (.int (zI ra)), some (.int (zI (((bk * 24) + nt) * 4)))], [.int (zI fr), .int (zI ((((bk * 24) + nt) * 4) + 1)), .ref 78], es48)) i_119_28 rfl ?_
                                  refine x_call (vs := [.ref 78, .int (zI ((((bk * 24) + nt) * 4) + 1)), .int (zI fr)]) (rs := []) i_119_30 rfl (fun _ => rfl) rfl rfl rfl rfl rfl rfl ?_
                                  show aW _ _ _ _ _ _ (0, [some (.ref 78), some (.int (zI ((((bk * 24) + nt) * 4) + 1))), some (.int (zI fr))], [], es48)
                                  refine x0 (r := (1, [some (.ref 78), some (.int (zI ((((bk * 24) + nt) * 4) + 1))), some (.int (zI fr))], [.int (zI ((((bk * 24) + nt) * 4) + 1))], es48)) i_14_0 rfl ?_
                                  refine x_ifF i_14_1 (by unfold i32 iLO iHI; omega) rfl (by simp only [zC, cR]; omega) ?_
                                  refine x0 (r := (5, [some (.ref 78), some (.int (zI ((((bk * 24) + nt) * 4) + 1))), some (.int (zI fr))], [.int (zI ((((bk * 24) + nt) * 4) + 1))], es48)) i_14_4 rfl ?_
                                  refine x0 (r := (6, [some (.ref 78), some (.int (zI ((((bk * 24) + nt) * 4) + 1))), some (.int (zI fr))], [.ref 78, .int (zI ((((bk * 24) + nt) * 4) + 1))], es48)) i_14_5 rfl ?_
                                  refine x_alen (p := 14) (n := 288) i_14_6 hs_es48 rfl ?_
                                  refine x_cmpF i_14_7 (by unfold i32 iLO iHI; omega) (by unfold i32 iLO iHI; omega) rfl (by simp only [zC, cR]; omega) ?_
                                  refine x0 (r := (11, [some (.ref 78), some (.int (zI ((((bk * 24) + nt) * 4) + 1))), some (.int (zI fr))], [.ref 78], es48)) i_14_10 rfl ?_
                                  refine x0 (r := (12, [some (.ref 78), some (.int (zI ((((bk * 24) + nt) * 4) + 1))), some (.int (zI fr))], [.int (zI ((((bk * 24) + nt) * 4) + 1)), .ref 78], es48)) i_14_11 rfl ?_
                                  refine x0 (r := (13, [some (.ref 78), some (.int (zI ((((bk * 24) + nt) * 4) + 1))), some (.int (zI fr))], [.int (zI fr), .int (zI ((((bk * 24) + nt) * 4) + 1)), .ref 78], es48)) i_14_12 rfl ?_
                                  refine x_iast (p := 14) i_14_13 hs_es48 rfl (by unfold i32 iLO iHI; omega) (by omega) (by omega) ?_
                                  obtain ⟨es49, e_es49⟩ : ∃ z : PH, z = sA es48 14 ((((bk * 24) + nt) * 4) + 1).toNat (zI fr) := ⟨_, rfl⟩
                                  have hs_es49 : sh es49 := by rw [e_es49]; exact sh_sA hs_es48
                                  have hT_es49 : hOK tT es49 := by rw [e_es49]; exact hOK_sA hT_es48 (p := 14) (n := 288) rfl (fun _ => i32_rng _)
                                  rw [← e_es49]
                                  refine x_ret (v := none) i_14_14 rfl (fun _ => rfl) rfl rfl rfl ?_
                                  show aW _ _ _ _ _ _ (33, [some (.ref 71), some (.int (zI bk)), some (.int (zI nt)), some (.int (zI kd)), some (.int (zI fr)), some (.int (zI fi)), some (.int (zI ra)), some (.int (zI (((bk * 24) + nt) * 4)))], [], es49)
                                  refine x0 (r := (34, [some (.ref 71), some (.int (zI bk)), some (.int (zI nt)), some (.int (zI kd)), some (.int (zI fr)), some (.int (zI fi)), some (.int (zI ra)), some (.int (zI (((bk * 24) + nt) * 4)))], [.ref 71], es49)) i_119_33 rfl ?_
                                  refine x_getr (p := 7) (k := 78) i_119_34 hs_es49 rfl rfl ?_
                                  show aW _ _ _ _ _ _ (37, [some (.ref 71), some (.int (zI bk)), some (.int (zI nt)), some (.int (zI kd)), some (.int (zI fr)), some (.int (zI fi)), some (.int (zI ra)), some (.int (zI (((bk * 24) + nt) * 4)))], [.ref 78], es49)
                                  refine x0 (r := (39, [some (.ref 71), some (.int (zI bk)), some (.int (zI nt)), some (.int (zI kd)), some (.int (zI fr)), some (.int (zI fi)), some (.int (zI ra)), some (.int (zI (((bk * 24) + nt) * 4)))], [.int (zI (((bk * 24) + nt) * 4)), .ref 78], es49)) i_119_37 rfl ?_
                                  refine x0 (r := (40, [some (.ref 71), some (.int (zI bk)), some (.int (zI nt)), some (.int (zI kd)), some (.int (zI fr)), some (.int (zI fi)), some (.int (zI ra)), some (.int (zI (((bk * 24) + nt) * 4)))], [.int (zI 2), .int (zI (((bk * 24) + nt) * 4)), .ref 78], es49)) i_119_39 (by rfl) ?_
                                  refine x_iadd i_119_40 ?_
                                  refine x0 (r := (43, [some (.ref 71), some (.int (zI bk)), some (.int (zI nt)), some (.int (zI kd)), some (.int (zI fr)), some (.int (zI fi)), some (.int (zI ra)), some (.int (zI (((bk * 24) + nt) * 4)))], [.int (zI fi), .int (zI ((((bk * 24) + nt) * 4) + 2)), .ref 78], es49)) i_119_41 rfl ?_
                                  refine x_call (vs := [.ref 78, .int (zI ((((bk * 24) + nt) * 4) + 2)), .int (zI fi)]) (rs := []) i_119_43 rfl (fun _ => rfl) rfl rfl rfl rfl rfl rfl ?_
                                  show aW _ _ _ _ _ _ (0, [some (.ref 78), some (.int (zI ((((bk * 24) + nt) * 4) + 2))), some (.int (zI fi))], [], es49)
                                  refine x0 (r := (1, [some (.ref 78), some (.int (zI ((((bk * 24) + nt) * 4) + 2))), some (.int (zI fi))], [.int (zI ((((bk * 24) + nt) * 4) + 2))], es49)) i_14_0 rfl ?_
                                  refine x_ifF i_14_1 (by unfold i32 iLO iHI; omega) rfl (by simp only [zC, cR]; omega) ?_
                                  refine x0 (r := (5, [some (.ref 78), some (.int (zI ((((bk * 24) + nt) * 4) + 2))), some (.int (zI fi))], [.int (zI ((((bk * 24) + nt) * 4) + 2))], es49)) i_14_4 rfl ?_
                                  refine x0 (r := (6, [some (.ref 78), some (.int (zI ((((bk * 24) + nt) * 4) + 2))), some (.int (zI fi))], [.ref 78, .int (zI ((((bk * 24) + nt) * 4) + 2))], es49)) i_14_5 rfl ?_
                                  refine x_alen (p := 14) (n := 288) i_14_6 hs_es49 rfl ?_
                                  refine x_cmpF i_14_7 (by unfold i32 iLO iHI; omega) (by unfold i32 iLO iHI; omega) rfl (by simp only [zC, cR]; omega) ?_
                                  refine x0 (r := (11, [some (.ref 78), some (.int (zI ((((bk * 24) + nt) * 4) + 2))), some (.int (zI fi))], [.ref 78], es49)) i_14_10 rfl ?_
                                  refine x0 (r := (12, [some (.ref 78), some (.int (zI ((((bk * 24) + nt) * 4) + 2))), some (.int (zI fi))], [.int (zI ((((bk * 24) + nt) * 4) + 2)), .ref 78], es49)) i_14_11 rfl ?_
                                  refine x0 (r := (13, [some (.ref 78), some (.int (zI ((((bk * 24) + nt) * 4) + 2))), some (.int (zI fi))], [.int (zI fi), .int (zI ((((bk * 24) + nt) * 4) + 2)), .ref 78], es49)) i_14_12 rfl ?_
                                  refine x_iast (p := 14) i_14_13 hs_es49 rfl (by unfold i32 iLO iHI; omega) (by omega) (by omega) ?_
                                  obtain ⟨es50, e_es50⟩ : ∃ z : PH, z = sA es49 14 ((((bk * 24) + nt) * 4) + 2).toNat (zI fi) := ⟨_, rfl⟩
                                  have hs_es50 : sh es50 := by rw [e_es50]; exact sh_sA hs_es49
                                  have hT_es50 : hOK tT es50 := by rw [e_es50]; exact hOK_sA hT_es49 (p := 14) (n := 288) rfl (fun _ => i32_rng _)
                                  rw [← e_es50]
                                  refine x_ret (v := none) i_14_14 rfl (fun _ => rfl) rfl rfl rfl ?_
                                  show aW _ _ _ _ _ _ (46, [some (.ref 71), some (.int (zI bk)), some (.int (zI nt)), some (.int (zI kd)), some (.int (zI fr)), some (.int (zI fi)), some (.int (zI ra)), some (.int (zI (((bk * 24) + nt) * 4)))], [], es50)
                                  refine x0 (r := (47, [some (.ref 71), some (.int (zI bk)), some (.int (zI nt)), some (.int (zI kd)), some (.int (zI fr)), some (.int (zI fi)), some (.int (zI ra)), some (.int (zI (((bk * 24) + nt) * 4)))], [.ref 71], es50)) i_119_46 rfl ?_
                                  refine x_getr (p := 7) (k := 78) i_119_47 hs_es50 rfl rfl ?_
                                  show aW _ _ _ _ _ _ (50, [some (.ref 71), some (.int (zI bk)), some (.int (zI nt)), some (.int (zI kd)), some (.int (zI fr)), some (.int (zI fi)), some (.int (zI ra)), some (.int (zI (((bk * 24) + nt) * 4)))], [.ref 78], es50)
                                  refine x0 (r := (52, [some (.ref 71), some (.int (zI bk)), some (.int (zI nt)), some (.int (zI kd)), some (.int (zI fr)), some (.int (zI fi)), some (.int (zI ra)), some (.int (zI (((bk * 24) + nt) * 4)))], [.int (zI (((bk * 24) + nt) * 4)), .ref 78], es50)) i_119_50 rfl ?_
                                  refine x0 (r := (53, [some (.ref 71), some (.int (zI bk)), some (.int (zI nt)), some (.int (zI kd)), some (.int (zI fr)), some (.int (zI fi)), some (.int (zI ra)), some (.int (zI (((bk * 24) + nt) * 4)))], [.int (zI 3), .int (zI (((bk * 24) + nt) * 4)), .ref 78], es50)) i_119_52 (by rfl) ?_
                                  refine x_iadd i_119_53 ?_
                                  refine x0 (r := (56, [some (.ref 71), some (.int (zI bk)), some (.int (zI nt)), some (.int (zI kd)), some (.int (zI fr)), some (.int (zI fi)), some (.int (zI ra)), some (.int (zI (((bk * 24) + nt) * 4)))], [.int (zI ra), .int (zI ((((bk * 24) + nt) * 4) + 3)), .ref 78], es50)) i_119_54 rfl ?_
                                  refine x_call (vs := [.ref 78, .int (zI ((((bk * 24) + nt) * 4) + 3)), .int (zI ra)]) (rs := []) i_119_56 rfl (fun _ => rfl) rfl rfl rfl rfl rfl rfl ?_
                                  show aW _ _ _ _ _ _ (0, [some (.ref 78), some (.int (zI ((((bk * 24) + nt) * 4) + 3))), some (.int (zI ra))], [], es50)
                                  refine x0 (r := (1, [some (.ref 78), some (.int (zI ((((bk * 24) + nt) * 4) + 3))), some (.int (zI ra))], [.int (zI ((((bk * 24) + nt) * 4) + 3))], es50)) i_14_0 rfl ?_
                                  refine x_ifF i_14_1 (by unfold i32 iLO iHI; omega) rfl (by simp only [zC, cR]; omega) ?_
                                  refine x0 (r := (5, [some (.ref 78), some (.int (zI ((((bk * 24) + nt) * 4) + 3))), some (.int (zI ra))], [.int (zI ((((bk * 24) + nt) * 4) + 3))], es50)) i_14_4 rfl ?_
                                  refine x0 (r := (6, [some (.ref 78), some (.int (zI ((((bk * 24) + nt) * 4) + 3))), some (.int (zI ra))], [.ref 78, .int (zI ((((bk * 24) + nt) * 4) + 3))], es50)) i_14_5 rfl ?_
                                  refine x_alen (p := 14) (n := 288) i_14_6 hs_es50 rfl ?_
                                  refine x_cmpF i_14_7 (by unfold i32 iLO iHI; omega) (by unfold i32 iLO iHI; omega) rfl (by simp only [zC, cR]; omega) ?_
                                  refine x0 (r := (11, [some (.ref 78), some (.int (zI ((((bk * 24) + nt) * 4) + 3))), some (.int (zI ra))], [.ref 78], es50)) i_14_10 rfl ?_
                                  refine x0 (r := (12, [some (.ref 78), some (.int (zI ((((bk * 24) + nt) * 4) + 3))), some (.int (zI ra))], [.int (zI ((((bk * 24) + nt) * 4) + 3)), .ref 78], es50)) i_14_11 rfl ?_
                                  refine x0 (r := (13, [some (.ref 78), some (.int (zI ((((bk * 24) + nt) * 4) + 3))), some (.int (zI ra))], [.int (zI ra), .int (zI ((((bk * 24) + nt) * 4) + 3)), .ref 78], es50)) i_14_12 rfl ?_
                                  refine x_iast (p := 14) i_14_13 hs_es50 rfl (by unfold i32 iLO iHI; omega) (by omega) (by omega) ?_
                                  obtain ⟨es51, e_es51⟩ : ∃ z : PH, z = sA es50 14 ((((bk * 24) + nt) * 4) + 3).toNat (zI ra) := ⟨_, rfl⟩
                                  have hs_es51 : sh es51 := by rw [e_es51]; exact sh_sA hs_es50
                                  have hT_es51 : hOK tT es51 := by rw [e_es51]; exact hOK_sA hT_es50 (p := 14) (n := 288) rfl (fun _ => i32_rng _)
                                  rw [← e_es51]
                                  refine x_ret (v := none) i_14_14 rfl (fun _ => rfl) rfl rfl rfl ?_
                                  show aW _ _ _ _ _ _ (59, [some (.ref 71), some (.int (zI bk)), some (.int (zI nt)), some (.int (zI kd)), some (.int (zI fr)), some (.int (zI fi)), some (.int (zI ra)), some (.int (zI (((bk * 24) + nt) * 4)))], [], es51)
                                  refine x_ret (v := none) i_119_59 rfl (fun _ => rfl) rfl rfl rfl ?_
                                  show aW _ _ _ _ _ _ (131, [some (.ref 64), some (.int (zI bk)), some (.int (zI nt)), some (.int (zI kd)), some (.int (zI fr)), some (.int (zI fi)), some (.int (zI ra)), some (.int (zI 1))], [], es51)
                                  refine x0 (r := (132, [some (.ref 64), some (.int (zI bk)), some (.int (zI nt)), some (.int (zI kd)), some (.int (zI fr)), some (.int (zI fi)), some (.int (zI ra)), some (.int (zI 1))], [.ref 64], es51)) i_120_131 rfl ?_
                                  refine x_call (vs := [.ref 64]) (rs := []) i_120_132 rfl (fun _ => rfl) rfl rfl rfl rfl rfl (pCall_v (p := 0) hs_es51 rfl rfl rfl rfl rfl (by decide) rfl rfl rfl rfl rfl) ?_
                                  show aW _ _ _ _ _ _ (0, [some (.ref 64)], [], es51)
                                  refine x0 (r := (1, [some (.ref 64)], [.ref 64], es51)) i_73_0 rfl ?_
                                  refine x0 (r := (2, [some (.ref 64)], [.int (zI 0), .ref 64], es51)) i_73_1 (by rfl) ?_
                                  refine x_puti (p := 0) (ty := .boolean) i_73_2 hs_es51 rfl rfl rfl (Or.inr ⟨rfl, by omega⟩) ?_
                                  obtain ⟨es52, e_es52⟩ : ∃ z : PH, z = sI es51 0 10 (.int (zI 0)) := ⟨_, rfl⟩
                                  have hs_es52 : sh es52 := by rw [e_es52]; exact sh_sI hs_es51 (p := 0) (b := 10) rfl rfl
                                  have hT_es52 : hOK tT es52 := by rw [e_es52]; exact hOK_sI hT_es51 (p := 0) (b := 10) rfl rfl (by rw [zI_toInt (by unfold i32 iLO iHI; omega)]; exact ⟨by show (0 : Int) ≤ 0; omega, by show 0 ≤ (1 : Int); omega⟩)
                                  rw [← e_es52]
                                  refine x0 (r := (6, [some (.ref 64)], [.ref 64], es52)) i_73_5 rfl ?_
                                  refine x_getr (p := 0) (k := 137) i_73_6 hs_es52 rfl rfl ?_
                                  show aW _ _ _ _ _ _ (9, [some (.ref 64)], [.ref 137], es52)
                                  refine x0 (r := (10, [some (.ref 64)], [.int (zI 0), .ref 137], es52)) i_73_9 (by rfl) ?_
                                  refine x_puti (p := 73) (ty := .boolean) i_73_10 hs_es52 rfl rfl rfl (Or.inr ⟨rfl, by omega⟩) ?_
                                  obtain ⟨es53, e_es53⟩ : ∃ z : PH, z = sI es52 73 3 (.int (zI 0)) := ⟨_, rfl⟩
                                  have hs_es53 : sh es53 := by rw [e_es53]; exact sh_sI hs_es52 (p := 73) (b := 3) rfl rfl
                                  have hT_es53 : hOK tT es53 := by rw [e_es53]; exact hOK_sI hT_es52 (p := 73) (b := 3) rfl rfl (by rw [zI_toInt (by unfold i32 iLO iHI; omega)]; exact ⟨by show (0 : Int) ≤ 0; omega, by show 0 ≤ (1 : Int); omega⟩)
                                  rw [← e_es53]
                                  refine x_ret (v := none) i_73_13 rfl (fun _ => rfl) rfl rfl rfl ?_
                                  show aW _ _ _ _ _ _ (135, [some (.ref 64), some (.int (zI bk)), some (.int (zI nt)), some (.int (zI kd)), some (.int (zI fr)), some (.int (zI fi)), some (.int (zI ra)), some (.int (zI 1))], [], es53)
                                  refine x0 (r := (137, [some (.ref 64), some (.int (zI bk)), some (.int (zI nt)), some (.int (zI kd)), some (.int (zI fr)), some (.int (zI fi)), some (.int (zI ra)), some (.int (zI 1))], [.int (zI 1)], es53)) i_120_135 rfl ?_
                                  refine x_ifT i_120_137 (by unfold i32 iLO iHI; omega) rfl (by simp only [zC, cR]; omega) ?_
                                  refine x0 (r := (145, [some (.ref 64), some (.int (zI bk)), some (.int (zI nt)), some (.int (zI kd)), some (.int (zI fr)), some (.int (zI fi)), some (.int (zI ra)), some (.int (zI 1))], [.int (zI 0)], es53)) i_120_144 (by rfl) ?_
                                  refine x_ret (v := some (.int (zI 0))) i_120_145 rfl (fun _ => rfl) rfl rfl (pFin_b (by omega)) ?_
                                  exact K17 c1 v2 e_v2 c3 c4 v5 e_v5 c6 c7 v8 e_v8 c9 c10 c11 c12 c13 c14 c15 v16 e_v16 c17 v24 e_v24 c25 v32 e_v32 c33 v40 e_v40 c41 es48 e_es48 es49 e_es49 es50 e_es50 es51 e_es51 es52 e_es52 es53 e_es53
def chgxP (bk : Int) (nt : Int) (kd : Int) (fr : Int) (fi : Int) (ra : Int) (es : PH) (r : Option Value ⊕ Nat) (es1 : PH) : Prop := sh es1 ∧ True ∧ ((r = .inr 2 ∧ (bk < 0 ∨ (gI es 7 5).toInt ≤ bk ∨ nt < 0 ∨ (gA es 13 bk.toNat).toInt ≤ nt ∨ kd < 0 ∨ (gI es 7 0).toInt ≤ kd) ∧ es1 = es) ∨ (r = .inr 0 ∧ ((0 ≤ bk ∧ bk < (gI es 7 5).toInt ∧ 0 ≤ nt ∧ nt < (gA es 13 bk.toNat).toInt ∧ 0 ≤ kd ∧ kd < (gI es 7 0).toInt) ∧ (fr < -1 ∨ 5 < fr ∨ fi < 0 ∨ 5 < fi ∨ ra < 0 ∨ 5 < ra)) ∧ es1 = es) ∨ (r = .inl (some (.int (zI 1))) ∧ (((0 ≤ bk ∧ bk < (gI es 7 5).toInt ∧ 0 ≤ nt ∧ nt < (gA es 13 bk.toNat).toInt ∧ 0 ≤ kd ∧ kd < (gI es 7 0).toInt) ∧ (-1 ≤ fr ∧ fr ≤ 5 ∧ 0 ≤ fi ∧ fi ≤ 5 ∧ 0 ≤ ra ∧ ra ≤ 5)) ∧ ((gA es 14 ((((bk * 24) + nt) * 4) + 0).toNat).toInt ≠ kd ∨ (gA es 14 ((((bk * 24) + nt) * 4) + 1).toNat).toInt ≠ fr ∨ (gA es 14 ((((bk * 24) + nt) * 4) + 2).toNat).toInt ≠ fi ∨ (gA es 14 ((((bk * 24) + nt) * 4) + 3).toNat).toInt ≠ ra)) ∧ gA es1 14 = upd (upd (upd (upd (gA es 14) (((bk * 24) + nt) * 4).toNat (zI kd)) ((((bk * 24) + nt) * 4) + 1).toNat (zI fr)) ((((bk * 24) + nt) * 4) + 2).toNat (zI fi)) ((((bk * 24) + nt) * 4) + 3).toNat (zI ra)) ∨ (r = .inl (some (.int (zI 0))) ∧ (((0 ≤ bk ∧ bk < (gI es 7 5).toInt ∧ 0 ≤ nt ∧ nt < (gA es 13 bk.toNat).toInt ∧ 0 ≤ kd ∧ kd < (gI es 7 0).toInt) ∧ (-1 ≤ fr ∧ fr ≤ 5 ∧ 0 ≤ fi ∧ fi ≤ 5 ∧ 0 ≤ ra ∧ ra ≤ 5)) ∧ ((gA es 14 ((((bk * 24) + nt) * 4) + 0).toNat).toInt = kd ∧ (gA es 14 ((((bk * 24) + nt) * 4) + 1).toNat).toInt = fr ∧ (gA es 14 ((((bk * 24) + nt) * 4) + 2).toNat).toInt = fi ∧ (gA es 14 ((((bk * 24) + nt) * 4) + 3).toNat).toInt = ra)) ∧ gA es1 14 = upd (upd (upd (upd (gA es 14) (((bk * 24) + nt) * 4).toNat (zI kd)) ((((bk * 24) + nt) * 4) + 1).toNat (zI fr)) ((((bk * 24) + nt) * 4) + 2).toNat (zI fi)) ((((bk * 24) + nt) * 4) + 3).toNat (zI ra)))
theorem fn_chgx {O : pOut} {d : Nat} {es : PH} {bk nt kd fr fi ra : Int} (h_bk : i32 bk) (h_nt : i32 nt) (h_kd : i32 kd) (h_fr : i32 fr) (h_fi : i32 fi) (h_ra : i32 ra) (hT : hOK tT es) : aW O (d + 3) 120 0 0 (fun o => chgxP bk nt kd fr fi ra es o.1 o.2.1) (0, [some (.ref 64), some (.int (zI bk)), some (.int (zI nt)), some (.int (zI kd)), some (.int (zI fr)), some (.int (zI fi)), some (.int (zI ra)), none], [], es) := by
  have hs_es := sh_of hT
  have hB : 0 ≤ (gI es 7 5).toInt ∧ (gI es 7 5).toInt ≤ 3 := gI_bd hT (p := 7) (b := 5) rfl rfl
  have hC : bk < 0 ∨ 2 < bk ∨ (0 ≤ (gA es 13 bk.toNat).toInt ∧ (gA es 13 bk.toNat).toInt ≤ 24) := by
    by_cases h1 : 0 ≤ bk ∧ bk ≤ 2
    · exact Or.inr (Or.inr (gA_bd hT (p := 13) (t := 0) (n := 3) (k := bk.toNat) rfl (by omega) (by decide)))
    · omega
  refine s_xchg (d := d) (kc := 0) (ks := 0) hs_es h_bk h_nt h_kd h_fr h_fi h_ra hT (fun c1 => ?_) (fun c1 v2 e_v2 c3 => ?_) (fun c1 v2 e_v2 c3 c4 => ?_) (fun c1 v2 e_v2 c3 c4 v5 e_v5 c6 => ?_) (fun c1 v2 e_v2 c3 c4 v5 e_v5 c6 c7 => ?_) (fun c1 v2 e_v2 c3 c4 v5 e_v5 c6 c7 v8 e_v8 c9 => ?_) (fun c1 v2 e_v2 c3 c4 v5 e_v5 c6 c7 v8 e_v8 c9 c10 => ?_) (fun c1 v2 e_v2 c3 c4 v5 e_v5 c6 c7 v8 e_v8 c9 c10 c11 => ?_) (fun c1 v2 e_v2 c3 c4 v5 e_v5 c6 c7 v8 e_v8 c9 c10 c11 c12 => ?_) (fun c1 v2 e_v2 c3 c4 v5 e_v5 c6 c7 v8 e_v8 c9 c10 c11 c12 c13 => ?_) (fun c1 v2 e_v2 c3 c4 v5 e_v5 c6 c7 v8 e_v8 c9 c10 c11 c12 c13 c14 => ?_) (fun c1 v2 e_v2 c3 c4 v5 e_v5 c6 c7 v8 e_v8 c9 c10 c11 c12 c13 c14 c15 => ?_) (fun c1 v2 e_v2 c3 c4 v5 e_v5 c6 c7 v8 e_v8 c9 c10 c11 c12 c13 c14 c15 v16 e_v16 c17 es18 e_es18 es19 e_es19 es20 e_es20 es21 e_es21 es22 e_es22 es23 e_es23 => ?_) (fun c1 v2 e_v2 c3 c4 v5 e_v5 c6 c7 v8 e_v8 c9 c10 c11 c12 c13 c14 c15 v16 e_v16 c17 v24 e_v24 c25 es26 e_es26 es27 e_es27 es28 e_es28 es29 e_es29 es30 e_es30 es31 e_es31 => ?_) (fun c1 v2 e_v2 c3 c4 v5 e_v5 c6 c7 v8 e_v8 c9 c10 c11 c12 c13 c14 c15 v16 e_v16 c17 v24 e_v24 c25 v32 e_v32 c33 es34 e_es34 es35 e_es35 es36 e_es36 es37 e_es37 es38 e_es38 es39 e_es39 => ?_) (fun c1 v2 e_v2 c3 c4 v5 e_v5 c6 c7 v8 e_v8 c9 c10 c11 c12 c13 c14 c15 v16 e_v16 c17 v24 e_v24 c25 v32 e_v32 c33 v40 e_v40 c41 es42 e_es42 es43 e_es43 es44 e_es44 es45 e_es45 es46 e_es46 es47 e_es47 => ?_) (fun c1 v2 e_v2 c3 c4 v5 e_v5 c6 c7 v8 e_v8 c9 c10 c11 c12 c13 c14 c15 v16 e_v16 c17 v24 e_v24 c25 v32 e_v32 c33 v40 e_v40 c41 es48 e_es48 es49 e_es49 es50 e_es50 es51 e_es51 es52 e_es52 es53 e_es53 => ?_)
  · exact ⟨hs_es, trivial, Or.inl ⟨rfl, by omega, rfl⟩⟩
  · exact ⟨hs_es, trivial, Or.inl ⟨rfl, by omega, rfl⟩⟩
  · exact ⟨hs_es, trivial, Or.inl ⟨rfl, by omega, rfl⟩⟩
  · exact ⟨hs_es, trivial, Or.inl ⟨rfl, by omega, rfl⟩⟩
  · exact ⟨hs_es, trivial, Or.inl ⟨rfl, by omega, rfl⟩⟩
  · exact ⟨hs_es, trivial, Or.inl ⟨rfl, by omega, rfl⟩⟩
  · exact ⟨hs_es, trivial, Or.inr (Or.inl ⟨rfl, by omega, rfl⟩)⟩
  · exact ⟨hs_es, trivial, Or.inr (Or.inl ⟨rfl, by omega, rfl⟩)⟩
  · exact ⟨hs_es, trivial, Or.inr (Or.inl ⟨rfl, by omega, rfl⟩)⟩
  · exact ⟨hs_es, trivial, Or.inr (Or.inl ⟨rfl, by omega, rfl⟩)⟩
  · exact ⟨hs_es, trivial, Or.inr (Or.inl ⟨rfl, by omega, rfl⟩)⟩
  · exact ⟨hs_es, trivial, Or.inr (Or.inl ⟨rfl, by omega, rfl⟩)⟩
  · have hs_es18 : sh es18 := by rw [e_es18]; exact sh_sA hs_es
    have hs_es19 : sh es19 := by rw [e_es19]; exact sh_sA hs_es18
    have hs_es20 : sh es20 := by rw [e_es20]; exact sh_sA hs_es19
    have hs_es21 : sh es21 := by rw [e_es21]; exact sh_sA hs_es20
    have hs_es22 : sh es22 := by rw [e_es22]; exact sh_sI hs_es21 (p := 0) (b := 10) rfl rfl
    have hs_es23 : sh es23 := by rw [e_es23]; exact sh_sI hs_es22 (p := 73) (b := 3) rfl rfl
    exact ⟨hs_es23, trivial, Or.inr (Or.inr (Or.inl ⟨rfl, by omega, by show gA es23 14 = _; rw [e_es23, gA_sI, e_es22, gA_sI, e_es21, gA_sA hs_es20 (p := 14) (t := 0) (n := 288) rfl (by decide), e_es20, gA_sA hs_es19 (p := 14) (t := 0) (n := 288) rfl (by decide), e_es19, gA_sA hs_es18 (p := 14) (t := 0) (n := 288) rfl (by decide), e_es18, gA_sA hs_es (p := 14) (t := 0) (n := 288) rfl (by decide)]⟩))⟩
  · have hs_es26 : sh es26 := by rw [e_es26]; exact sh_sA hs_es
    have hs_es27 : sh es27 := by rw [e_es27]; exact sh_sA hs_es26
    have hs_es28 : sh es28 := by rw [e_es28]; exact sh_sA hs_es27
    have hs_es29 : sh es29 := by rw [e_es29]; exact sh_sA hs_es28
    have hs_es30 : sh es30 := by rw [e_es30]; exact sh_sI hs_es29 (p := 0) (b := 10) rfl rfl
    have hs_es31 : sh es31 := by rw [e_es31]; exact sh_sI hs_es30 (p := 73) (b := 3) rfl rfl
    exact ⟨hs_es31, trivial, Or.inr (Or.inr (Or.inl ⟨rfl, by omega, by show gA es31 14 = _; rw [e_es31, gA_sI, e_es30, gA_sI, e_es29, gA_sA hs_es28 (p := 14) (t := 0) (n := 288) rfl (by decide), e_es28, gA_sA hs_es27 (p := 14) (t := 0) (n := 288) rfl (by decide), e_es27, gA_sA hs_es26 (p := 14) (t := 0) (n := 288) rfl (by decide), e_es26, gA_sA hs_es (p := 14) (t := 0) (n := 288) rfl (by decide)]⟩))⟩
  · have hs_es34 : sh es34 := by rw [e_es34]; exact sh_sA hs_es
    have hs_es35 : sh es35 := by rw [e_es35]; exact sh_sA hs_es34
    have hs_es36 : sh es36 := by rw [e_es36]; exact sh_sA hs_es35
    have hs_es37 : sh es37 := by rw [e_es37]; exact sh_sA hs_es36
    have hs_es38 : sh es38 := by rw [e_es38]; exact sh_sI hs_es37 (p := 0) (b := 10) rfl rfl
    have hs_es39 : sh es39 := by rw [e_es39]; exact sh_sI hs_es38 (p := 73) (b := 3) rfl rfl
    exact ⟨hs_es39, trivial, Or.inr (Or.inr (Or.inl ⟨rfl, by omega, by show gA es39 14 = _; rw [e_es39, gA_sI, e_es38, gA_sI, e_es37, gA_sA hs_es36 (p := 14) (t := 0) (n := 288) rfl (by decide), e_es36, gA_sA hs_es35 (p := 14) (t := 0) (n := 288) rfl (by decide), e_es35, gA_sA hs_es34 (p := 14) (t := 0) (n := 288) rfl (by decide), e_es34, gA_sA hs_es (p := 14) (t := 0) (n := 288) rfl (by decide)]⟩))⟩
  · have hs_es42 : sh es42 := by rw [e_es42]; exact sh_sA hs_es
    have hs_es43 : sh es43 := by rw [e_es43]; exact sh_sA hs_es42
    have hs_es44 : sh es44 := by rw [e_es44]; exact sh_sA hs_es43
    have hs_es45 : sh es45 := by rw [e_es45]; exact sh_sA hs_es44
    have hs_es46 : sh es46 := by rw [e_es46]; exact sh_sI hs_es45 (p := 0) (b := 10) rfl rfl
    have hs_es47 : sh es47 := by rw [e_es47]; exact sh_sI hs_es46 (p := 73) (b := 3) rfl rfl
    exact ⟨hs_es47, trivial, Or.inr (Or.inr (Or.inl ⟨rfl, by omega, by show gA es47 14 = _; rw [e_es47, gA_sI, e_es46, gA_sI, e_es45, gA_sA hs_es44 (p := 14) (t := 0) (n := 288) rfl (by decide), e_es44, gA_sA hs_es43 (p := 14) (t := 0) (n := 288) rfl (by decide), e_es43, gA_sA hs_es42 (p := 14) (t := 0) (n := 288) rfl (by decide), e_es42, gA_sA hs_es (p := 14) (t := 0) (n := 288) rfl (by decide)]⟩))⟩
  · have hs_es48 : sh es48 := by rw [e_es48]; exact sh_sA hs_es
    have hs_es49 : sh es49 := by rw [e_es49]; exact sh_sA hs_es48
    have hs_es50 : sh es50 := by rw [e_es50]; exact sh_sA hs_es49
    have hs_es51 : sh es51 := by rw [e_es51]; exact sh_sA hs_es50
    have hs_es52 : sh es52 := by rw [e_es52]; exact sh_sI hs_es51 (p := 0) (b := 10) rfl rfl
    have hs_es53 : sh es53 := by rw [e_es53]; exact sh_sI hs_es52 (p := 73) (b := 3) rfl rfl
    exact ⟨hs_es53, trivial, Or.inr (Or.inr (Or.inr (⟨rfl, by omega, by show gA es53 14 = _; rw [e_es53, gA_sI, e_es52, gA_sI, e_es51, gA_sA hs_es50 (p := 14) (t := 0) (n := 288) rfl (by decide), e_es50, gA_sA hs_es49 (p := 14) (t := 0) (n := 288) rfl (by decide), e_es49, gA_sA hs_es48 (p := 14) (t := 0) (n := 288) rfl (by decide), e_es48, gA_sA hs_es (p := 14) (t := 0) (n := 288) rfl (by decide)]⟩)))⟩
def chgyP (bk : Int) (nt : Int) (kd : Int) (fr : Int) (fi : Int) (ra : Int) (es : PH) (r : Option Value ⊕ Nat) (es1 : PH) : Prop := sh es1 ∧ True ∧ ∃ k : Int, r = .inl (some (.int (zI k))) ∧ ((k = 1 ∧ (bk < 0 ∨ (gI es 7 5).toInt ≤ bk ∨ nt < 0 ∨ (gA es 13 bk.toNat).toInt ≤ nt ∨ kd < 0 ∨ (gI es 7 0).toInt ≤ kd) ∧ es1 = es) ∨ (k = 2 ∧ ((0 ≤ bk ∧ bk < (gI es 7 5).toInt ∧ 0 ≤ nt ∧ nt < (gA es 13 bk.toNat).toInt ∧ 0 ≤ kd ∧ kd < (gI es 7 0).toInt) ∧ (fr < -1 ∨ 5 < fr ∨ fi < 0 ∨ 5 < fi ∨ ra < 0 ∨ 5 < ra)) ∧ es1 = es) ∨ (k = 0 ∧ (((0 ≤ bk ∧ bk < (gI es 7 5).toInt ∧ 0 ≤ nt ∧ nt < (gA es 13 bk.toNat).toInt ∧ 0 ≤ kd ∧ kd < (gI es 7 0).toInt) ∧ (-1 ≤ fr ∧ fr ≤ 5 ∧ 0 ≤ fi ∧ fi ≤ 5 ∧ 0 ≤ ra ∧ ra ≤ 5)) ∧ ((gA es 14 ((((bk * 24) + nt) * 4) + 0).toNat).toInt ≠ kd ∨ (gA es 14 ((((bk * 24) + nt) * 4) + 1).toNat).toInt ≠ fr ∨ (gA es 14 ((((bk * 24) + nt) * 4) + 2).toNat).toInt ≠ fi ∨ (gA es 14 ((((bk * 24) + nt) * 4) + 3).toNat).toInt ≠ ra)) ∧ gA es1 14 = upd (upd (upd (upd (gA es 14) (((bk * 24) + nt) * 4).toNat (zI kd)) ((((bk * 24) + nt) * 4) + 1).toNat (zI fr)) ((((bk * 24) + nt) * 4) + 2).toNat (zI fi)) ((((bk * 24) + nt) * 4) + 3).toNat (zI ra) ∧ (gJ es1 107 (Int.toNat 0)).toInt = 1) ∨ (k = 0 ∧ (((0 ≤ bk ∧ bk < (gI es 7 5).toInt ∧ 0 ≤ nt ∧ nt < (gA es 13 bk.toNat).toInt ∧ 0 ≤ kd ∧ kd < (gI es 7 0).toInt) ∧ (-1 ≤ fr ∧ fr ≤ 5 ∧ 0 ≤ fi ∧ fi ≤ 5 ∧ 0 ≤ ra ∧ ra ≤ 5)) ∧ ((gA es 14 ((((bk * 24) + nt) * 4) + 0).toNat).toInt = kd ∧ (gA es 14 ((((bk * 24) + nt) * 4) + 1).toNat).toInt = fr ∧ (gA es 14 ((((bk * 24) + nt) * 4) + 2).toNat).toInt = fi ∧ (gA es 14 ((((bk * 24) + nt) * 4) + 3).toNat).toInt = ra)) ∧ gA es1 14 = upd (upd (upd (upd (gA es 14) (((bk * 24) + nt) * 4).toNat (zI kd)) ((((bk * 24) + nt) * 4) + 1).toNat (zI fr)) ((((bk * 24) + nt) * 4) + 2).toNat (zI fi)) ((((bk * 24) + nt) * 4) + 3).toNat (zI ra) ∧ (gJ es1 107 (Int.toNat 0)).toInt = 0))
theorem s_chgy0 {O : pOut} {d kc ks : Nat} {Q : pRes → Prop} {es : PH} {bk nt kd fr fi ra : Int} (hs_es : sh es)
    (K1 : aW O d 283 kc ks Q (13, [some (.ref 64), some (.int (zI bk)), some (.int (zI nt)), some (.int (zI kd)), some (.int (zI fr)), some (.int (zI fi)), some (.int (zI ra)), some (.ref 171), none], [.int (zI ra), .int (zI fi), .int (zI fr), .int (zI kd), .int (zI nt), .int (zI bk), .ref 64, .int (zI 0), .ref 171], es)) :
    aW O d 283 kc ks Q (0, [some (.ref 64), some (.int (zI bk)), some (.int (zI nt)), some (.int (zI kd)), some (.int (zI fr)), some (.int (zI fi)), some (.int (zI ra)), some (.ref 171), none], [], es) := by
  refine x0 (r := (2, [some (.ref 64), some (.int (zI bk)), some (.int (zI nt)), some (.int (zI kd)), some (.int (zI fr)), some (.int (zI fi)), some (.int (zI ra)), some (.ref 171), none], [.ref 171], es)) i_283_0 rfl ?_
  refine x0 (r := (3, [some (.ref 64), some (.int (zI bk)), some (.int (zI nt)), some (.int (zI kd)), some (.int (zI fr)), some (.int (zI fi)), some (.int (zI ra)), some (.ref 171), none], [.int (zI 0), .ref 171], es)) i_283_2 (by rfl) ?_
  refine x0 (r := (4, [some (.ref 64), some (.int (zI bk)), some (.int (zI nt)), some (.int (zI kd)), some (.int (zI fr)), some (.int (zI fi)), some (.int (zI ra)), some (.ref 171), none], [.ref 64, .int (zI 0), .ref 171], es)) i_283_3 rfl ?_
  refine x0 (r := (5, [some (.ref 64), some (.int (zI bk)), some (.int (zI nt)), some (.int (zI kd)), some (.int (zI fr)), some (.int (zI fi)), some (.int (zI ra)), some (.ref 171), none], [.int (zI bk), .ref 64, .int (zI 0), .ref 171], es)) i_283_4 rfl ?_
  refine x0 (r := (6, [some (.ref 64), some (.int (zI bk)), some (.int (zI nt)), some (.int (zI kd)), some (.int (zI fr)), some (.int (zI fi)), some (.int (zI ra)), some (.ref 171), none], [.int (zI nt), .int (zI bk), .ref 64, .int (zI 0), .ref 171], es)) i_283_5 rfl ?_
  refine x0 (r := (7, [some (.ref 64), some (.int (zI bk)), some (.int (zI nt)), some (.int (zI kd)), some (.int (zI fr)), some (.int (zI fi)), some (.int (zI ra)), some (.ref 171), none], [.int (zI kd), .int (zI nt), .int (zI bk), .ref 64, .int (zI 0), .ref 171], es)) i_283_6 rfl ?_
  refine x0 (r := (9, [some (.ref 64), some (.int (zI bk)), some (.int (zI nt)), some (.int (zI kd)), some (.int (zI fr)), some (.int (zI fi)), some (.int (zI ra)), some (.ref 171), none], [.int (zI fr), .int (zI kd), .int (zI nt), .int (zI bk), .ref 64, .int (zI 0), .ref 171], es)) i_283_7 rfl ?_
  refine x0 (r := (11, [some (.ref 64), some (.int (zI bk)), some (.int (zI nt)), some (.int (zI kd)), some (.int (zI fr)), some (.int (zI fi)), some (.int (zI ra)), some (.ref 171), none], [.int (zI fi), .int (zI fr), .int (zI kd), .int (zI nt), .int (zI bk), .ref 64, .int (zI 0), .ref 171], es)) i_283_9 rfl ?_
  refine x0 (r := (13, [some (.ref 64), some (.int (zI bk)), some (.int (zI nt)), some (.int (zI kd)), some (.int (zI fr)), some (.int (zI fi)), some (.int (zI ra)), some (.ref 171), none], [.int (zI ra), .int (zI fi), .int (zI fr), .int (zI kd), .int (zI nt), .int (zI bk), .ref 64, .int (zI 0), .ref 171], es)) i_283_11 rfl ?_
  exact K1
theorem s_chgy1 {O : pOut} {d kc ks : Nat} {Q : pRes → Prop} {es : PH} {bk nt kd fr fi ra v : Int} (hs_es : sh es) (h_v : 0 ≤ v ∧ v ≤ 1)
    (K1 : v = 0 → ∀ es2 : PH, es2 = sJ es 107 (Int.toNat 0) (Int64.ofNat 0) → Q (.inl (some (.int (zI 0))), es2, kc, ks))
    (K2 : ¬ (v = 0) → ∀ es3 : PH, es3 = sJ es 107 (Int.toNat 0) (Int64.ofNat 1) → Q (.inl (some (.int (zI 0))), es3, kc, ks)) :
    aW O d 283 kc ks Q (16, [some (.ref 64), some (.int (zI bk)), some (.int (zI nt)), some (.int (zI kd)), some (.int (zI fr)), some (.int (zI fi)), some (.int (zI ra)), some (.ref 171), none], [.int (zI v), .int (zI 0), .ref 171], es) := by
  by_cases c1 : v = 0
  · refine x_ifT i_283_16 (by unfold i32 iLO iHI; omega) rfl (by simp only [zC, cR]; omega) ?_
    refine x0 (r := (24, [some (.ref 64), some (.int (zI bk)), some (.int (zI nt)), some (.int (zI kd)), some (.int (zI fr)), some (.int (zI fi)), some (.int (zI ra)), some (.ref 171), none], [.long (Int64.ofNat 0), .int (zI 0), .ref 171], es)) i_283_23 rfl ?_
    refine x_last (p := 107) i_283_24 hs_es rfl (by unfold i32 iLO iHI; omega) (by omega) (by omega) ?_
    obtain ⟨es2, e_es2⟩ : ∃ z : PH, z = sJ es 107 (Int.toNat 0) (Int64.ofNat 0) := ⟨_, rfl⟩
    have hs_es2 : sh es2 := by rw [e_es2]; exact sh_sJ hs_es
    rw [← e_es2]
    refine x0 (r := (36, [some (.ref 64), some (.int (zI bk)), some (.int (zI nt)), some (.int (zI kd)), some (.int (zI fr)), some (.int (zI fi)), some (.int (zI ra)), some (.ref 171), none], [], es2)) i_283_25 rfl ?_
    refine x0 (r := (37, [some (.ref 64), some (.int (zI bk)), some (.int (zI nt)), some (.int (zI kd)), some (.int (zI fr)), some (.int (zI fi)), some (.int (zI ra)), some (.ref 171), none], [.int (zI 0)], es2)) i_283_36 (by rfl) ?_
    refine x_ret (v := some (.int (zI 0))) i_283_37 rfl (fun _ => rfl) rfl rfl rfl ?_
    exact K1 c1 es2 e_es2
  · refine x_ifF i_283_16 (by unfold i32 iLO iHI; omega) rfl (by simp only [zC, cR]; omega) ?_
    refine x0 (r := (20, [some (.ref 64), some (.int (zI bk)), some (.int (zI nt)), some (.int (zI kd)), some (.int (zI fr)), some (.int (zI fi)), some (.int (zI ra)), some (.ref 171), none], [.long (Int64.ofNat 1), .int (zI 0), .ref 171], es)) i_283_19 rfl ?_
    refine x0 (r := (24, [some (.ref 64), some (.int (zI bk)), some (.int (zI nt)), some (.int (zI kd)), some (.int (zI fr)), some (.int (zI fi)), some (.int (zI ra)), some (.ref 171), none], [.long (Int64.ofNat 1), .int (zI 0), .ref 171], es)) i_283_20 rfl ?_
    refine x_last (p := 107) i_283_24 hs_es rfl (by unfold i32 iLO iHI; omega) (by omega) (by omega) ?_
    obtain ⟨es3, e_es3⟩ : ∃ z : PH, z = sJ es 107 (Int.toNat 0) (Int64.ofNat 1) := ⟨_, rfl⟩
    have hs_es3 : sh es3 := by rw [e_es3]; exact sh_sJ hs_es
    rw [← e_es3]
    refine x0 (r := (36, [some (.ref 64), some (.int (zI bk)), some (.int (zI nt)), some (.int (zI kd)), some (.int (zI fr)), some (.int (zI fi)), some (.int (zI ra)), some (.ref 171), none], [], es3)) i_283_25 rfl ?_
    refine x0 (r := (37, [some (.ref 64), some (.int (zI bk)), some (.int (zI nt)), some (.int (zI kd)), some (.int (zI fr)), some (.int (zI fi)), some (.int (zI ra)), some (.ref 171), none], [.int (zI 0)], es3)) i_283_36 (by rfl) ?_
    refine x_ret (v := some (.int (zI 0))) i_283_37 rfl (fun _ => rfl) rfl rfl rfl ?_
    exact K2 c1 es3 e_es3
theorem s_chgy30 {O : pOut} {d kc ks : Nat} {Q : pRes → Prop} {es : PH} {bk nt kd fr fi ra : Int} (hs_es : sh es)
    (K1 : Q (.inl (some (.int (zI 1))), es, kc, ks)) :
    aW O d 283 kc ks Q (30, [some (.ref 64), some (.int (zI bk)), some (.int (zI nt)), some (.int (zI kd)), some (.int (zI fr)), some (.int (zI fi)), some (.int (zI ra)), some (.ref 171), none], [], es) := by
  refine x0 (r := (31, [some (.ref 64), some (.int (zI bk)), some (.int (zI nt)), some (.int (zI kd)), some (.int (zI fr)), some (.int (zI fi)), some (.int (zI ra)), some (.ref 171), none], [.int (zI 1)], es)) i_283_30 (by rfl) ?_
  refine x_ret (v := some (.int (zI 1))) i_283_31 rfl (fun _ => rfl) rfl rfl rfl ?_
  exact K1
theorem s_chgy34 {O : pOut} {d kc ks : Nat} {Q : pRes → Prop} {es : PH} {bk nt kd fr fi ra : Int} (hs_es : sh es)
    (K1 : Q (.inl (some (.int (zI 2))), es, kc, ks)) :
    aW O d 283 kc ks Q (34, [some (.ref 64), some (.int (zI bk)), some (.int (zI nt)), some (.int (zI kd)), some (.int (zI fr)), some (.int (zI fi)), some (.int (zI ra)), some (.ref 171), none], [], es) := by
  refine x0 (r := (35, [some (.ref 64), some (.int (zI bk)), some (.int (zI nt)), some (.int (zI kd)), some (.int (zI fr)), some (.int (zI fi)), some (.int (zI ra)), some (.ref 171), none], [.int (zI 2)], es)) i_283_34 (by rfl) ?_
  refine x_ret (v := some (.int (zI 2))) i_283_35 rfl (fun _ => rfl) rfl rfl rfl ?_
  exact K1
theorem fn_chgy {O : pOut} {d : Nat} {es : PH} {bk nt kd fr fi ra : Int} (h_bk : i32 bk) (h_nt : i32 nt) (h_kd : i32 kd) (h_fr : i32 fr) (h_fi : i32 fi) (h_ra : i32 ra) (hT : hOK tT es) : aW O (d + 4) 283 0 0 (fun o => chgyP bk nt kd fr fi ra es o.1 o.2.1) (0, [some (.ref 64), some (.int (zI bk)), some (.int (zI nt)), some (.int (zI kd)), some (.int (zI fr)), some (.int (zI fi)), some (.int (zI ra)), some (.ref 171), none], [], es) := by
  refine s_chgy0 (sh_of hT) ?_
  refine x_call (vs := [.ref 64, .int (zI bk), .int (zI nt), .int (zI kd), .int (zI fr), .int (zI fi), .int (zI ra)]) (rs := [.int (zI 0), .ref 171]) i_283_13 rfl (fun _ => rfl) rfl rfl rfl rfl rfl (pCall_v (p := 0) (sh_of hT) rfl rfl rfl rfl rfl (by decide) rfl rfl rfl rfl rfl) ?_
  show aW _ _ _ _ _ _ (0, [some (.ref 64), some (.int (zI bk)), some (.int (zI nt)), some (.int (zI kd)), some (.int (zI fr)), some (.int (zI fi)), some (.int (zI ra)), none], [], es)
  refine aW_mono (Nat.le_refl _) (fun o ho => ?_) (fn_chgx (O := O) (d := d) h_bk h_nt h_kd h_fr h_fi h_ra hT)
  obtain ⟨r, es', kc', ks'⟩ := o
  obtain ⟨hs1, hcm, h⟩ : chgxP bk nt kd fr fi ra es r es' := ho
  rcases h with ⟨rfl, hc, g0⟩ | ⟨rfl, hc, g0⟩ | ⟨rfl, hc, g0⟩ | ⟨rfl, hc, g0⟩
  · refine ⟨_, _, _, _, rfl, rfl, rfl, ?_⟩
    show aW _ _ _ _ _ _ (30, [some (.ref 64), some (.int (zI bk)), some (.int (zI nt)), some (.int (zI kd)), some (.int (zI fr)), some (.int (zI fi)), some (.int (zI ra)), some (.ref 171), none], [], es')
    exact s_chgy30 hs1 ⟨hs1, hcm, 1, rfl, Or.inl ⟨rfl, hc, g0⟩⟩
  · refine ⟨_, _, _, _, rfl, rfl, rfl, ?_⟩
    show aW _ _ _ _ _ _ (34, [some (.ref 64), some (.int (zI bk)), some (.int (zI nt)), some (.int (zI kd)), some (.int (zI fr)), some (.int (zI fi)), some (.int (zI ra)), some (.ref 171), none], [], es')
    exact s_chgy34 hs1 ⟨hs1, hcm, 2, rfl, Or.inr (Or.inl ⟨rfl, hc, g0⟩)⟩
  · refine aK_inl ?_
    show aW _ _ _ _ _ _ (16, [some (.ref 64), some (.int (zI bk)), some (.int (zI nt)), some (.int (zI kd)), some (.int (zI fr)), some (.int (zI fi)), some (.int (zI ra)), some (.ref 171), none], [.int (zI 1), .int (zI 0), .ref 171], es')
    refine s_chgy1 hs1 ⟨by omega, by omega⟩ (fun c1 es2 e_es2 => absurd c1 (by omega)) (fun c1 es3 e_es3 => ?_)
    exact ⟨by show sh es3; rw [e_es3]; exact sh_sJ hs1, hcm, 0, rfl, Or.inr (Or.inr (Or.inl ⟨rfl, hc, by rw [e_es3, gA_sJ]; exact g0, by rw [e_es3, gJ_sJ hs1 (p := 107) (n := 1) rfl]; unfold vp_updL; rw [if_pos rfl]; rfl⟩))⟩
  · refine aK_inl ?_
    show aW _ _ _ _ _ _ (16, [some (.ref 64), some (.int (zI bk)), some (.int (zI nt)), some (.int (zI kd)), some (.int (zI fr)), some (.int (zI fi)), some (.int (zI ra)), some (.ref 171), none], [.int (zI 0), .int (zI 0), .ref 171], es')
    refine s_chgy1 hs1 ⟨by omega, by omega⟩ (fun c1 es2 e_es2 => ?_) (fun c1 es3 e_es3 => absurd c1 (by omega))
    exact ⟨by show sh es2; rw [e_es2]; exact sh_sJ hs1, hcm, 0, rfl, Or.inr (Or.inr (Or.inr (⟨rfl, hc, by rw [e_es2, gA_sJ]; exact g0, by rw [e_es2, gJ_sJ hs1 (p := 107) (n := 1) rfl]; unfold vp_updL; rw [if_pos rfl]; rfl⟩)))⟩
theorem s_mchg {O : pOut} {d kc ks : Nat} {Q : pRes → Prop} {es : PH} {bk nt kd fr fi ra : Int} (hs_es : sh es) (h_bk : -2147483648 ≤ bk ∧ bk ≤ 2147483647) (h_nt : -2147483648 ≤ nt ∧ nt ≤ 2147483647) (h_kd : -2147483648 ≤ kd ∧ kd ≤ 2147483647) (h_fr : -2147483648 ≤ fr ∧ fr ≤ 2147483647) (h_fi : -2147483648 ≤ fi ∧ fi ≤ 2147483647) (h_ra : -2147483648 ≤ ra ∧ ra ≤ 2147483647) (hT_es : hOK tT es)
    (K1 : ∀ es1 : PH, es1 = sI es 79 0 (.int (zI 0)) → ∀ v2 : Int, v2 = (gA es1 80 (Int.toNat 1)).toInt → bk < 0 → ∀ es4 : PH, es4 = sI es1 79 0 (.int (zI 1)) → Q (.inl (some (.int (zI 0))), es4, kc, ks))
    (K2 : ∀ es1 : PH, es1 = sI es 79 0 (.int (zI 0)) → ∀ v2 : Int, v2 = (gA es1 80 (Int.toNat 1)).toInt → ¬ (bk < 0) → (v2 - 1) < bk → ∀ es6 : PH, es6 = sI es1 79 0 (.int (zI 1)) → Q (.inl (some (.int (zI 0))), es6, kc, ks))
    (K3 : ∀ es1 : PH, es1 = sI es 79 0 (.int (zI 0)) → ∀ v2 : Int, v2 = (gA es1 80 (Int.toNat 1)).toInt → ¬ (bk < 0) → ¬ ((v2 - 1) < bk) → ∀ v7 : Int, v7 = (gA es1 80 ((119 + (98 * bk)) + 1).toNat).toInt → nt < 0 → ∀ es9 : PH, es9 = sI es1 79 0 (.int (zI 1)) → Q (.inl (some (.int (zI 0))), es9, kc, ks))
    (K4 : ∀ es1 : PH, es1 = sI es 79 0 (.int (zI 0)) → ∀ v2 : Int, v2 = (gA es1 80 (Int.toNat 1)).toInt → ¬ (bk < 0) → ¬ ((v2 - 1) < bk) → ∀ v7 : Int, v7 = (gA es1 80 ((119 + (98 * bk)) + 1).toNat).toInt → ¬ (nt < 0) → (v7 - 1) < nt → ∀ es11 : PH, es11 = sI es1 79 0 (.int (zI 1)) → Q (.inl (some (.int (zI 0))), es11, kc, ks))
    (K5 : ∀ es1 : PH, es1 = sI es 79 0 (.int (zI 0)) → ∀ v2 : Int, v2 = (gA es1 80 (Int.toNat 1)).toInt → ¬ (bk < 0) → ¬ ((v2 - 1) < bk) → ∀ v7 : Int, v7 = (gA es1 80 ((119 + (98 * bk)) + 1).toNat).toInt → ¬ (nt < 0) → ¬ ((v7 - 1) < nt) → ∀ v12 : Int, v12 = (gA es1 80 (Int.toNat 0)).toInt → kd < 0 → ∀ es14 : PH, es14 = sI es1 79 0 (.int (zI 1)) → Q (.inl (some (.int (zI 0))), es14, kc, ks))
    (K6 : ∀ es1 : PH, es1 = sI es 79 0 (.int (zI 0)) → ∀ v2 : Int, v2 = (gA es1 80 (Int.toNat 1)).toInt → ¬ (bk < 0) → ¬ ((v2 - 1) < bk) → ∀ v7 : Int, v7 = (gA es1 80 ((119 + (98 * bk)) + 1).toNat).toInt → ¬ (nt < 0) → ¬ ((v7 - 1) < nt) → ∀ v12 : Int, v12 = (gA es1 80 (Int.toNat 0)).toInt → ¬ (kd < 0) → (v12 - 1) < kd → ∀ es16 : PH, es16 = sI es1 79 0 (.int (zI 1)) → Q (.inl (some (.int (zI 0))), es16, kc, ks))
    (K7 : ∀ es1 : PH, es1 = sI es 79 0 (.int (zI 0)) → ∀ v2 : Int, v2 = (gA es1 80 (Int.toNat 1)).toInt → ¬ (bk < 0) → ¬ ((v2 - 1) < bk) → ∀ v7 : Int, v7 = (gA es1 80 ((119 + (98 * bk)) + 1).toNat).toInt → ¬ (nt < 0) → ¬ ((v7 - 1) < nt) → ∀ v12 : Int, v12 = (gA es1 80 (Int.toNat 0)).toInt → ¬ (kd < 0) → ¬ ((v12 - 1) < kd) → fr < (-1) → ∀ es18 : PH, es18 = sI es1 79 0 (.int (zI 2)) → Q (.inl (some (.int (zI 0))), es18, kc, ks))
    (K8 : ∀ es1 : PH, es1 = sI es 79 0 (.int (zI 0)) → ∀ v2 : Int, v2 = (gA es1 80 (Int.toNat 1)).toInt → ¬ (bk < 0) → ¬ ((v2 - 1) < bk) → ∀ v7 : Int, v7 = (gA es1 80 ((119 + (98 * bk)) + 1).toNat).toInt → ¬ (nt < 0) → ¬ ((v7 - 1) < nt) → ∀ v12 : Int, v12 = (gA es1 80 (Int.toNat 0)).toInt → ¬ (kd < 0) → ¬ ((v12 - 1) < kd) → ¬ (fr < (-1)) → 5 < fr → ∀ es20 : PH, es20 = sI es1 79 0 (.int (zI 2)) → Q (.inl (some (.int (zI 0))), es20, kc, ks))
    (K9 : ∀ es1 : PH, es1 = sI es 79 0 (.int (zI 0)) → ∀ v2 : Int, v2 = (gA es1 80 (Int.toNat 1)).toInt → ¬ (bk < 0) → ¬ ((v2 - 1) < bk) → ∀ v7 : Int, v7 = (gA es1 80 ((119 + (98 * bk)) + 1).toNat).toInt → ¬ (nt < 0) → ¬ ((v7 - 1) < nt) → ∀ v12 : Int, v12 = (gA es1 80 (Int.toNat 0)).toInt → ¬ (kd < 0) → ¬ ((v12 - 1) < kd) → ¬ (fr < (-1)) → ¬ (5 < fr) → fi < 0 → ∀ es22 : PH, es22 = sI es1 79 0 (.int (zI 2)) → Q (.inl (some (.int (zI 0))), es22, kc, ks))
    (K10 : ∀ es1 : PH, es1 = sI es 79 0 (.int (zI 0)) → ∀ v2 : Int, v2 = (gA es1 80 (Int.toNat 1)).toInt → ¬ (bk < 0) → ¬ ((v2 - 1) < bk) → ∀ v7 : Int, v7 = (gA es1 80 ((119 + (98 * bk)) + 1).toNat).toInt → ¬ (nt < 0) → ¬ ((v7 - 1) < nt) → ∀ v12 : Int, v12 = (gA es1 80 (Int.toNat 0)).toInt → ¬ (kd < 0) → ¬ ((v12 - 1) < kd) → ¬ (fr < (-1)) → ¬ (5 < fr) → ¬ (fi < 0) → 5 < fi → ∀ es24 : PH, es24 = sI es1 79 0 (.int (zI 2)) → Q (.inl (some (.int (zI 0))), es24, kc, ks))
    (K11 : ∀ es1 : PH, es1 = sI es 79 0 (.int (zI 0)) → ∀ v2 : Int, v2 = (gA es1 80 (Int.toNat 1)).toInt → ¬ (bk < 0) → ¬ ((v2 - 1) < bk) → ∀ v7 : Int, v7 = (gA es1 80 ((119 + (98 * bk)) + 1).toNat).toInt → ¬ (nt < 0) → ¬ ((v7 - 1) < nt) → ∀ v12 : Int, v12 = (gA es1 80 (Int.toNat 0)).toInt → ¬ (kd < 0) → ¬ ((v12 - 1) < kd) → ¬ (fr < (-1)) → ¬ (5 < fr) → ¬ (fi < 0) → ¬ (5 < fi) → ra < 0 → ∀ es26 : PH, es26 = sI es1 79 0 (.int (zI 2)) → Q (.inl (some (.int (zI 0))), es26, kc, ks))
    (K12 : ∀ es1 : PH, es1 = sI es 79 0 (.int (zI 0)) → ∀ v2 : Int, v2 = (gA es1 80 (Int.toNat 1)).toInt → ¬ (bk < 0) → ¬ ((v2 - 1) < bk) → ∀ v7 : Int, v7 = (gA es1 80 ((119 + (98 * bk)) + 1).toNat).toInt → ¬ (nt < 0) → ¬ ((v7 - 1) < nt) → ∀ v12 : Int, v12 = (gA es1 80 (Int.toNat 0)).toInt → ¬ (kd < 0) → ¬ ((v12 - 1) < kd) → ¬ (fr < (-1)) → ¬ (5 < fr) → ¬ (fi < 0) → ¬ (5 < fi) → ¬ (ra < 0) → 5 < ra → ∀ es28 : PH, es28 = sI es1 79 0 (.int (zI 2)) → Q (.inl (some (.int (zI 0))), es28, kc, ks))
    (K13 : ∀ es1 : PH, es1 = sI es 79 0 (.int (zI 0)) → ∀ v2 : Int, v2 = (gA es1 80 (Int.toNat 1)).toInt → ¬ (bk < 0) → ¬ ((v2 - 1) < bk) → ∀ v7 : Int, v7 = (gA es1 80 ((119 + (98 * bk)) + 1).toNat).toInt → ¬ (nt < 0) → ¬ ((v7 - 1) < nt) → ∀ v12 : Int, v12 = (gA es1 80 (Int.toNat 0)).toInt → ¬ (kd < 0) → ¬ ((v12 - 1) < kd) → ¬ (fr < (-1)) → ¬ (5 < fr) → ¬ (fi < 0) → ¬ (5 < fi) → ¬ (ra < 0) → ¬ (5 < ra) → ∀ v29 : Int, v29 = (gA es1 80 ((119 + (98 * bk)) + ((2 + (4 * nt)) + 0)).toNat).toInt → v29 ≠ kd → ∀ es31 : PH, es31 = sA es1 80 (((119 + (98 * bk)) + 2) + (4 * nt)).toNat (zI kd) → ∀ es32 : PH, es32 = sA es31 80 ((((119 + (98 * bk)) + 2) + (4 * nt)) + 1).toNat (zI fr) → ∀ es33 : PH, es33 = sA es32 80 ((((119 + (98 * bk)) + 2) + (4 * nt)) + 2).toNat (zI fi) → ∀ es34 : PH, es34 = sA es33 80 ((((119 + (98 * bk)) + 2) + (4 * nt)) + 3).toNat (zI ra) → Q (.inl (some (.int (zI 1))), es34, kc, ks))
    (K14 : ∀ es1 : PH, es1 = sI es 79 0 (.int (zI 0)) → ∀ v2 : Int, v2 = (gA es1 80 (Int.toNat 1)).toInt → ¬ (bk < 0) → ¬ ((v2 - 1) < bk) → ∀ v7 : Int, v7 = (gA es1 80 ((119 + (98 * bk)) + 1).toNat).toInt → ¬ (nt < 0) → ¬ ((v7 - 1) < nt) → ∀ v12 : Int, v12 = (gA es1 80 (Int.toNat 0)).toInt → ¬ (kd < 0) → ¬ ((v12 - 1) < kd) → ¬ (fr < (-1)) → ¬ (5 < fr) → ¬ (fi < 0) → ¬ (5 < fi) → ¬ (ra < 0) → ¬ (5 < ra) → ∀ v29 : Int, v29 = (gA es1 80 ((119 + (98 * bk)) + ((2 + (4 * nt)) + 0)).toNat).toInt → ¬ (v29 ≠ kd) → ∀ v35 : Int, v35 = (gA es1 80 ((119 + (98 * bk)) + ((2 + (4 * nt)) + 1)).toNat).toInt → v35 ≠ fr → ∀ es37 : PH, es37 = sA es1 80 (((119 + (98 * bk)) + 2) + (4 * nt)).toNat (zI kd) → ∀ es38 : PH, es38 = sA es37 80 ((((119 + (98 * bk)) + 2) + (4 * nt)) + 1).toNat (zI fr) → ∀ es39 : PH, es39 = sA es38 80 ((((119 + (98 * bk)) + 2) + (4 * nt)) + 2).toNat (zI fi) → ∀ es40 : PH, es40 = sA es39 80 ((((119 + (98 * bk)) + 2) + (4 * nt)) + 3).toNat (zI ra) → Q (.inl (some (.int (zI 1))), es40, kc, ks))
    (K15 : ∀ es1 : PH, es1 = sI es 79 0 (.int (zI 0)) → ∀ v2 : Int, v2 = (gA es1 80 (Int.toNat 1)).toInt → ¬ (bk < 0) → ¬ ((v2 - 1) < bk) → ∀ v7 : Int, v7 = (gA es1 80 ((119 + (98 * bk)) + 1).toNat).toInt → ¬ (nt < 0) → ¬ ((v7 - 1) < nt) → ∀ v12 : Int, v12 = (gA es1 80 (Int.toNat 0)).toInt → ¬ (kd < 0) → ¬ ((v12 - 1) < kd) → ¬ (fr < (-1)) → ¬ (5 < fr) → ¬ (fi < 0) → ¬ (5 < fi) → ¬ (ra < 0) → ¬ (5 < ra) → ∀ v29 : Int, v29 = (gA es1 80 ((119 + (98 * bk)) + ((2 + (4 * nt)) + 0)).toNat).toInt → ¬ (v29 ≠ kd) → ∀ v35 : Int, v35 = (gA es1 80 ((119 + (98 * bk)) + ((2 + (4 * nt)) + 1)).toNat).toInt → ¬ (v35 ≠ fr) → ∀ v41 : Int, v41 = (gA es1 80 ((119 + (98 * bk)) + ((2 + (4 * nt)) + 2)).toNat).toInt → v41 ≠ fi → ∀ es43 : PH, es43 = sA es1 80 (((119 + (98 * bk)) + 2) + (4 * nt)).toNat (zI kd) → ∀ es44 : PH, es44 = sA es43 80 ((((119 + (98 * bk)) + 2) + (4 * nt)) + 1).toNat (zI fr) → ∀ es45 : PH, es45 = sA es44 80 ((((119 + (98 * bk)) + 2) + (4 * nt)) + 2).toNat (zI fi) → ∀ es46 : PH, es46 = sA es45 80 ((((119 + (98 * bk)) + 2) + (4 * nt)) + 3).toNat (zI ra) → Q (.inl (some (.int (zI 1))), es46, kc, ks))
    (K16 : ∀ es1 : PH, es1 = sI es 79 0 (.int (zI 0)) → ∀ v2 : Int, v2 = (gA es1 80 (Int.toNat 1)).toInt → ¬ (bk < 0) → ¬ ((v2 - 1) < bk) → ∀ v7 : Int, v7 = (gA es1 80 ((119 + (98 * bk)) + 1).toNat).toInt → ¬ (nt < 0) → ¬ ((v7 - 1) < nt) → ∀ v12 : Int, v12 = (gA es1 80 (Int.toNat 0)).toInt → ¬ (kd < 0) → ¬ ((v12 - 1) < kd) → ¬ (fr < (-1)) → ¬ (5 < fr) → ¬ (fi < 0) → ¬ (5 < fi) → ¬ (ra < 0) → ¬ (5 < ra) → ∀ v29 : Int, v29 = (gA es1 80 ((119 + (98 * bk)) + ((2 + (4 * nt)) + 0)).toNat).toInt → ¬ (v29 ≠ kd) → ∀ v35 : Int, v35 = (gA es1 80 ((119 + (98 * bk)) + ((2 + (4 * nt)) + 1)).toNat).toInt → ¬ (v35 ≠ fr) → ∀ v41 : Int, v41 = (gA es1 80 ((119 + (98 * bk)) + ((2 + (4 * nt)) + 2)).toNat).toInt → ¬ (v41 ≠ fi) → ∀ v47 : Int, v47 = (gA es1 80 ((119 + (98 * bk)) + ((2 + (4 * nt)) + 3)).toNat).toInt → v47 = ra → ∀ es49 : PH, es49 = sA es1 80 (((119 + (98 * bk)) + 2) + (4 * nt)).toNat (zI kd) → ∀ es50 : PH, es50 = sA es49 80 ((((119 + (98 * bk)) + 2) + (4 * nt)) + 1).toNat (zI fr) → ∀ es51 : PH, es51 = sA es50 80 ((((119 + (98 * bk)) + 2) + (4 * nt)) + 2).toNat (zI fi) → ∀ es52 : PH, es52 = sA es51 80 ((((119 + (98 * bk)) + 2) + (4 * nt)) + 3).toNat (zI ra) → Q (.inl (some (.int (zI 0))), es52, kc, ks))
    (K17 : ∀ es1 : PH, es1 = sI es 79 0 (.int (zI 0)) → ∀ v2 : Int, v2 = (gA es1 80 (Int.toNat 1)).toInt → ¬ (bk < 0) → ¬ ((v2 - 1) < bk) → ∀ v7 : Int, v7 = (gA es1 80 ((119 + (98 * bk)) + 1).toNat).toInt → ¬ (nt < 0) → ¬ ((v7 - 1) < nt) → ∀ v12 : Int, v12 = (gA es1 80 (Int.toNat 0)).toInt → ¬ (kd < 0) → ¬ ((v12 - 1) < kd) → ¬ (fr < (-1)) → ¬ (5 < fr) → ¬ (fi < 0) → ¬ (5 < fi) → ¬ (ra < 0) → ¬ (5 < ra) → ∀ v29 : Int, v29 = (gA es1 80 ((119 + (98 * bk)) + ((2 + (4 * nt)) + 0)).toNat).toInt → ¬ (v29 ≠ kd) → ∀ v35 : Int, v35 = (gA es1 80 ((119 + (98 * bk)) + ((2 + (4 * nt)) + 1)).toNat).toInt → ¬ (v35 ≠ fr) → ∀ v41 : Int, v41 = (gA es1 80 ((119 + (98 * bk)) + ((2 + (4 * nt)) + 2)).toNat).toInt → ¬ (v41 ≠ fi) → ∀ v47 : Int, v47 = (gA es1 80 ((119 + (98 * bk)) + ((2 + (4 * nt)) + 3)).toNat).toInt → ¬ (v47 = ra) → ∀ es53 : PH, es53 = sA es1 80 (((119 + (98 * bk)) + 2) + (4 * nt)).toNat (zI kd) → ∀ es54 : PH, es54 = sA es53 80 ((((119 + (98 * bk)) + 2) + (4 * nt)) + 1).toNat (zI fr) → ∀ es55 : PH, es55 = sA es54 80 ((((119 + (98 * bk)) + 2) + (4 * nt)) + 2).toNat (zI fi) → ∀ es56 : PH, es56 = sA es55 80 ((((119 + (98 * bk)) + 2) + (4 * nt)) + 3).toNat (zI ra) → Q (.inl (some (.int (zI 1))), es56, kc, ks)) :
    aW O (d + 4) 209 kc ks Q (0, [some (.ref 143), some (.int (zI bk)), some (.int (zI nt)), some (.int (zI kd)), some (.int (zI fr)), some (.int (zI fi)), some (.int (zI ra)), none], [], es) := by
  refine x0 (r := (1, [some (.ref 143), some (.int (zI bk)), some (.int (zI nt)), some (.int (zI kd)), some (.int (zI fr)), some (.int (zI fi)), some (.int (zI ra)), none], [.ref 143], es)) i_209_0 rfl ?_
  refine x0 (r := (2, [some (.ref 143), some (.int (zI bk)), some (.int (zI nt)), some (.int (zI kd)), some (.int (zI fr)), some (.int (zI fi)), some (.int (zI ra)), none], [.int (zI 0), .ref 143], es)) i_209_1 (by rfl) ?_
  refine x_puti (p := 79) (ty := .int) i_209_2 hs_es rfl rfl rfl (Or.inl rfl) ?_
  obtain ⟨es1, e_es1⟩ : ∃ z : PH, z = sI es 79 0 (.int (zI 0)) := ⟨_, rfl⟩
  have hs_es1 : sh es1 := by rw [e_es1]; exact sh_sI hs_es (p := 79) (b := 0) rfl rfl
  have hT_es1 : hOK tT es1 := by rw [e_es1]; exact hOK_sI hT_es (p := 79) (b := 0) (lo := iLO) (hi := iHI) rfl rfl (i32_rng _)
  rw [← e_es1]
  refine x0 (r := (6, [some (.ref 143), some (.int (zI bk)), some (.int (zI nt)), some (.int (zI kd)), some (.int (zI fr)), some (.int (zI fi)), some (.int (zI ra)), none], [.ref 143], es1)) i_209_5 rfl ?_
  refine x0 (r := (7, [some (.ref 143), some (.int (zI bk)), some (.int (zI nt)), some (.int (zI kd)), some (.int (zI fr)), some (.int (zI fi)), some (.int (zI ra)), none], [.ref 143, .ref 143], es1)) i_209_6 rfl ?_
  refine x0 (r := (8, [some (.ref 143), some (.int (zI bk)), some (.int (zI nt)), some (.int (zI kd)), some (.int (zI fr)), some (.int (zI fi)), some (.int (zI ra)), none], [.int (zI bk), .ref 143, .ref 143], es1)) i_209_7 rfl ?_
  refine x0 (r := (9, [some (.ref 143), some (.int (zI bk)), some (.int (zI nt)), some (.int (zI kd)), some (.int (zI fr)), some (.int (zI fi)), some (.int (zI ra)), none], [.int (zI nt), .int (zI bk), .ref 143, .ref 143], es1)) i_209_8 rfl ?_
  refine x_call (vs := [.ref 143, .int (zI bk), .int (zI nt)]) (rs := [.ref 143]) i_209_9 rfl (fun _ => rfl) rfl rfl rfl rfl rfl (pCall_v (p := 79) hs_es1 rfl rfl rfl rfl rfl (by decide) rfl rfl rfl rfl rfl) ?_
  show aW _ _ _ _ _ _ (0, [some (.ref 143), some (.int (zI bk)), some (.int (zI nt))], [], es1)
  refine x0 (r := (1, [some (.ref 143), some (.int (zI bk)), some (.int (zI nt))], [.ref 143], es1)) i_210_0 rfl ?_
  refine x0 (r := (2, [some (.ref 143), some (.int (zI bk)), some (.int (zI nt))], [.int (zI bk), .ref 143], es1)) i_210_1 rfl ?_
  refine x_call (vs := [.ref 143, .int (zI bk)]) (rs := []) i_210_2 rfl (fun _ => rfl) rfl rfl rfl rfl rfl (pCall_v (p := 79) hs_es1 rfl rfl rfl rfl rfl (by decide) rfl rfl rfl rfl rfl) ?_
  show aW _ _ _ _ _ _ (0, [some (.ref 143), some (.int (zI bk))], [], es1)
  refine x0 (r := (1, [some (.ref 143), some (.int (zI bk))], [.ref 143], es1)) i_203_0 rfl ?_
  refine x0 (r := (2, [some (.ref 143), some (.int (zI bk))], [.int (zI bk), .ref 143], es1)) i_203_1 rfl ?_
  refine x0 (r := (3, [some (.ref 143), some (.int (zI bk))], [.int (zI 1), .int (zI bk), .ref 143], es1)) i_203_2 (by rfl) ?_
  refine x_call (vs := [.ref 143, .int (zI bk), .int (zI 1)]) (rs := []) i_203_3 rfl (fun _ => rfl) rfl rfl rfl rfl rfl (pCall_v (p := 79) hs_es1 rfl rfl rfl rfl rfl (by decide) rfl rfl rfl rfl rfl) ?_
  show aW _ _ _ _ _ _ (0, [some (.ref 143), some (.int (zI bk)), some (.int (zI 1))], [], es1)
  refine x0 (r := (1, [some (.ref 143), some (.int (zI bk)), some (.int (zI 1))], [.int (zI bk)], es1)) i_199_0 rfl ?_
  refine x0 (r := (2, [some (.ref 143), some (.int (zI bk)), some (.int (zI 1))], [.int (zI 0), .int (zI bk)], es1)) i_199_1 (by rfl) ?_
  refine x0 (r := (3, [some (.ref 143), some (.int (zI bk)), some (.int (zI 1))], [.ref 143, .int (zI 0), .int (zI bk)], es1)) i_199_2 rfl ?_
  refine x_getr (p := 79) (k := 144) i_199_3 hs_es1 rfl rfl ?_
  show aW _ _ _ _ _ _ (6, [some (.ref 143), some (.int (zI bk)), some (.int (zI 1))], [.ref 144, .int (zI 0), .int (zI bk)], es1)
  refine x0 (r := (7, [some (.ref 143), some (.int (zI bk)), some (.int (zI 1))], [.int (zI 1), .ref 144, .int (zI 0), .int (zI bk)], es1)) i_199_6 rfl ?_
  refine x_iald (p := 80) i_199_7 hs_es1 rfl (by unfold i32 iLO iHI; omega) (by omega) (by omega) ?_
  obtain ⟨v2, e_v2⟩ : ∃ z : Int, z = (gA es1 80 (Int.toNat 1)).toInt := ⟨_, rfl⟩
  rw [← e_v2]
  have r_v2 : iLO ≤ v2 ∧ v2 ≤ iHI := by rw [e_v2]; exact i32_rng _
  unfold iLO iHI at r_v2
  have b_v2 : (0 : Int) ≤ v2 ∧ v2 ≤ (3 : Int) := by rw [e_v2]; exact gA_bd hT_es1 (p := 80) (k := (Int.toNat 1)) rfl (by omega) (by decide)
  refine x0 (r := (9, [some (.ref 143), some (.int (zI bk)), some (.int (zI 1))], [.int (zI 1), .int (zI v2), .int (zI 0), .int (zI bk)], es1)) i_199_8 (by rfl) ?_
  refine x_isub i_199_9 ?_
  refine x_call (vs := [.int (zI bk), .int (zI 0), .int (zI (v2 - 1))]) (rs := []) i_199_10 rfl (fun _ => rfl) rfl rfl rfl rfl rfl rfl ?_
  show aW _ _ _ _ _ _ (0, [some (.int (zI bk)), some (.int (zI 0)), some (.int (zI (v2 - 1)))], [], es1)
  refine x0 (r := (1, [some (.int (zI bk)), some (.int (zI 0)), some (.int (zI (v2 - 1)))], [.int (zI bk)], es1)) i_193_0 rfl ?_
  refine x0 (r := (2, [some (.int (zI bk)), some (.int (zI 0)), some (.int (zI (v2 - 1)))], [.int (zI 0), .int (zI bk)], es1)) i_193_1 rfl ?_
  by_cases c3 : bk < 0
  · refine x_cmpT i_193_2 (by unfold i32 iLO iHI; omega) (by unfold i32 iLO iHI; omega) rfl (by simp only [zC, cR]; omega) ?_
    refine x0 (r := (15, [some (.int (zI bk)), some (.int (zI 0)), some (.int (zI (v2 - 1)))], [.int (zI 0)], es1)) i_193_14 (by rfl) ?_
    refine x_ret (v := some (.int (zI 0))) i_193_15 rfl (fun _ => rfl) rfl rfl (pFin_b (by omega)) ?_
    show aW _ _ _ _ _ _ (13, [some (.ref 143), some (.int (zI bk)), some (.int (zI 1))], [.int (zI 0)], es1)
    refine x_ifF i_199_13 (by unfold i32 iLO iHI; omega) rfl (by simp only [zC, cR]; omega) ?_
    refine x0 (r := (17, [some (.ref 143), some (.int (zI bk)), some (.int (zI 1))], [.int (zI 1)], es1)) i_199_16 (by rfl) ?_
    refine x0 (r := (21, [some (.ref 143), some (.int (zI bk)), some (.int (zI 1))], [.int (zI 1)], es1)) i_199_17 rfl ?_
    refine x_ret (v := some (.int (zI 1))) i_199_21 rfl (fun _ => rfl) rfl rfl (pFin_b (by omega)) ?_
    show aW _ _ _ _ _ _ (6, [some (.ref 143), some (.int (zI bk))], [.int (zI 1)], es1)
    refine x_ret (v := some (.int (zI 1))) i_203_6 rfl (fun _ => rfl) rfl rfl (pFin_b (by omega)) ?_
    show aW _ _ _ _ _ _ (5, [some (.ref 143), some (.int (zI bk)), some (.int (zI nt))], [.int (zI 1)], es1)
    refine x_ifT i_210_5 (by unfold i32 iLO iHI; omega) rfl (by simp only [zC, cR]; omega) ?_
    refine x0 (r := (24, [some (.ref 143), some (.int (zI bk)), some (.int (zI nt))], [.int (zI 1)], es1)) i_210_23 (by rfl) ?_
    refine x0 (r := (28, [some (.ref 143), some (.int (zI bk)), some (.int (zI nt))], [.int (zI 1)], es1)) i_210_24 rfl ?_
    refine x_ret (v := some (.int (zI 1))) i_210_28 rfl (fun _ => rfl) rfl rfl (pFin_b (by omega)) ?_
    show aW _ _ _ _ _ _ (12, [some (.ref 143), some (.int (zI bk)), some (.int (zI nt)), some (.int (zI kd)), some (.int (zI fr)), some (.int (zI fi)), some (.int (zI ra)), none], [.int (zI 1), .ref 143], es1)
    refine x_ifT i_209_12 (by unfold i32 iLO iHI; omega) rfl (by simp only [zC, cR]; omega) ?_
    refine x0 (r := (24, [some (.ref 143), some (.int (zI bk)), some (.int (zI nt)), some (.int (zI kd)), some (.int (zI fr)), some (.int (zI fi)), some (.int (zI ra)), none], [.int (zI 1), .ref 143], es1)) i_209_23 (by rfl) ?_
    refine x0 (r := (28, [some (.ref 143), some (.int (zI bk)), some (.int (zI nt)), some (.int (zI kd)), some (.int (zI fr)), some (.int (zI fi)), some (.int (zI ra)), none], [.int (zI 1), .ref 143], es1)) i_209_24 rfl ?_
    refine x0 (r := (29, [some (.ref 143), some (.int (zI bk)), some (.int (zI nt)), some (.int (zI kd)), some (.int (zI fr)), some (.int (zI fi)), some (.int (zI ra)), none], [.int (zI 1), .int (zI 1), .ref 143], es1)) i_209_28 (by rfl) ?_
    refine x_call (vs := [.ref 143, .int (zI 1), .int (zI 1)]) (rs := []) i_209_29 rfl (fun _ => rfl) rfl rfl rfl rfl rfl (pCall_v (p := 79) hs_es1 rfl rfl rfl rfl rfl (by decide) rfl rfl rfl rfl rfl) ?_
    show aW _ _ _ _ _ _ (0, [some (.ref 143), some (.int (zI 1)), some (.int (zI 1))], [], es1)
    refine x0 (r := (1, [some (.ref 143), some (.int (zI 1)), some (.int (zI 1))], [.int (zI 1)], es1)) i_194_0 rfl ?_
    refine x_ifF i_194_1 (by unfold i32 iLO iHI; omega) rfl (by simp only [zC, cR]; omega) ?_
    refine x0 (r := (5, [some (.ref 143), some (.int (zI 1)), some (.int (zI 1))], [.ref 143], es1)) i_194_4 rfl ?_
    refine x0 (r := (6, [some (.ref 143), some (.int (zI 1)), some (.int (zI 1))], [.int (zI 1), .ref 143], es1)) i_194_5 rfl ?_
    refine x_puti (p := 79) (ty := .int) i_194_6 hs_es1 rfl rfl rfl (Or.inl rfl) ?_
    obtain ⟨es4, e_es4⟩ : ∃ z : PH, z = sI es1 79 0 (.int (zI 1)) := ⟨_, rfl⟩
    have hs_es4 : sh es4 := by rw [e_es4]; exact sh_sI hs_es1 (p := 79) (b := 0) rfl rfl
    have hT_es4 : hOK tT es4 := by rw [e_es4]; exact hOK_sI hT_es1 (p := 79) (b := 0) (lo := iLO) (hi := iHI) rfl rfl (i32_rng _)
    rw [← e_es4]
    refine x0 (r := (10, [some (.ref 143), some (.int (zI 1)), some (.int (zI 1))], [.int (zI 1)], es4)) i_194_9 rfl ?_
    refine x_ret (v := some (.int (zI 1))) i_194_10 rfl (fun _ => rfl) rfl rfl (pFin_b (by omega)) ?_
    show aW _ _ _ _ _ _ (32, [some (.ref 143), some (.int (zI bk)), some (.int (zI nt)), some (.int (zI kd)), some (.int (zI fr)), some (.int (zI fi)), some (.int (zI ra)), none], [.int (zI 1)], es4)
    refine x_ifT i_209_32 (by unfold i32 iLO iHI; omega) rfl (by simp only [zC, cR]; omega) ?_
    refine x0 (r := (53, [some (.ref 143), some (.int (zI bk)), some (.int (zI nt)), some (.int (zI kd)), some (.int (zI fr)), some (.int (zI fi)), some (.int (zI ra)), none], [.int (zI 0)], es4)) i_209_52 (by rfl) ?_
    refine x_ret (v := some (.int (zI 0))) i_209_53 rfl (fun _ => rfl) rfl rfl (pFin_b (by omega)) ?_
    exact K1 es1 e_es1 v2 e_v2 c3 es4 e_es4
  · refine x_cmpF i_193_2 (by unfold i32 iLO iHI; omega) (by unfold i32 iLO iHI; omega) rfl (by simp only [zC, cR]; omega) ?_
    refine x0 (r := (6, [some (.int (zI bk)), some (.int (zI 0)), some (.int (zI (v2 - 1)))], [.int (zI bk)], es1)) i_193_5 rfl ?_
    refine x0 (r := (7, [some (.int (zI bk)), some (.int (zI 0)), some (.int (zI (v2 - 1)))], [.int (zI (v2 - 1)), .int (zI bk)], es1)) i_193_6 rfl ?_
    by_cases c5 : (v2 - 1) < bk
    · refine x_cmpT i_193_7 (by unfold i32 iLO iHI; omega) (by unfold i32 iLO iHI; omega) rfl (by simp only [zC, cR]; omega) ?_
      refine x0 (r := (15, [some (.int (zI bk)), some (.int (zI 0)), some (.int (zI (v2 - 1)))], [.int (zI 0)], es1)) i_193_14 (by rfl) ?_
      refine x_ret (v := some (.int (zI 0))) i_193_15 rfl (fun _ => rfl) rfl rfl (pFin_b (by omega)) ?_
      show aW _ _ _ _ _ _ (13, [some (.ref 143), some (.int (zI bk)), some (.int (zI 1))], [.int (zI 0)], es1)
      refine x_ifF i_199_13 (by unfold i32 iLO iHI; omega) rfl (by simp only [zC, cR]; omega) ?_
      refine x0 (r := (17, [some (.ref 143), some (.int (zI bk)), some (.int (zI 1))], [.int (zI 1)], es1)) i_199_16 (by rfl) ?_
      refine x0 (r := (21, [some (.ref 143), some (.int (zI bk)), some (.int (zI 1))], [.int (zI 1)], es1)) i_199_17 rfl ?_
      refine x_ret (v := some (.int (zI 1))) i_199_21 rfl (fun _ => rfl) rfl rfl (pFin_b (by omega)) ?_
      show aW _ _ _ _ _ _ (6, [some (.ref 143), some (.int (zI bk))], [.int (zI 1)], es1)
      refine x_ret (v := some (.int (zI 1))) i_203_6 rfl (fun _ => rfl) rfl rfl (pFin_b (by omega)) ?_
      show aW _ _ _ _ _ _ (5, [some (.ref 143), some (.int (zI bk)), some (.int (zI nt))], [.int (zI 1)], es1)
      refine x_ifT i_210_5 (by unfold i32 iLO iHI; omega) rfl (by simp only [zC, cR]; omega) ?_
      refine x0 (r := (24, [some (.ref 143), some (.int (zI bk)), some (.int (zI nt))], [.int (zI 1)], es1)) i_210_23 (by rfl) ?_
      refine x0 (r := (28, [some (.ref 143), some (.int (zI bk)), some (.int (zI nt))], [.int (zI 1)], es1)) i_210_24 rfl ?_
      refine x_ret (v := some (.int (zI 1))) i_210_28 rfl (fun _ => rfl) rfl rfl (pFin_b (by omega)) ?_
      show aW _ _ _ _ _ _ (12, [some (.ref 143), some (.int (zI bk)), some (.int (zI nt)), some (.int (zI kd)), some (.int (zI fr)), some (.int (zI fi)), some (.int (zI ra)), none], [.int (zI 1), .ref 143], es1)
      refine x_ifT i_209_12 (by unfold i32 iLO iHI; omega) rfl (by simp only [zC, cR]; omega) ?_
      refine x0 (r := (24, [some (.ref 143), some (.int (zI bk)), some (.int (zI nt)), some (.int (zI kd)), some (.int (zI fr)), some (.int (zI fi)), some (.int (zI ra)), none], [.int (zI 1), .ref 143], es1)) i_209_23 (by rfl) ?_
      refine x0 (r := (28, [some (.ref 143), some (.int (zI bk)), some (.int (zI nt)), some (.int (zI kd)), some (.int (zI fr)), some (.int (zI fi)), some (.int (zI ra)), none], [.int (zI 1), .ref 143], es1)) i_209_24 rfl ?_
      refine x0 (r := (29, [some (.ref 143), some (.int (zI bk)), some (.int (zI nt)), some (.int (zI kd)), some (.int (zI fr)), some (.int (zI fi)), some (.int (zI ra)), none], [.int (zI 1), .int (zI 1), .ref 143], es1)) i_209_28 (by rfl) ?_
      refine x_call (vs := [.ref 143, .int (zI 1), .int (zI 1)]) (rs := []) i_209_29 rfl (fun _ => rfl) rfl rfl rfl rfl rfl (pCall_v (p := 79) hs_es1 rfl rfl rfl rfl rfl (by decide) rfl rfl rfl rfl rfl) ?_
      show aW _ _ _ _ _ _ (0, [some (.ref 143), some (.int (zI 1)), some (.int (zI 1))], [], es1)
      refine x0 (r := (1, [some (.ref 143), some (.int (zI 1)), some (.int (zI 1))], [.int (zI 1)], es1)) i_194_0 rfl ?_
      refine x_ifF i_194_1 (by unfold i32 iLO iHI; omega) rfl (by simp only [zC, cR]; omega) ?_
      refine x0 (r := (5, [some (.ref 143), some (.int (zI 1)), some (.int (zI 1))], [.ref 143], es1)) i_194_4 rfl ?_
      refine x0 (r := (6, [some (.ref 143), some (.int (zI 1)), some (.int (zI 1))], [.int (zI 1), .ref 143], es1)) i_194_5 rfl ?_
      refine x_puti (p := 79) (ty := .int) i_194_6 hs_es1 rfl rfl rfl (Or.inl rfl) ?_
      obtain ⟨es6, e_es6⟩ : ∃ z : PH, z = sI es1 79 0 (.int (zI 1)) := ⟨_, rfl⟩
      have hs_es6 : sh es6 := by rw [e_es6]; exact sh_sI hs_es1 (p := 79) (b := 0) rfl rfl
      have hT_es6 : hOK tT es6 := by rw [e_es6]; exact hOK_sI hT_es1 (p := 79) (b := 0) (lo := iLO) (hi := iHI) rfl rfl (i32_rng _)
      rw [← e_es6]
      refine x0 (r := (10, [some (.ref 143), some (.int (zI 1)), some (.int (zI 1))], [.int (zI 1)], es6)) i_194_9 rfl ?_
      refine x_ret (v := some (.int (zI 1))) i_194_10 rfl (fun _ => rfl) rfl rfl (pFin_b (by omega)) ?_
      show aW _ _ _ _ _ _ (32, [some (.ref 143), some (.int (zI bk)), some (.int (zI nt)), some (.int (zI kd)), some (.int (zI fr)), some (.int (zI fi)), some (.int (zI ra)), none], [.int (zI 1)], es6)
      refine x_ifT i_209_32 (by unfold i32 iLO iHI; omega) rfl (by simp only [zC, cR]; omega) ?_
      refine x0 (r := (53, [some (.ref 143), some (.int (zI bk)), some (.int (zI nt)), some (.int (zI kd)), some (.int (zI fr)), some (.int (zI fi)), some (.int (zI ra)), none], [.int (zI 0)], es6)) i_209_52 (by rfl) ?_
      refine x_ret (v := some (.int (zI 0))) i_209_53 rfl (fun _ => rfl) rfl rfl (pFin_b (by omega)) ?_
      exact K2 es1 e_es1 v2 e_v2 c3 c5 es6 e_es6
    · refine x_cmpF i_193_7 (by unfold i32 iLO iHI; omega) (by unfold i32 iLO iHI; omega) rfl (by simp only [zC, cR]; omega) ?_
      refine x0 (r := (11, [some (.int (zI bk)), some (.int (zI 0)), some (.int (zI (v2 - 1)))], [.int (zI 1)], es1)) i_193_10 (by rfl) ?_
      refine x0 (r := (15, [some (.int (zI bk)), some (.int (zI 0)), some (.int (zI (v2 - 1)))], [.int (zI 1)], es1)) i_193_11 rfl ?_
      refine x_ret (v := some (.int (zI 1))) i_193_15 rfl (fun _ => rfl) rfl rfl (pFin_b (by omega)) ?_
      show aW _ _ _ _ _ _ (13, [some (.ref 143), some (.int (zI bk)), some (.int (zI 1))], [.int (zI 1)], es1)
      refine x_ifT i_199_13 (by unfold i32 iLO iHI; omega) rfl (by simp only [zC, cR]; omega) ?_
      refine x0 (r := (21, [some (.ref 143), some (.int (zI bk)), some (.int (zI 1))], [.int (zI 0)], es1)) i_199_20 (by rfl) ?_
      refine x_ret (v := some (.int (zI 0))) i_199_21 rfl (fun _ => rfl) rfl rfl (pFin_b (by omega)) ?_
      show aW _ _ _ _ _ _ (6, [some (.ref 143), some (.int (zI bk))], [.int (zI 0)], es1)
      refine x_ret (v := some (.int (zI 0))) i_203_6 rfl (fun _ => rfl) rfl rfl (pFin_b (by omega)) ?_
      show aW _ _ _ _ _ _ (5, [some (.ref 143), some (.int (zI bk)), some (.int (zI nt))], [.int (zI 0)], es1)
      refine x_ifF i_210_5 (by unfold i32 iLO iHI; omega) rfl (by simp only [zC, cR]; omega) ?_
      refine x0 (r := (9, [some (.ref 143), some (.int (zI bk)), some (.int (zI nt))], [.int (zI nt)], es1)) i_210_8 rfl ?_
      refine x0 (r := (10, [some (.ref 143), some (.int (zI bk)), some (.int (zI nt))], [.int (zI 0), .int (zI nt)], es1)) i_210_9 (by rfl) ?_
      refine x0 (r := (11, [some (.ref 143), some (.int (zI bk)), some (.int (zI nt))], [.ref 143, .int (zI 0), .int (zI nt)], es1)) i_210_10 rfl ?_
      refine x0 (r := (12, [some (.ref 143), some (.int (zI bk)), some (.int (zI nt))], [.int (zI bk), .ref 143, .int (zI 0), .int (zI nt)], es1)) i_210_11 rfl ?_
      refine x_call (vs := [.ref 143, .int (zI bk)]) (rs := [.int (zI 0), .int (zI nt)]) i_210_12 rfl (fun _ => rfl) rfl rfl rfl rfl rfl (pCall_v (p := 79) hs_es1 rfl rfl rfl rfl rfl (by decide) rfl rfl rfl rfl rfl) ?_
      show aW _ _ _ _ _ _ (0, [some (.ref 143), some (.int (zI bk))], [], es1)
      refine x0 (r := (1, [some (.ref 143), some (.int (zI bk))], [.ref 143], es1)) i_205_0 rfl ?_
      refine x0 (r := (2, [some (.ref 143), some (.int (zI bk))], [.int (zI bk), .ref 143], es1)) i_205_1 rfl ?_
      refine x0 (r := (3, [some (.ref 143), some (.int (zI bk))], [.int (zI 1), .int (zI bk), .ref 143], es1)) i_205_2 (by rfl) ?_
      refine x_call (vs := [.ref 143, .int (zI bk), .int (zI 1)]) (rs := []) i_205_3 rfl (fun _ => rfl) rfl rfl rfl rfl rfl (pCall_v (p := 79) hs_es1 rfl rfl rfl rfl rfl (by decide) rfl rfl rfl rfl rfl) ?_
      show aW _ _ _ _ _ _ (0, [some (.ref 143), some (.int (zI bk)), some (.int (zI 1))], [], es1)
      refine x0 (r := (1, [some (.ref 143), some (.int (zI bk)), some (.int (zI 1))], [.ref 143], es1)) i_206_0 rfl ?_
      refine x_getr (p := 79) (k := 144) i_206_1 hs_es1 rfl rfl ?_
      show aW _ _ _ _ _ _ (4, [some (.ref 143), some (.int (zI bk)), some (.int (zI 1))], [.ref 144], es1)
      refine x0 (r := (6, [some (.ref 143), some (.int (zI bk)), some (.int (zI 1))], [.int (zI 119), .ref 144], es1)) i_206_4 (by rfl) ?_
      refine x0 (r := (8, [some (.ref 143), some (.int (zI bk)), some (.int (zI 1))], [.int (zI 98), .int (zI 119), .ref 144], es1)) i_206_6 (by rfl) ?_
      refine x0 (r := (9, [some (.ref 143), some (.int (zI bk)), some (.int (zI 1))], [.int (zI bk), .int (zI 98), .int (zI 119), .ref 144], es1)) i_206_8 rfl ?_
      refine x_imul i_206_9 ?_
      refine x_iadd i_206_10 ?_
      refine x0 (r := (12, [some (.ref 143), some (.int (zI bk)), some (.int (zI 1))], [.int (zI 1), .int (zI (119 + (98 * bk))), .ref 144], es1)) i_206_11 rfl ?_
      refine x_iadd i_206_12 ?_
      refine x_iald (p := 80) i_206_13 hs_es1 rfl (by unfold i32 iLO iHI; omega) (by omega) (by omega) ?_
      obtain ⟨v7, e_v7⟩ : ∃ z : Int, z = (gA es1 80 ((119 + (98 * bk)) + 1).toNat).toInt := ⟨_, rfl⟩
      rw [← e_v7]
      have r_v7 : iLO ≤ v7 ∧ v7 ≤ iHI := by rw [e_v7]; exact i32_rng _
      unfold iLO iHI at r_v7
      have b_v7 : (0 : Int) ≤ v7 ∧ v7 ≤ (24 : Int) := by rw [e_v7]; exact cnt_bd hT_es1 (by omega) (by omega)
      refine x_ret (v := some (.int (zI v7))) i_206_14 rfl (fun _ => rfl) rfl rfl rfl ?_
      show aW _ _ _ _ _ _ (6, [some (.ref 143), some (.int (zI bk))], [.int (zI v7)], es1)
      refine x_ret (v := some (.int (zI v7))) i_205_6 rfl (fun _ => rfl) rfl rfl rfl ?_
      show aW _ _ _ _ _ _ (15, [some (.ref 143), some (.int (zI bk)), some (.int (zI nt))], [.int (zI v7), .int (zI 0), .int (zI nt)], es1)
      refine x0 (r := (16, [some (.ref 143), some (.int (zI bk)), some (.int (zI nt))], [.int (zI 1), .int (zI v7), .int (zI 0), .int (zI nt)], es1)) i_210_15 (by rfl) ?_
      refine x_isub i_210_16 ?_
      refine x_call (vs := [.int (zI nt), .int (zI 0), .int (zI (v7 - 1))]) (rs := []) i_210_17 rfl (fun _ => rfl) rfl rfl rfl rfl rfl rfl ?_
      show aW _ _ _ _ _ _ (0, [some (.int (zI nt)), some (.int (zI 0)), some (.int (zI (v7 - 1)))], [], es1)
      refine x0 (r := (1, [some (.int (zI nt)), some (.int (zI 0)), some (.int (zI (v7 - 1)))], [.int (zI nt)], es1)) i_193_0 rfl ?_
      refine x0 (r := (2, [some (.int (zI nt)), some (.int (zI 0)), some (.int (zI (v7 - 1)))], [.int (zI 0), .int (zI nt)], es1)) i_193_1 rfl ?_
      by_cases c8 : nt < 0
      · refine x_cmpT i_193_2 (by unfold i32 iLO iHI; omega) (by unfold i32 iLO iHI; omega) rfl (by simp only [zC, cR]; omega) ?_
        refine x0 (r := (15, [some (.int (zI nt)), some (.int (zI 0)), some (.int (zI (v7 - 1)))], [.int (zI 0)], es1)) i_193_14 (by rfl) ?_
        refine x_ret (v := some (.int (zI 0))) i_193_15 rfl (fun _ => rfl) rfl rfl (pFin_b (by omega)) ?_
        show aW _ _ _ _ _ _ (20, [some (.ref 143), some (.int (zI bk)), some (.int (zI nt))], [.int (zI 0)], es1)
        refine x_ifF i_210_20 (by unfold i32 iLO iHI; omega) rfl (by simp only [zC, cR]; omega) ?_
        refine x0 (r := (24, [some (.ref 143), some (.int (zI bk)), some (.int (zI nt))], [.int (zI 1)], es1)) i_210_23 (by rfl) ?_
        refine x0 (r := (28, [some (.ref 143), some (.int (zI bk)), some (.int (zI nt))], [.int (zI 1)], es1)) i_210_24 rfl ?_
        refine x_ret (v := some (.int (zI 1))) i_210_28 rfl (fun _ => rfl) rfl rfl (pFin_b (by omega)) ?_
        show aW _ _ _ _ _ _ (12, [some (.ref 143), some (.int (zI bk)), some (.int (zI nt)), some (.int (zI kd)), some (.int (zI fr)), some (.int (zI fi)), some (.int (zI ra)), none], [.int (zI 1), .ref 143], es1)
        refine x_ifT i_209_12 (by unfold i32 iLO iHI; omega) rfl (by simp only [zC, cR]; omega) ?_
        refine x0 (r := (24, [some (.ref 143), some (.int (zI bk)), some (.int (zI nt)), some (.int (zI kd)), some (.int (zI fr)), some (.int (zI fi)), some (.int (zI ra)), none], [.int (zI 1), .ref 143], es1)) i_209_23 (by rfl) ?_
        refine x0 (r := (28, [some (.ref 143), some (.int (zI bk)), some (.int (zI nt)), some (.int (zI kd)), some (.int (zI fr)), some (.int (zI fi)), some (.int (zI ra)), none], [.int (zI 1), .ref 143], es1)) i_209_24 rfl ?_
        refine x0 (r := (29, [some (.ref 143), some (.int (zI bk)), some (.int (zI nt)), some (.int (zI kd)), some (.int (zI fr)), some (.int (zI fi)), some (.int (zI ra)), none], [.int (zI 1), .int (zI 1), .ref 143], es1)) i_209_28 (by rfl) ?_
        refine x_call (vs := [.ref 143, .int (zI 1), .int (zI 1)]) (rs := []) i_209_29 rfl (fun _ => rfl) rfl rfl rfl rfl rfl (pCall_v (p := 79) hs_es1 rfl rfl rfl rfl rfl (by decide) rfl rfl rfl rfl rfl) ?_
        show aW _ _ _ _ _ _ (0, [some (.ref 143), some (.int (zI 1)), some (.int (zI 1))], [], es1)
        refine x0 (r := (1, [some (.ref 143), some (.int (zI 1)), some (.int (zI 1))], [.int (zI 1)], es1)) i_194_0 rfl ?_
        refine x_ifF i_194_1 (by unfold i32 iLO iHI; omega) rfl (by simp only [zC, cR]; omega) ?_
        refine x0 (r := (5, [some (.ref 143), some (.int (zI 1)), some (.int (zI 1))], [.ref 143], es1)) i_194_4 rfl ?_
        refine x0 (r := (6, [some (.ref 143), some (.int (zI 1)), some (.int (zI 1))], [.int (zI 1), .ref 143], es1)) i_194_5 rfl ?_
        refine x_puti (p := 79) (ty := .int) i_194_6 hs_es1 rfl rfl rfl (Or.inl rfl) ?_
        obtain ⟨es9, e_es9⟩ : ∃ z : PH, z = sI es1 79 0 (.int (zI 1)) := ⟨_, rfl⟩
        have hs_es9 : sh es9 := by rw [e_es9]; exact sh_sI hs_es1 (p := 79) (b := 0) rfl rfl
        have hT_es9 : hOK tT es9 := by rw [e_es9]; exact hOK_sI hT_es1 (p := 79) (b := 0) (lo := iLO) (hi := iHI) rfl rfl (i32_rng _)
        rw [← e_es9]
        refine x0 (r := (10, [some (.ref 143), some (.int (zI 1)), some (.int (zI 1))], [.int (zI 1)], es9)) i_194_9 rfl ?_
        refine x_ret (v := some (.int (zI 1))) i_194_10 rfl (fun _ => rfl) rfl rfl (pFin_b (by omega)) ?_
        show aW _ _ _ _ _ _ (32, [some (.ref 143), some (.int (zI bk)), some (.int (zI nt)), some (.int (zI kd)), some (.int (zI fr)), some (.int (zI fi)), some (.int (zI ra)), none], [.int (zI 1)], es9)
        refine x_ifT i_209_32 (by unfold i32 iLO iHI; omega) rfl (by simp only [zC, cR]; omega) ?_
        refine x0 (r := (53, [some (.ref 143), some (.int (zI bk)), some (.int (zI nt)), some (.int (zI kd)), some (.int (zI fr)), some (.int (zI fi)), some (.int (zI ra)), none], [.int (zI 0)], es9)) i_209_52 (by rfl) ?_
        refine x_ret (v := some (.int (zI 0))) i_209_53 rfl (fun _ => rfl) rfl rfl (pFin_b (by omega)) ?_
        exact K3 es1 e_es1 v2 e_v2 c3 c5 v7 e_v7 c8 es9 e_es9
      · refine x_cmpF i_193_2 (by unfold i32 iLO iHI; omega) (by unfold i32 iLO iHI; omega) rfl (by simp only [zC, cR]; omega) ?_
        refine x0 (r := (6, [some (.int (zI nt)), some (.int (zI 0)), some (.int (zI (v7 - 1)))], [.int (zI nt)], es1)) i_193_5 rfl ?_
        refine x0 (r := (7, [some (.int (zI nt)), some (.int (zI 0)), some (.int (zI (v7 - 1)))], [.int (zI (v7 - 1)), .int (zI nt)], es1)) i_193_6 rfl ?_
        by_cases c10 : (v7 - 1) < nt
        · refine x_cmpT i_193_7 (by unfold i32 iLO iHI; omega) (by unfold i32 iLO iHI; omega) rfl (by simp only [zC, cR]; omega) ?_
          refine x0 (r := (15, [some (.int (zI nt)), some (.int (zI 0)), some (.int (zI (v7 - 1)))], [.int (zI 0)], es1)) i_193_14 (by rfl) ?_
          refine x_ret (v := some (.int (zI 0))) i_193_15 rfl (fun _ => rfl) rfl rfl (pFin_b (by omega)) ?_
          show aW _ _ _ _ _ _ (20, [some (.ref 143), some (.int (zI bk)), some (.int (zI nt))], [.int (zI 0)], es1)
          refine x_ifF i_210_20 (by unfold i32 iLO iHI; omega) rfl (by simp only [zC, cR]; omega) ?_
          refine x0 (r := (24, [some (.ref 143), some (.int (zI bk)), some (.int (zI nt))], [.int (zI 1)], es1)) i_210_23 (by rfl) ?_
          refine x0 (r := (28, [some (.ref 143), some (.int (zI bk)), some (.int (zI nt))], [.int (zI 1)], es1)) i_210_24 rfl ?_
          refine x_ret (v := some (.int (zI 1))) i_210_28 rfl (fun _ => rfl) rfl rfl (pFin_b (by omega)) ?_
          show aW _ _ _ _ _ _ (12, [some (.ref 143), some (.int (zI bk)), some (.int (zI nt)), some (.int (zI kd)), some (.int (zI fr)), some (.int (zI fi)), some (.int (zI ra)), none], [.int (zI 1), .ref 143], es1)
          refine x_ifT i_209_12 (by unfold i32 iLO iHI; omega) rfl (by simp only [zC, cR]; omega) ?_
          refine x0 (r := (24, [some (.ref 143), some (.int (zI bk)), some (.int (zI nt)), some (.int (zI kd)), some (.int (zI fr)), some (.int (zI fi)), some (.int (zI ra)), none], [.int (zI 1), .ref 143], es1)) i_209_23 (by rfl) ?_
          refine x0 (r := (28, [some (.ref 143), some (.int (zI bk)), some (.int (zI nt)), some (.int (zI kd)), some (.int (zI fr)), some (.int (zI fi)), some (.int (zI ra)), none], [.int (zI 1), .ref 143], es1)) i_209_24 rfl ?_
          refine x0 (r := (29, [some (.ref 143), some (.int (zI bk)), some (.int (zI nt)), some (.int (zI kd)), some (.int (zI fr)), some (.int (zI fi)), some (.int (zI ra)), none], [.int (zI 1), .int (zI 1), .ref 143], es1)) i_209_28 (by rfl) ?_
          refine x_call (vs := [.ref 143, .int (zI 1), .int (zI 1)]) (rs := []) i_209_29 rfl (fun _ => rfl) rfl rfl rfl rfl rfl (pCall_v (p := 79) hs_es1 rfl rfl rfl rfl rfl (by decide) rfl rfl rfl rfl rfl) ?_
          show aW _ _ _ _ _ _ (0, [some (.ref 143), some (.int (zI 1)), some (.int (zI 1))], [], es1)
          refine x0 (r := (1, [some (.ref 143), some (.int (zI 1)), some (.int (zI 1))], [.int (zI 1)], es1)) i_194_0 rfl ?_
          refine x_ifF i_194_1 (by unfold i32 iLO iHI; omega) rfl (by simp only [zC, cR]; omega) ?_
          refine x0 (r := (5, [some (.ref 143), some (.int (zI 1)), some (.int (zI 1))], [.ref 143], es1)) i_194_4 rfl ?_
          refine x0 (r := (6, [some (.ref 143), some (.int (zI 1)), some (.int (zI 1))], [.int (zI 1), .ref 143], es1)) i_194_5 rfl ?_
          refine x_puti (p := 79) (ty := .int) i_194_6 hs_es1 rfl rfl rfl (Or.inl rfl) ?_
          obtain ⟨es11, e_es11⟩ : ∃ z : PH, z = sI es1 79 0 (.int (zI 1)) := ⟨_, rfl⟩
          have hs_es11 : sh es11 := by rw [e_es11]; exact sh_sI hs_es1 (p := 79) (b := 0) rfl rfl
          have hT_es11 : hOK tT es11 := by rw [e_es11]; exact hOK_sI hT_es1 (p := 79) (b := 0) (lo := iLO) (hi := iHI) rfl rfl (i32_rng _)
          rw [← e_es11]
          refine x0 (r := (10, [some (.ref 143), some (.int (zI 1)), some (.int (zI 1))], [.int (zI 1)], es11)) i_194_9 rfl ?_
          refine x_ret (v := some (.int (zI 1))) i_194_10 rfl (fun _ => rfl) rfl rfl (pFin_b (by omega)) ?_
          show aW _ _ _ _ _ _ (32, [some (.ref 143), some (.int (zI bk)), some (.int (zI nt)), some (.int (zI kd)), some (.int (zI fr)), some (.int (zI fi)), some (.int (zI ra)), none], [.int (zI 1)], es11)
          refine x_ifT i_209_32 (by unfold i32 iLO iHI; omega) rfl (by simp only [zC, cR]; omega) ?_
          refine x0 (r := (53, [some (.ref 143), some (.int (zI bk)), some (.int (zI nt)), some (.int (zI kd)), some (.int (zI fr)), some (.int (zI fi)), some (.int (zI ra)), none], [.int (zI 0)], es11)) i_209_52 (by rfl) ?_
          refine x_ret (v := some (.int (zI 0))) i_209_53 rfl (fun _ => rfl) rfl rfl (pFin_b (by omega)) ?_
          exact K4 es1 e_es1 v2 e_v2 c3 c5 v7 e_v7 c8 c10 es11 e_es11
        · refine x_cmpF i_193_7 (by unfold i32 iLO iHI; omega) (by unfold i32 iLO iHI; omega) rfl (by simp only [zC, cR]; omega) ?_
          refine x0 (r := (11, [some (.int (zI nt)), some (.int (zI 0)), some (.int (zI (v7 - 1)))], [.int (zI 1)], es1)) i_193_10 (by rfl) ?_
          refine x0 (r := (15, [some (.int (zI nt)), some (.int (zI 0)), some (.int (zI (v7 - 1)))], [.int (zI 1)], es1)) i_193_11 rfl ?_
          refine x_ret (v := some (.int (zI 1))) i_193_15 rfl (fun _ => rfl) rfl rfl (pFin_b (by omega)) ?_
          show aW _ _ _ _ _ _ (20, [some (.ref 143), some (.int (zI bk)), some (.int (zI nt))], [.int (zI 1)], es1)
          refine x_ifT i_210_20 (by unfold i32 iLO iHI; omega) rfl (by simp only [zC, cR]; omega) ?_
          refine x0 (r := (28, [some (.ref 143), some (.int (zI bk)), some (.int (zI nt))], [.int (zI 0)], es1)) i_210_27 (by rfl) ?_
          refine x_ret (v := some (.int (zI 0))) i_210_28 rfl (fun _ => rfl) rfl rfl (pFin_b (by omega)) ?_
          show aW _ _ _ _ _ _ (12, [some (.ref 143), some (.int (zI bk)), some (.int (zI nt)), some (.int (zI kd)), some (.int (zI fr)), some (.int (zI fi)), some (.int (zI ra)), none], [.int (zI 0), .ref 143], es1)
          refine x_ifF i_209_12 (by unfold i32 iLO iHI; omega) rfl (by simp only [zC, cR]; omega) ?_
          refine x0 (r := (16, [some (.ref 143), some (.int (zI bk)), some (.int (zI nt)), some (.int (zI kd)), some (.int (zI fr)), some (.int (zI fi)), some (.int (zI ra)), none], [.ref 143, .ref 143], es1)) i_209_15 rfl ?_
          refine x0 (r := (17, [some (.ref 143), some (.int (zI bk)), some (.int (zI nt)), some (.int (zI kd)), some (.int (zI fr)), some (.int (zI fi)), some (.int (zI ra)), none], [.int (zI kd), .ref 143, .ref 143], es1)) i_209_16 rfl ?_
          refine x_call (vs := [.ref 143, .int (zI kd)]) (rs := [.ref 143]) i_209_17 rfl (fun _ => rfl) rfl rfl rfl rfl rfl (pCall_v (p := 79) hs_es1 rfl rfl rfl rfl rfl (by decide) rfl rfl rfl rfl rfl) ?_
          show aW _ _ _ _ _ _ (0, [some (.ref 143), some (.int (zI kd))], [], es1)
          refine x0 (r := (1, [some (.ref 143), some (.int (zI kd))], [.ref 143], es1)) i_198_0 rfl ?_
          refine x0 (r := (2, [some (.ref 143), some (.int (zI kd))], [.int (zI kd), .ref 143], es1)) i_198_1 rfl ?_
          refine x0 (r := (3, [some (.ref 143), some (.int (zI kd))], [.int (zI 0), .int (zI kd), .ref 143], es1)) i_198_2 (by rfl) ?_
          refine x_call (vs := [.ref 143, .int (zI kd), .int (zI 0)]) (rs := []) i_198_3 rfl (fun _ => rfl) rfl rfl rfl rfl rfl (pCall_v (p := 79) hs_es1 rfl rfl rfl rfl rfl (by decide) rfl rfl rfl rfl rfl) ?_
          show aW _ _ _ _ _ _ (0, [some (.ref 143), some (.int (zI kd)), some (.int (zI 0))], [], es1)
          refine x0 (r := (1, [some (.ref 143), some (.int (zI kd)), some (.int (zI 0))], [.int (zI kd)], es1)) i_199_0 rfl ?_
          refine x0 (r := (2, [some (.ref 143), some (.int (zI kd)), some (.int (zI 0))], [.int (zI 0), .int (zI kd)], es1)) i_199_1 (by rfl) ?_
          refine x0 (r := (3, [some (.ref 143), some (.int (zI kd)), some (.int (zI 0))], [.ref 143, .int (zI 0), .int (zI kd)], es1)) i_199_2 rfl ?_
          refine x_getr (p := 79) (k := 144) i_199_3 hs_es1 rfl rfl ?_
          show aW _ _ _ _ _ _ (6, [some (.ref 143), some (.int (zI kd)), some (.int (zI 0))], [.ref 144, .int (zI 0), .int (zI kd)], es1)
          refine x0 (r := (7, [some (.ref 143), some (.int (zI kd)), some (.int (zI 0))], [.int (zI 0), .ref 144, .int (zI 0), .int (zI kd)], es1)) i_199_6 rfl ?_
          refine x_iald (p := 80) i_199_7 hs_es1 rfl (by unfold i32 iLO iHI; omega) (by omega) (by omega) ?_
          obtain ⟨v12, e_v12⟩ : ∃ z : Int, z = (gA es1 80 (Int.toNat 0)).toInt := ⟨_, rfl⟩
          rw [← e_v12]
          have r_v12 : iLO ≤ v12 ∧ v12 ≤ iHI := by rw [e_v12]; exact i32_rng _
          unfold iLO iHI at r_v12
          have b_v12 : (0 : Int) ≤ v12 ∧ v12 ≤ (5 : Int) := by rw [e_v12]; exact gA_bd hT_es1 (p := 80) (k := (Int.toNat 0)) rfl (by omega) (by decide)
          refine x0 (r := (9, [some (.ref 143), some (.int (zI kd)), some (.int (zI 0))], [.int (zI 1), .int (zI v12), .int (zI 0), .int (zI kd)], es1)) i_199_8 (by rfl) ?_
          refine x_isub i_199_9 ?_
          refine x_call (vs := [.int (zI kd), .int (zI 0), .int (zI (v12 - 1))]) (rs := []) i_199_10 rfl (fun _ => rfl) rfl rfl rfl rfl rfl rfl ?_
          show aW _ _ _ _ _ _ (0, [some (.int (zI kd)), some (.int (zI 0)), some (.int (zI (v12 - 1)))], [], es1)
          refine x0 (r := (1, [some (.int (zI kd)), some (.int (zI 0)), some (.int (zI (v12 - 1)))], [.int (zI kd)], es1)) i_193_0 rfl ?_
          refine x0 (r := (2, [some (.int (zI kd)), some (.int (zI 0)), some (.int (zI (v12 - 1)))], [.int (zI 0), .int (zI kd)], es1)) i_193_1 rfl ?_
          by_cases c13 : kd < 0
          · refine x_cmpT i_193_2 (by unfold i32 iLO iHI; omega) (by unfold i32 iLO iHI; omega) rfl (by simp only [zC, cR]; omega) ?_
            refine x0 (r := (15, [some (.int (zI kd)), some (.int (zI 0)), some (.int (zI (v12 - 1)))], [.int (zI 0)], es1)) i_193_14 (by rfl) ?_
            refine x_ret (v := some (.int (zI 0))) i_193_15 rfl (fun _ => rfl) rfl rfl (pFin_b (by omega)) ?_
            show aW _ _ _ _ _ _ (13, [some (.ref 143), some (.int (zI kd)), some (.int (zI 0))], [.int (zI 0)], es1)
            refine x_ifF i_199_13 (by unfold i32 iLO iHI; omega) rfl (by simp only [zC, cR]; omega) ?_
            refine x0 (r := (17, [some (.ref 143), some (.int (zI kd)), some (.int (zI 0))], [.int (zI 1)], es1)) i_199_16 (by rfl) ?_
            refine x0 (r := (21, [some (.ref 143), some (.int (zI kd)), some (.int (zI 0))], [.int (zI 1)], es1)) i_199_17 rfl ?_
            refine x_ret (v := some (.int (zI 1))) i_199_21 rfl (fun _ => rfl) rfl rfl (pFin_b (by omega)) ?_
            show aW _ _ _ _ _ _ (6, [some (.ref 143), some (.int (zI kd))], [.int (zI 1)], es1)
            refine x_ret (v := some (.int (zI 1))) i_198_6 rfl (fun _ => rfl) rfl rfl (pFin_b (by omega)) ?_
            show aW _ _ _ _ _ _ (20, [some (.ref 143), some (.int (zI bk)), some (.int (zI nt)), some (.int (zI kd)), some (.int (zI fr)), some (.int (zI fi)), some (.int (zI ra)), none], [.int (zI 1), .ref 143], es1)
            refine x_ifF i_209_20 (by unfold i32 iLO iHI; omega) rfl (by simp only [zC, cR]; omega) ?_
            refine x0 (r := (24, [some (.ref 143), some (.int (zI bk)), some (.int (zI nt)), some (.int (zI kd)), some (.int (zI fr)), some (.int (zI fi)), some (.int (zI ra)), none], [.int (zI 1), .ref 143], es1)) i_209_23 (by rfl) ?_
            refine x0 (r := (28, [some (.ref 143), some (.int (zI bk)), some (.int (zI nt)), some (.int (zI kd)), some (.int (zI fr)), some (.int (zI fi)), some (.int (zI ra)), none], [.int (zI 1), .ref 143], es1)) i_209_24 rfl ?_
            refine x0 (r := (29, [some (.ref 143), some (.int (zI bk)), some (.int (zI nt)), some (.int (zI kd)), some (.int (zI fr)), some (.int (zI fi)), some (.int (zI ra)), none], [.int (zI 1), .int (zI 1), .ref 143], es1)) i_209_28 (by rfl) ?_
            refine x_call (vs := [.ref 143, .int (zI 1), .int (zI 1)]) (rs := []) i_209_29 rfl (fun _ => rfl) rfl rfl rfl rfl rfl (pCall_v (p := 79) hs_es1 rfl rfl rfl rfl rfl (by decide) rfl rfl rfl rfl rfl) ?_
            show aW _ _ _ _ _ _ (0, [some (.ref 143), some (.int (zI 1)), some (.int (zI 1))], [], es1)
            refine x0 (r := (1, [some (.ref 143), some (.int (zI 1)), some (.int (zI 1))], [.int (zI 1)], es1)) i_194_0 rfl ?_
            refine x_ifF i_194_1 (by unfold i32 iLO iHI; omega) rfl (by simp only [zC, cR]; omega) ?_
            refine x0 (r := (5, [some (.ref 143), some (.int (zI 1)), some (.int (zI 1))], [.ref 143], es1)) i_194_4 rfl ?_
            refine x0 (r := (6, [some (.ref 143), some (.int (zI 1)), some (.int (zI 1))], [.int (zI 1), .ref 143], es1)) i_194_5 rfl ?_
            refine x_puti (p := 79) (ty := .int) i_194_6 hs_es1 rfl rfl rfl (Or.inl rfl) ?_
            obtain ⟨es14, e_es14⟩ : ∃ z : PH, z = sI es1 79 0 (.int (zI 1)) := ⟨_, rfl⟩
            have hs_es14 : sh es14 := by rw [e_es14]; exact sh_sI hs_es1 (p := 79) (b := 0) rfl rfl
            have hT_es14 : hOK tT es14 := by rw [e_es14]; exact hOK_sI hT_es1 (p := 79) (b := 0) (lo := iLO) (hi := iHI) rfl rfl (i32_rng _)
            rw [← e_es14]
            refine x0 (r := (10, [some (.ref 143), some (.int (zI 1)), some (.int (zI 1))], [.int (zI 1)], es14)) i_194_9 rfl ?_
            refine x_ret (v := some (.int (zI 1))) i_194_10 rfl (fun _ => rfl) rfl rfl (pFin_b (by omega)) ?_
            show aW _ _ _ _ _ _ (32, [some (.ref 143), some (.int (zI bk)), some (.int (zI nt)), some (.int (zI kd)), some (.int (zI fr)), some (.int (zI fi)), some (.int (zI ra)), none], [.int (zI 1)], es14)
            refine x_ifT i_209_32 (by unfold i32 iLO iHI; omega) rfl (by simp only [zC, cR]; omega) ?_
            refine x0 (r := (53, [some (.ref 143), some (.int (zI bk)), some (.int (zI nt)), some (.int (zI kd)), some (.int (zI fr)), some (.int (zI fi)), some (.int (zI ra)), none], [.int (zI 0)], es14)) i_209_52 (by rfl) ?_
            refine x_ret (v := some (.int (zI 0))) i_209_53 rfl (fun _ => rfl) rfl rfl (pFin_b (by omega)) ?_
            exact K5 es1 e_es1 v2 e_v2 c3 c5 v7 e_v7 c8 c10 v12 e_v12 c13 es14 e_es14
          · refine x_cmpF i_193_2 (by unfold i32 iLO iHI; omega) (by unfold i32 iLO iHI; omega) rfl (by simp only [zC, cR]; omega) ?_
            refine x0 (r := (6, [some (.int (zI kd)), some (.int (zI 0)), some (.int (zI (v12 - 1)))], [.int (zI kd)], es1)) i_193_5 rfl ?_
            refine x0 (r := (7, [some (.int (zI kd)), some (.int (zI 0)), some (.int (zI (v12 - 1)))], [.int (zI (v12 - 1)), .int (zI kd)], es1)) i_193_6 rfl ?_
            by_cases c15 : (v12 - 1) < kd
            · refine x_cmpT i_193_7 (by unfold i32 iLO iHI; omega) (by unfold i32 iLO iHI; omega) rfl (by simp only [zC, cR]; omega) ?_
              refine x0 (r := (15, [some (.int (zI kd)), some (.int (zI 0)), some (.int (zI (v12 - 1)))], [.int (zI 0)], es1)) i_193_14 (by rfl) ?_
              refine x_ret (v := some (.int (zI 0))) i_193_15 rfl (fun _ => rfl) rfl rfl (pFin_b (by omega)) ?_
              show aW _ _ _ _ _ _ (13, [some (.ref 143), some (.int (zI kd)), some (.int (zI 0))], [.int (zI 0)], es1)
              refine x_ifF i_199_13 (by unfold i32 iLO iHI; omega) rfl (by simp only [zC, cR]; omega) ?_
              refine x0 (r := (17, [some (.ref 143), some (.int (zI kd)), some (.int (zI 0))], [.int (zI 1)], es1)) i_199_16 (by rfl) ?_
              refine x0 (r := (21, [some (.ref 143), some (.int (zI kd)), some (.int (zI 0))], [.int (zI 1)], es1)) i_199_17 rfl ?_
              refine x_ret (v := some (.int (zI 1))) i_199_21 rfl (fun _ => rfl) rfl rfl (pFin_b (by omega)) ?_
              show aW _ _ _ _ _ _ (6, [some (.ref 143), some (.int (zI kd))], [.int (zI 1)], es1)
              refine x_ret (v := some (.int (zI 1))) i_198_6 rfl (fun _ => rfl) rfl rfl (pFin_b (by omega)) ?_
              show aW _ _ _ _ _ _ (20, [some (.ref 143), some (.int (zI bk)), some (.int (zI nt)), some (.int (zI kd)), some (.int (zI fr)), some (.int (zI fi)), some (.int (zI ra)), none], [.int (zI 1), .ref 143], es1)
              refine x_ifF i_209_20 (by unfold i32 iLO iHI; omega) rfl (by simp only [zC, cR]; omega) ?_
              refine x0 (r := (24, [some (.ref 143), some (.int (zI bk)), some (.int (zI nt)), some (.int (zI kd)), some (.int (zI fr)), some (.int (zI fi)), some (.int (zI ra)), none], [.int (zI 1), .ref 143], es1)) i_209_23 (by rfl) ?_
              refine x0 (r := (28, [some (.ref 143), some (.int (zI bk)), some (.int (zI nt)), some (.int (zI kd)), some (.int (zI fr)), some (.int (zI fi)), some (.int (zI ra)), none], [.int (zI 1), .ref 143], es1)) i_209_24 rfl ?_
              refine x0 (r := (29, [some (.ref 143), some (.int (zI bk)), some (.int (zI nt)), some (.int (zI kd)), some (.int (zI fr)), some (.int (zI fi)), some (.int (zI ra)), none], [.int (zI 1), .int (zI 1), .ref 143], es1)) i_209_28 (by rfl) ?_
              refine x_call (vs := [.ref 143, .int (zI 1), .int (zI 1)]) (rs := []) i_209_29 rfl (fun _ => rfl) rfl rfl rfl rfl rfl (pCall_v (p := 79) hs_es1 rfl rfl rfl rfl rfl (by decide) rfl rfl rfl rfl rfl) ?_
              show aW _ _ _ _ _ _ (0, [some (.ref 143), some (.int (zI 1)), some (.int (zI 1))], [], es1)
              refine x0 (r := (1, [some (.ref 143), some (.int (zI 1)), some (.int (zI 1))], [.int (zI 1)], es1)) i_194_0 rfl ?_
              refine x_ifF i_194_1 (by unfold i32 iLO iHI; omega) rfl (by simp only [zC, cR]; omega) ?_
              refine x0 (r := (5, [some (.ref 143), some (.int (zI 1)), some (.int (zI 1))], [.ref 143], es1)) i_194_4 rfl ?_
              refine x0 (r := (6, [some (.ref 143), some (.int (zI 1)), some (.int (zI 1))], [.int (zI 1), .ref 143], es1)) i_194_5 rfl ?_
              refine x_puti (p := 79) (ty := .int) i_194_6 hs_es1 rfl rfl rfl (Or.inl rfl) ?_
              obtain ⟨es16, e_es16⟩ : ∃ z : PH, z = sI es1 79 0 (.int (zI 1)) := ⟨_, rfl⟩
              have hs_es16 : sh es16 := by rw [e_es16]; exact sh_sI hs_es1 (p := 79) (b := 0) rfl rfl
              have hT_es16 : hOK tT es16 := by rw [e_es16]; exact hOK_sI hT_es1 (p := 79) (b := 0) (lo := iLO) (hi := iHI) rfl rfl (i32_rng _)
              rw [← e_es16]
              refine x0 (r := (10, [some (.ref 143), some (.int (zI 1)), some (.int (zI 1))], [.int (zI 1)], es16)) i_194_9 rfl ?_
              refine x_ret (v := some (.int (zI 1))) i_194_10 rfl (fun _ => rfl) rfl rfl (pFin_b (by omega)) ?_
              show aW _ _ _ _ _ _ (32, [some (.ref 143), some (.int (zI bk)), some (.int (zI nt)), some (.int (zI kd)), some (.int (zI fr)), some (.int (zI fi)), some (.int (zI ra)), none], [.int (zI 1)], es16)
              refine x_ifT i_209_32 (by unfold i32 iLO iHI; omega) rfl (by simp only [zC, cR]; omega) ?_
              refine x0 (r := (53, [some (.ref 143), some (.int (zI bk)), some (.int (zI nt)), some (.int (zI kd)), some (.int (zI fr)), some (.int (zI fi)), some (.int (zI ra)), none], [.int (zI 0)], es16)) i_209_52 (by rfl) ?_
              refine x_ret (v := some (.int (zI 0))) i_209_53 rfl (fun _ => rfl) rfl rfl (pFin_b (by omega)) ?_
              exact K6 es1 e_es1 v2 e_v2 c3 c5 v7 e_v7 c8 c10 v12 e_v12 c13 c15 es16 e_es16
            · refine x_cmpF i_193_7 (by unfold i32 iLO iHI; omega) (by unfold i32 iLO iHI; omega) rfl (by simp only [zC, cR]; omega) ?_
              refine x0 (r := (11, [some (.int (zI kd)), some (.int (zI 0)), some (.int (zI (v12 - 1)))], [.int (zI 1)], es1)) i_193_10 (by rfl) ?_
              refine x0 (r := (15, [some (.int (zI kd)), some (.int (zI 0)), some (.int (zI (v12 - 1)))], [.int (zI 1)], es1)) i_193_11 rfl ?_
              refine x_ret (v := some (.int (zI 1))) i_193_15 rfl (fun _ => rfl) rfl rfl (pFin_b (by omega)) ?_
              show aW _ _ _ _ _ _ (13, [some (.ref 143), some (.int (zI kd)), some (.int (zI 0))], [.int (zI 1)], es1)
              refine x_ifT i_199_13 (by unfold i32 iLO iHI; omega) rfl (by simp only [zC, cR]; omega) ?_
              refine x0 (r := (21, [some (.ref 143), some (.int (zI kd)), some (.int (zI 0))], [.int (zI 0)], es1)) i_199_20 (by rfl) ?_
              refine x_ret (v := some (.int (zI 0))) i_199_21 rfl (fun _ => rfl) rfl rfl (pFin_b (by omega)) ?_
              show aW _ _ _ _ _ _ (6, [some (.ref 143), some (.int (zI kd))], [.int (zI 0)], es1)
              refine x_ret (v := some (.int (zI 0))) i_198_6 rfl (fun _ => rfl) rfl rfl (pFin_b (by omega)) ?_
              show aW _ _ _ _ _ _ (20, [some (.ref 143), some (.int (zI bk)), some (.int (zI nt)), some (.int (zI kd)), some (.int (zI fr)), some (.int (zI fi)), some (.int (zI ra)), none], [.int (zI 0), .ref 143], es1)
              refine x_ifT i_209_20 (by unfold i32 iLO iHI; omega) rfl (by simp only [zC, cR]; omega) ?_
              refine x0 (r := (28, [some (.ref 143), some (.int (zI bk)), some (.int (zI nt)), some (.int (zI kd)), some (.int (zI fr)), some (.int (zI fi)), some (.int (zI ra)), none], [.int (zI 0), .ref 143], es1)) i_209_27 (by rfl) ?_
              refine x0 (r := (29, [some (.ref 143), some (.int (zI bk)), some (.int (zI nt)), some (.int (zI kd)), some (.int (zI fr)), some (.int (zI fi)), some (.int (zI ra)), none], [.int (zI 1), .int (zI 0), .ref 143], es1)) i_209_28 (by rfl) ?_
              refine x_call (vs := [.ref 143, .int (zI 0), .int (zI 1)]) (rs := []) i_209_29 rfl (fun _ => rfl) rfl rfl rfl rfl rfl (pCall_v (p := 79) hs_es1 rfl rfl rfl rfl rfl (by decide) rfl rfl rfl rfl rfl) ?_
              show aW _ _ _ _ _ _ (0, [some (.ref 143), some (.int (zI 0)), some (.int (zI 1))], [], es1)
              refine x0 (r := (1, [some (.ref 143), some (.int (zI 0)), some (.int (zI 1))], [.int (zI 0)], es1)) i_194_0 rfl ?_
              refine x_ifT i_194_1 (by unfold i32 iLO iHI; omega) rfl (by simp only [zC, cR]; omega) ?_
              refine x0 (r := (10, [some (.ref 143), some (.int (zI 0)), some (.int (zI 1))], [.int (zI 0)], es1)) i_194_9 rfl ?_
              refine x_ret (v := some (.int (zI 0))) i_194_10 rfl (fun _ => rfl) rfl rfl (pFin_b (by omega)) ?_
              show aW _ _ _ _ _ _ (32, [some (.ref 143), some (.int (zI bk)), some (.int (zI nt)), some (.int (zI kd)), some (.int (zI fr)), some (.int (zI fi)), some (.int (zI ra)), none], [.int (zI 0)], es1)
              refine x_ifF i_209_32 (by unfold i32 iLO iHI; omega) rfl (by simp only [zC, cR]; omega) ?_
              refine x0 (r := (36, [some (.ref 143), some (.int (zI bk)), some (.int (zI nt)), some (.int (zI kd)), some (.int (zI fr)), some (.int (zI fi)), some (.int (zI ra)), none], [.ref 143], es1)) i_209_35 rfl ?_
              refine x0 (r := (38, [some (.ref 143), some (.int (zI bk)), some (.int (zI nt)), some (.int (zI kd)), some (.int (zI fr)), some (.int (zI fi)), some (.int (zI ra)), none], [.int (zI fr), .ref 143], es1)) i_209_36 rfl ?_
              refine x0 (r := (40, [some (.ref 143), some (.int (zI bk)), some (.int (zI nt)), some (.int (zI kd)), some (.int (zI fr)), some (.int (zI fi)), some (.int (zI ra)), none], [.int (zI fi), .int (zI fr), .ref 143], es1)) i_209_38 rfl ?_
              refine x0 (r := (42, [some (.ref 143), some (.int (zI bk)), some (.int (zI nt)), some (.int (zI kd)), some (.int (zI fr)), some (.int (zI fi)), some (.int (zI ra)), none], [.int (zI ra), .int (zI fi), .int (zI fr), .ref 143], es1)) i_209_40 rfl ?_
              refine x_call (vs := [.int (zI fr), .int (zI fi), .int (zI ra)]) (rs := [.ref 143]) i_209_42 rfl (fun _ => rfl) rfl rfl rfl rfl rfl rfl ?_
              show aW _ _ _ _ _ _ (0, [some (.int (zI fr)), some (.int (zI fi)), some (.int (zI ra))], [], es1)
              refine x0 (r := (1, [some (.int (zI fr)), some (.int (zI fi)), some (.int (zI ra))], [.int (zI fr)], es1)) i_204_0 rfl ?_
              refine x0 (r := (2, [some (.int (zI fr)), some (.int (zI fi)), some (.int (zI ra))], [.int (zI (-1)), .int (zI fr)], es1)) i_204_1 (by rfl) ?_
              refine x0 (r := (3, [some (.int (zI fr)), some (.int (zI fi)), some (.int (zI ra))], [.int (zI 5), .int (zI (-1)), .int (zI fr)], es1)) i_204_2 (by rfl) ?_
              refine x_call (vs := [.int (zI fr), .int (zI (-1)), .int (zI 5)]) (rs := []) i_204_3 rfl (fun _ => rfl) rfl rfl rfl rfl rfl rfl ?_
              show aW _ _ _ _ _ _ (0, [some (.int (zI fr)), some (.int (zI (-1))), some (.int (zI 5))], [], es1)
              refine x0 (r := (1, [some (.int (zI fr)), some (.int (zI (-1))), some (.int (zI 5))], [.int (zI fr)], es1)) i_193_0 rfl ?_
              refine x0 (r := (2, [some (.int (zI fr)), some (.int (zI (-1))), some (.int (zI 5))], [.int (zI (-1)), .int (zI fr)], es1)) i_193_1 rfl ?_
              by_cases c17 : fr < (-1)
              · refine x_cmpT i_193_2 (by unfold i32 iLO iHI; omega) (by unfold i32 iLO iHI; omega) rfl (by simp only [zC, cR]; omega) ?_
                refine x0 (r := (15, [some (.int (zI fr)), some (.int (zI (-1))), some (.int (zI 5))], [.int (zI 0)], es1)) i_193_14 (by rfl) ?_
                refine x_ret (v := some (.int (zI 0))) i_193_15 rfl (fun _ => rfl) rfl rfl (pFin_b (by omega)) ?_
                show aW _ _ _ _ _ _ (6, [some (.int (zI fr)), some (.int (zI fi)), some (.int (zI ra))], [.int (zI 0)], es1)
                refine x_ifT i_204_6 (by unfold i32 iLO iHI; omega) rfl (by simp only [zC, cR]; omega) ?_
                refine x0 (r := (28, [some (.int (zI fr)), some (.int (zI fi)), some (.int (zI ra))], [.int (zI 1)], es1)) i_204_27 (by rfl) ?_
                refine x0 (r := (32, [some (.int (zI fr)), some (.int (zI fi)), some (.int (zI ra))], [.int (zI 1)], es1)) i_204_28 rfl ?_
                refine x_ret (v := some (.int (zI 1))) i_204_32 rfl (fun _ => rfl) rfl rfl (pFin_b (by omega)) ?_
                show aW _ _ _ _ _ _ (45, [some (.ref 143), some (.int (zI bk)), some (.int (zI nt)), some (.int (zI kd)), some (.int (zI fr)), some (.int (zI fi)), some (.int (zI ra)), none], [.int (zI 1), .ref 143], es1)
                refine x0 (r := (46, [some (.ref 143), some (.int (zI bk)), some (.int (zI nt)), some (.int (zI kd)), some (.int (zI fr)), some (.int (zI fi)), some (.int (zI ra)), none], [.int (zI 2), .int (zI 1), .ref 143], es1)) i_209_45 (by rfl) ?_
                refine x_call (vs := [.ref 143, .int (zI 1), .int (zI 2)]) (rs := []) i_209_46 rfl (fun _ => rfl) rfl rfl rfl rfl rfl (pCall_v (p := 79) hs_es1 rfl rfl rfl rfl rfl (by decide) rfl rfl rfl rfl rfl) ?_
                show aW _ _ _ _ _ _ (0, [some (.ref 143), some (.int (zI 1)), some (.int (zI 2))], [], es1)
                refine x0 (r := (1, [some (.ref 143), some (.int (zI 1)), some (.int (zI 2))], [.int (zI 1)], es1)) i_194_0 rfl ?_
                refine x_ifF i_194_1 (by unfold i32 iLO iHI; omega) rfl (by simp only [zC, cR]; omega) ?_
                refine x0 (r := (5, [some (.ref 143), some (.int (zI 1)), some (.int (zI 2))], [.ref 143], es1)) i_194_4 rfl ?_
                refine x0 (r := (6, [some (.ref 143), some (.int (zI 1)), some (.int (zI 2))], [.int (zI 2), .ref 143], es1)) i_194_5 rfl ?_
                refine x_puti (p := 79) (ty := .int) i_194_6 hs_es1 rfl rfl rfl (Or.inl rfl) ?_
                obtain ⟨es18, e_es18⟩ : ∃ z : PH, z = sI es1 79 0 (.int (zI 2)) := ⟨_, rfl⟩
                have hs_es18 : sh es18 := by rw [e_es18]; exact sh_sI hs_es1 (p := 79) (b := 0) rfl rfl
                have hT_es18 : hOK tT es18 := by rw [e_es18]; exact hOK_sI hT_es1 (p := 79) (b := 0) (lo := iLO) (hi := iHI) rfl rfl (i32_rng _)
                rw [← e_es18]
                refine x0 (r := (10, [some (.ref 143), some (.int (zI 1)), some (.int (zI 2))], [.int (zI 1)], es18)) i_194_9 rfl ?_
                refine x_ret (v := some (.int (zI 1))) i_194_10 rfl (fun _ => rfl) rfl rfl (pFin_b (by omega)) ?_
                show aW _ _ _ _ _ _ (49, [some (.ref 143), some (.int (zI bk)), some (.int (zI nt)), some (.int (zI kd)), some (.int (zI fr)), some (.int (zI fi)), some (.int (zI ra)), none], [.int (zI 1)], es18)
                refine x_ifF i_209_49 (by unfold i32 iLO iHI; omega) rfl (by simp only [zC, cR]; omega) ?_
                refine x0 (r := (53, [some (.ref 143), some (.int (zI bk)), some (.int (zI nt)), some (.int (zI kd)), some (.int (zI fr)), some (.int (zI fi)), some (.int (zI ra)), none], [.int (zI 0)], es18)) i_209_52 (by rfl) ?_
                refine x_ret (v := some (.int (zI 0))) i_209_53 rfl (fun _ => rfl) rfl rfl (pFin_b (by omega)) ?_
                exact K7 es1 e_es1 v2 e_v2 c3 c5 v7 e_v7 c8 c10 v12 e_v12 c13 c15 c17 es18 e_es18
              · refine x_cmpF i_193_2 (by unfold i32 iLO iHI; omega) (by unfold i32 iLO iHI; omega) rfl (by simp only [zC, cR]; omega) ?_
                refine x0 (r := (6, [some (.int (zI fr)), some (.int (zI (-1))), some (.int (zI 5))], [.int (zI fr)], es1)) i_193_5 rfl ?_
                refine x0 (r := (7, [some (.int (zI fr)), some (.int (zI (-1))), some (.int (zI 5))], [.int (zI 5), .int (zI fr)], es1)) i_193_6 rfl ?_
                by_cases c19 : 5 < fr
                · refine x_cmpT i_193_7 (by unfold i32 iLO iHI; omega) (by unfold i32 iLO iHI; omega) rfl (by simp only [zC, cR]; omega) ?_
                  refine x0 (r := (15, [some (.int (zI fr)), some (.int (zI (-1))), some (.int (zI 5))], [.int (zI 0)], es1)) i_193_14 (by rfl) ?_
                  refine x_ret (v := some (.int (zI 0))) i_193_15 rfl (fun _ => rfl) rfl rfl (pFin_b (by omega)) ?_
                  show aW _ _ _ _ _ _ (6, [some (.int (zI fr)), some (.int (zI fi)), some (.int (zI ra))], [.int (zI 0)], es1)
                  refine x_ifT i_204_6 (by unfold i32 iLO iHI; omega) rfl (by simp only [zC, cR]; omega) ?_
                  refine x0 (r := (28, [some (.int (zI fr)), some (.int (zI fi)), some (.int (zI ra))], [.int (zI 1)], es1)) i_204_27 (by rfl) ?_
                  refine x0 (r := (32, [some (.int (zI fr)), some (.int (zI fi)), some (.int (zI ra))], [.int (zI 1)], es1)) i_204_28 rfl ?_
                  refine x_ret (v := some (.int (zI 1))) i_204_32 rfl (fun _ => rfl) rfl rfl (pFin_b (by omega)) ?_
                  show aW _ _ _ _ _ _ (45, [some (.ref 143), some (.int (zI bk)), some (.int (zI nt)), some (.int (zI kd)), some (.int (zI fr)), some (.int (zI fi)), some (.int (zI ra)), none], [.int (zI 1), .ref 143], es1)
                  refine x0 (r := (46, [some (.ref 143), some (.int (zI bk)), some (.int (zI nt)), some (.int (zI kd)), some (.int (zI fr)), some (.int (zI fi)), some (.int (zI ra)), none], [.int (zI 2), .int (zI 1), .ref 143], es1)) i_209_45 (by rfl) ?_
                  refine x_call (vs := [.ref 143, .int (zI 1), .int (zI 2)]) (rs := []) i_209_46 rfl (fun _ => rfl) rfl rfl rfl rfl rfl (pCall_v (p := 79) hs_es1 rfl rfl rfl rfl rfl (by decide) rfl rfl rfl rfl rfl) ?_
                  show aW _ _ _ _ _ _ (0, [some (.ref 143), some (.int (zI 1)), some (.int (zI 2))], [], es1)
                  refine x0 (r := (1, [some (.ref 143), some (.int (zI 1)), some (.int (zI 2))], [.int (zI 1)], es1)) i_194_0 rfl ?_
                  refine x_ifF i_194_1 (by unfold i32 iLO iHI; omega) rfl (by simp only [zC, cR]; omega) ?_
                  refine x0 (r := (5, [some (.ref 143), some (.int (zI 1)), some (.int (zI 2))], [.ref 143], es1)) i_194_4 rfl ?_
                  refine x0 (r := (6, [some (.ref 143), some (.int (zI 1)), some (.int (zI 2))], [.int (zI 2), .ref 143], es1)) i_194_5 rfl ?_
                  refine x_puti (p := 79) (ty := .int) i_194_6 hs_es1 rfl rfl rfl (Or.inl rfl) ?_
                  obtain ⟨es20, e_es20⟩ : ∃ z : PH, z = sI es1 79 0 (.int (zI 2)) := ⟨_, rfl⟩
                  have hs_es20 : sh es20 := by rw [e_es20]; exact sh_sI hs_es1 (p := 79) (b := 0) rfl rfl
                  have hT_es20 : hOK tT es20 := by rw [e_es20]; exact hOK_sI hT_es1 (p := 79) (b := 0) (lo := iLO) (hi := iHI) rfl rfl (i32_rng _)
                  rw [← e_es20]
                  refine x0 (r := (10, [some (.ref 143), some (.int (zI 1)), some (.int (zI 2))], [.int (zI 1)], es20)) i_194_9 rfl ?_
                  refine x_ret (v := some (.int (zI 1))) i_194_10 rfl (fun _ => rfl) rfl rfl (pFin_b (by omega)) ?_
                  show aW _ _ _ _ _ _ (49, [some (.ref 143), some (.int (zI bk)), some (.int (zI nt)), some (.int (zI kd)), some (.int (zI fr)), some (.int (zI fi)), some (.int (zI ra)), none], [.int (zI 1)], es20)
                  refine x_ifF i_209_49 (by unfold i32 iLO iHI; omega) rfl (by simp only [zC, cR]; omega) ?_
                  refine x0 (r := (53, [some (.ref 143), some (.int (zI bk)), some (.int (zI nt)), some (.int (zI kd)), some (.int (zI fr)), some (.int (zI fi)), some (.int (zI ra)), none], [.int (zI 0)], es20)) i_209_52 (by rfl) ?_
                  refine x_ret (v := some (.int (zI 0))) i_209_53 rfl (fun _ => rfl) rfl rfl (pFin_b (by omega)) ?_
                  exact K8 es1 e_es1 v2 e_v2 c3 c5 v7 e_v7 c8 c10 v12 e_v12 c13 c15 c17 c19 es20 e_es20
                · refine x_cmpF i_193_7 (by unfold i32 iLO iHI; omega) (by unfold i32 iLO iHI; omega) rfl (by simp only [zC, cR]; omega) ?_
                  refine x0 (r := (11, [some (.int (zI fr)), some (.int (zI (-1))), some (.int (zI 5))], [.int (zI 1)], es1)) i_193_10 (by rfl) ?_
                  refine x0 (r := (15, [some (.int (zI fr)), some (.int (zI (-1))), some (.int (zI 5))], [.int (zI 1)], es1)) i_193_11 rfl ?_
                  refine x_ret (v := some (.int (zI 1))) i_193_15 rfl (fun _ => rfl) rfl rfl (pFin_b (by omega)) ?_
                  show aW _ _ _ _ _ _ (6, [some (.int (zI fr)), some (.int (zI fi)), some (.int (zI ra))], [.int (zI 1)], es1)
                  refine x_ifF i_204_6 (by unfold i32 iLO iHI; omega) rfl (by simp only [zC, cR]; omega) ?_
                  refine x0 (r := (10, [some (.int (zI fr)), some (.int (zI fi)), some (.int (zI ra))], [.int (zI fi)], es1)) i_204_9 rfl ?_
                  refine x0 (r := (11, [some (.int (zI fr)), some (.int (zI fi)), some (.int (zI ra))], [.int (zI 0), .int (zI fi)], es1)) i_204_10 (by rfl) ?_
                  refine x0 (r := (12, [some (.int (zI fr)), some (.int (zI fi)), some (.int (zI ra))], [.int (zI 5), .int (zI 0), .int (zI fi)], es1)) i_204_11 (by rfl) ?_
                  refine x_call (vs := [.int (zI fi), .int (zI 0), .int (zI 5)]) (rs := []) i_204_12 rfl (fun _ => rfl) rfl rfl rfl rfl rfl rfl ?_
                  show aW _ _ _ _ _ _ (0, [some (.int (zI fi)), some (.int (zI 0)), some (.int (zI 5))], [], es1)
                  refine x0 (r := (1, [some (.int (zI fi)), some (.int (zI 0)), some (.int (zI 5))], [.int (zI fi)], es1)) i_193_0 rfl ?_
                  refine x0 (r := (2, [some (.int (zI fi)), some (.int (zI 0)), some (.int (zI 5))], [.int (zI 0), .int (zI fi)], es1)) i_193_1 rfl ?_
                  by_cases c21 : fi < 0
                  · refine x_cmpT i_193_2 (by unfold i32 iLO iHI; omega) (by unfold i32 iLO iHI; omega) rfl (by simp only [zC, cR]; omega) ?_
                    refine x0 (r := (15, [some (.int (zI fi)), some (.int (zI 0)), some (.int (zI 5))], [.int (zI 0)], es1)) i_193_14 (by rfl) ?_
                    refine x_ret (v := some (.int (zI 0))) i_193_15 rfl (fun _ => rfl) rfl rfl (pFin_b (by omega)) ?_
                    show aW _ _ _ _ _ _ (15, [some (.int (zI fr)), some (.int (zI fi)), some (.int (zI ra))], [.int (zI 0)], es1)
                    refine x_ifT i_204_15 (by unfold i32 iLO iHI; omega) rfl (by simp only [zC, cR]; omega) ?_
                    refine x0 (r := (28, [some (.int (zI fr)), some (.int (zI fi)), some (.int (zI ra))], [.int (zI 1)], es1)) i_204_27 (by rfl) ?_
                    refine x0 (r := (32, [some (.int (zI fr)), some (.int (zI fi)), some (.int (zI ra))], [.int (zI 1)], es1)) i_204_28 rfl ?_
                    refine x_ret (v := some (.int (zI 1))) i_204_32 rfl (fun _ => rfl) rfl rfl (pFin_b (by omega)) ?_
                    show aW _ _ _ _ _ _ (45, [some (.ref 143), some (.int (zI bk)), some (.int (zI nt)), some (.int (zI kd)), some (.int (zI fr)), some (.int (zI fi)), some (.int (zI ra)), none], [.int (zI 1), .ref 143], es1)
                    refine x0 (r := (46, [some (.ref 143), some (.int (zI bk)), some (.int (zI nt)), some (.int (zI kd)), some (.int (zI fr)), some (.int (zI fi)), some (.int (zI ra)), none], [.int (zI 2), .int (zI 1), .ref 143], es1)) i_209_45 (by rfl) ?_
                    refine x_call (vs := [.ref 143, .int (zI 1), .int (zI 2)]) (rs := []) i_209_46 rfl (fun _ => rfl) rfl rfl rfl rfl rfl (pCall_v (p := 79) hs_es1 rfl rfl rfl rfl rfl (by decide) rfl rfl rfl rfl rfl) ?_
                    show aW _ _ _ _ _ _ (0, [some (.ref 143), some (.int (zI 1)), some (.int (zI 2))], [], es1)
                    refine x0 (r := (1, [some (.ref 143), some (.int (zI 1)), some (.int (zI 2))], [.int (zI 1)], es1)) i_194_0 rfl ?_
                    refine x_ifF i_194_1 (by unfold i32 iLO iHI; omega) rfl (by simp only [zC, cR]; omega) ?_
                    refine x0 (r := (5, [some (.ref 143), some (.int (zI 1)), some (.int (zI 2))], [.ref 143], es1)) i_194_4 rfl ?_
                    refine x0 (r := (6, [some (.ref 143), some (.int (zI 1)), some (.int (zI 2))], [.int (zI 2), .ref 143], es1)) i_194_5 rfl ?_
                    refine x_puti (p := 79) (ty := .int) i_194_6 hs_es1 rfl rfl rfl (Or.inl rfl) ?_
                    obtain ⟨es22, e_es22⟩ : ∃ z : PH, z = sI es1 79 0 (.int (zI 2)) := ⟨_, rfl⟩
                    have hs_es22 : sh es22 := by rw [e_es22]; exact sh_sI hs_es1 (p := 79) (b := 0) rfl rfl
                    have hT_es22 : hOK tT es22 := by rw [e_es22]; exact hOK_sI hT_es1 (p := 79) (b := 0) (lo := iLO) (hi := iHI) rfl rfl (i32_rng _)
                    rw [← e_es22]
                    refine x0 (r := (10, [some (.ref 143), some (.int (zI 1)), some (.int (zI 2))], [.int (zI 1)], es22)) i_194_9 rfl ?_
                    refine x_ret (v := some (.int (zI 1))) i_194_10 rfl (fun _ => rfl) rfl rfl (pFin_b (by omega)) ?_
                    show aW _ _ _ _ _ _ (49, [some (.ref 143), some (.int (zI bk)), some (.int (zI nt)), some (.int (zI kd)), some (.int (zI fr)), some (.int (zI fi)), some (.int (zI ra)), none], [.int (zI 1)], es22)
                    refine x_ifF i_209_49 (by unfold i32 iLO iHI; omega) rfl (by simp only [zC, cR]; omega) ?_
                    refine x0 (r := (53, [some (.ref 143), some (.int (zI bk)), some (.int (zI nt)), some (.int (zI kd)), some (.int (zI fr)), some (.int (zI fi)), some (.int (zI ra)), none], [.int (zI 0)], es22)) i_209_52 (by rfl) ?_
                    refine x_ret (v := some (.int (zI 0))) i_209_53 rfl (fun _ => rfl) rfl rfl (pFin_b (by omega)) ?_
                    exact K9 es1 e_es1 v2 e_v2 c3 c5 v7 e_v7 c8 c10 v12 e_v12 c13 c15 c17 c19 c21 es22 e_es22
                  · refine x_cmpF i_193_2 (by unfold i32 iLO iHI; omega) (by unfold i32 iLO iHI; omega) rfl (by simp only [zC, cR]; omega) ?_
                    refine x0 (r := (6, [some (.int (zI fi)), some (.int (zI 0)), some (.int (zI 5))], [.int (zI fi)], es1)) i_193_5 rfl ?_
                    refine x0 (r := (7, [some (.int (zI fi)), some (.int (zI 0)), some (.int (zI 5))], [.int (zI 5), .int (zI fi)], es1)) i_193_6 rfl ?_
                    by_cases c23 : 5 < fi
                    · refine x_cmpT i_193_7 (by unfold i32 iLO iHI; omega) (by unfold i32 iLO iHI; omega) rfl (by simp only [zC, cR]; omega) ?_
                      refine x0 (r := (15, [some (.int (zI fi)), some (.int (zI 0)), some (.int (zI 5))], [.int (zI 0)], es1)) i_193_14 (by rfl) ?_
                      refine x_ret (v := some (.int (zI 0))) i_193_15 rfl (fun _ => rfl) rfl rfl (pFin_b (by omega)) ?_
                      show aW _ _ _ _ _ _ (15, [some (.int (zI fr)), some (.int (zI fi)), some (.int (zI ra))], [.int (zI 0)], es1)
                      refine x_ifT i_204_15 (by unfold i32 iLO iHI; omega) rfl (by simp only [zC, cR]; omega) ?_
                      refine x0 (r := (28, [some (.int (zI fr)), some (.int (zI fi)), some (.int (zI ra))], [.int (zI 1)], es1)) i_204_27 (by rfl) ?_
                      refine x0 (r := (32, [some (.int (zI fr)), some (.int (zI fi)), some (.int (zI ra))], [.int (zI 1)], es1)) i_204_28 rfl ?_
                      refine x_ret (v := some (.int (zI 1))) i_204_32 rfl (fun _ => rfl) rfl rfl (pFin_b (by omega)) ?_
                      show aW _ _ _ _ _ _ (45, [some (.ref 143), some (.int (zI bk)), some (.int (zI nt)), some (.int (zI kd)), some (.int (zI fr)), some (.int (zI fi)), some (.int (zI ra)), none], [.int (zI 1), .ref 143], es1)
                      refine x0 (r := (46, [some (.ref 143), some (.int (zI bk)), some (.int (zI nt)), some (.int (zI kd)), some (.int (zI fr)), some (.int (zI fi)), some (.int (zI ra)), none], [.int (zI 2), .int (zI 1), .ref 143], es1)) i_209_45 (by rfl) ?_
                      refine x_call (vs := [.ref 143, .int (zI 1), .int (zI 2)]) (rs := []) i_209_46 rfl (fun _ => rfl) rfl rfl rfl rfl rfl (pCall_v (p := 79) hs_es1 rfl rfl rfl rfl rfl (by decide) rfl rfl rfl rfl rfl) ?_
                      show aW _ _ _ _ _ _ (0, [some (.ref 143), some (.int (zI 1)), some (.int (zI 2))], [], es1)
                      refine x0 (r := (1, [some (.ref 143), some (.int (zI 1)), some (.int (zI 2))], [.int (zI 1)], es1)) i_194_0 rfl ?_
                      refine x_ifF i_194_1 (by unfold i32 iLO iHI; omega) rfl (by simp only [zC, cR]; omega) ?_
                      refine x0 (r := (5, [some (.ref 143), some (.int (zI 1)), some (.int (zI 2))], [.ref 143], es1)) i_194_4 rfl ?_
                      refine x0 (r := (6, [some (.ref 143), some (.int (zI 1)), some (.int (zI 2))], [.int (zI 2), .ref 143], es1)) i_194_5 rfl ?_
                      refine x_puti (p := 79) (ty := .int) i_194_6 hs_es1 rfl rfl rfl (Or.inl rfl) ?_
                      obtain ⟨es24, e_es24⟩ : ∃ z : PH, z = sI es1 79 0 (.int (zI 2)) := ⟨_, rfl⟩
                      have hs_es24 : sh es24 := by rw [e_es24]; exact sh_sI hs_es1 (p := 79) (b := 0) rfl rfl
                      have hT_es24 : hOK tT es24 := by rw [e_es24]; exact hOK_sI hT_es1 (p := 79) (b := 0) (lo := iLO) (hi := iHI) rfl rfl (i32_rng _)
                      rw [← e_es24]
                      refine x0 (r := (10, [some (.ref 143), some (.int (zI 1)), some (.int (zI 2))], [.int (zI 1)], es24)) i_194_9 rfl ?_
                      refine x_ret (v := some (.int (zI 1))) i_194_10 rfl (fun _ => rfl) rfl rfl (pFin_b (by omega)) ?_
                      show aW _ _ _ _ _ _ (49, [some (.ref 143), some (.int (zI bk)), some (.int (zI nt)), some (.int (zI kd)), some (.int (zI fr)), some (.int (zI fi)), some (.int (zI ra)), none], [.int (zI 1)], es24)
                      refine x_ifF i_209_49 (by unfold i32 iLO iHI; omega) rfl (by simp only [zC, cR]; omega) ?_
                      refine x0 (r := (53, [some (.ref 143), some (.int (zI bk)), some (.int (zI nt)), some (.int (zI kd)), some (.int (zI fr)), some (.int (zI fi)), some (.int (zI ra)), none], [.int (zI 0)], es24)) i_209_52 (by rfl) ?_
                      refine x_ret (v := some (.int (zI 0))) i_209_53 rfl (fun _ => rfl) rfl rfl (pFin_b (by omega)) ?_
                      exact K10 es1 e_es1 v2 e_v2 c3 c5 v7 e_v7 c8 c10 v12 e_v12 c13 c15 c17 c19 c21 c23 es24 e_es24
                    · refine x_cmpF i_193_7 (by unfold i32 iLO iHI; omega) (by unfold i32 iLO iHI; omega) rfl (by simp only [zC, cR]; omega) ?_
                      refine x0 (r := (11, [some (.int (zI fi)), some (.int (zI 0)), some (.int (zI 5))], [.int (zI 1)], es1)) i_193_10 (by rfl) ?_
                      refine x0 (r := (15, [some (.int (zI fi)), some (.int (zI 0)), some (.int (zI 5))], [.int (zI 1)], es1)) i_193_11 rfl ?_
                      refine x_ret (v := some (.int (zI 1))) i_193_15 rfl (fun _ => rfl) rfl rfl (pFin_b (by omega)) ?_
                      show aW _ _ _ _ _ _ (15, [some (.int (zI fr)), some (.int (zI fi)), some (.int (zI ra))], [.int (zI 1)], es1)
                      refine x_ifF i_204_15 (by unfold i32 iLO iHI; omega) rfl (by simp only [zC, cR]; omega) ?_
                      refine x0 (r := (19, [some (.int (zI fr)), some (.int (zI fi)), some (.int (zI ra))], [.int (zI ra)], es1)) i_204_18 rfl ?_
                      refine x0 (r := (20, [some (.int (zI fr)), some (.int (zI fi)), some (.int (zI ra))], [.int (zI 0), .int (zI ra)], es1)) i_204_19 (by rfl) ?_
                      refine x0 (r := (21, [some (.int (zI fr)), some (.int (zI fi)), some (.int (zI ra))], [.int (zI 5), .int (zI 0), .int (zI ra)], es1)) i_204_20 (by rfl) ?_
                      refine x_call (vs := [.int (zI ra), .int (zI 0), .int (zI 5)]) (rs := []) i_204_21 rfl (fun _ => rfl) rfl rfl rfl rfl rfl rfl ?_
                      show aW _ _ _ _ _ _ (0, [some (.int (zI ra)), some (.int (zI 0)), some (.int (zI 5))], [], es1)
                      refine x0 (r := (1, [some (.int (zI ra)), some (.int (zI 0)), some (.int (zI 5))], [.int (zI ra)], es1)) i_193_0 rfl ?_
                      refine x0 (r := (2, [some (.int (zI ra)), some (.int (zI 0)), some (.int (zI 5))], [.int (zI 0), .int (zI ra)], es1)) i_193_1 rfl ?_
                      by_cases c25 : ra < 0
                      · refine x_cmpT i_193_2 (by unfold i32 iLO iHI; omega) (by unfold i32 iLO iHI; omega) rfl (by simp only [zC, cR]; omega) ?_
                        refine x0 (r := (15, [some (.int (zI ra)), some (.int (zI 0)), some (.int (zI 5))], [.int (zI 0)], es1)) i_193_14 (by rfl) ?_
                        refine x_ret (v := some (.int (zI 0))) i_193_15 rfl (fun _ => rfl) rfl rfl (pFin_b (by omega)) ?_
                        show aW _ _ _ _ _ _ (24, [some (.int (zI fr)), some (.int (zI fi)), some (.int (zI ra))], [.int (zI 0)], es1)
                        refine x_ifF i_204_24 (by unfold i32 iLO iHI; omega) rfl (by simp only [zC, cR]; omega) ?_
                        refine x0 (r := (28, [some (.int (zI fr)), some (.int (zI fi)), some (.int (zI ra))], [.int (zI 1)], es1)) i_204_27 (by rfl) ?_
                        refine x0 (r := (32, [some (.int (zI fr)), some (.int (zI fi)), some (.int (zI ra))], [.int (zI 1)], es1)) i_204_28 rfl ?_
                        refine x_ret (v := some (.int (zI 1))) i_204_32 rfl (fun _ => rfl) rfl rfl (pFin_b (by omega)) ?_
                        show aW _ _ _ _ _ _ (45, [some (.ref 143), some (.int (zI bk)), some (.int (zI nt)), some (.int (zI kd)), some (.int (zI fr)), some (.int (zI fi)), some (.int (zI ra)), none], [.int (zI 1), .ref 143], es1)
                        refine x0 (r := (46, [some (.ref 143), some (.int (zI bk)), some (.int (zI nt)), some (.int (zI kd)), some (.int (zI fr)), some (.int (zI fi)), some (.int (zI ra)), none], [.int (zI 2), .int (zI 1), .ref 143], es1)) i_209_45 (by rfl) ?_
                        refine x_call (vs := [.ref 143, .int (zI 1), .int (zI 2)]) (rs := []) i_209_46 rfl (fun _ => rfl) rfl rfl rfl rfl rfl (pCall_v (p := 79) hs_es1 rfl rfl rfl rfl rfl (by decide) rfl rfl rfl rfl rfl) ?_
                        show aW _ _ _ _ _ _ (0, [some (.ref 143), some (.int (zI 1)), some (.int (zI 2))], [], es1)
                        refine x0 (r := (1, [some (.ref 143), some (.int (zI 1)), some (.int (zI 2))], [.int (zI 1)], es1)) i_194_0 rfl ?_
                        refine x_ifF i_194_1 (by unfold i32 iLO iHI; omega) rfl (by simp only [zC, cR]; omega) ?_
                        refine x0 (r := (5, [some (.ref 143), some (.int (zI 1)), some (.int (zI 2))], [.ref 143], es1)) i_194_4 rfl ?_
                        refine x0 (r := (6, [some (.ref 143), some (.int (zI 1)), some (.int (zI 2))], [.int (zI 2), .ref 143], es1)) i_194_5 rfl ?_
                        refine x_puti (p := 79) (ty := .int) i_194_6 hs_es1 rfl rfl rfl (Or.inl rfl) ?_
                        obtain ⟨es26, e_es26⟩ : ∃ z : PH, z = sI es1 79 0 (.int (zI 2)) := ⟨_, rfl⟩
                        have hs_es26 : sh es26 := by rw [e_es26]; exact sh_sI hs_es1 (p := 79) (b := 0) rfl rfl
                        have hT_es26 : hOK tT es26 := by rw [e_es26]; exact hOK_sI hT_es1 (p := 79) (b := 0) (lo := iLO) (hi := iHI) rfl rfl (i32_rng _)
                        rw [← e_es26]
                        refine x0 (r := (10, [some (.ref 143), some (.int (zI 1)), some (.int (zI 2))], [.int (zI 1)], es26)) i_194_9 rfl ?_
                        refine x_ret (v := some (.int (zI 1))) i_194_10 rfl (fun _ => rfl) rfl rfl (pFin_b (by omega)) ?_
                        show aW _ _ _ _ _ _ (49, [some (.ref 143), some (.int (zI bk)), some (.int (zI nt)), some (.int (zI kd)), some (.int (zI fr)), some (.int (zI fi)), some (.int (zI ra)), none], [.int (zI 1)], es26)
                        refine x_ifF i_209_49 (by unfold i32 iLO iHI; omega) rfl (by simp only [zC, cR]; omega) ?_
                        refine x0 (r := (53, [some (.ref 143), some (.int (zI bk)), some (.int (zI nt)), some (.int (zI kd)), some (.int (zI fr)), some (.int (zI fi)), some (.int (zI ra)), none], [.int (zI 0)], es26)) i_209_52 (by rfl) ?_
                        refine x_ret (v := some (.int (zI 0))) i_209_53 rfl (fun _ => rfl) rfl rfl (pFin_b (by omega)) ?_
                        exact K11 es1 e_es1 v2 e_v2 c3 c5 v7 e_v7 c8 c10 v12 e_v12 c13 c15 c17 c19 c21 c23 c25 es26 e_es26
                      · refine x_cmpF i_193_2 (by unfold i32 iLO iHI; omega) (by unfold i32 iLO iHI; omega) rfl (by simp only [zC, cR]; omega) ?_
                        refine x0 (r := (6, [some (.int (zI ra)), some (.int (zI 0)), some (.int (zI 5))], [.int (zI ra)], es1)) i_193_5 rfl ?_
                        refine x0 (r := (7, [some (.int (zI ra)), some (.int (zI 0)), some (.int (zI 5))], [.int (zI 5), .int (zI ra)], es1)) i_193_6 rfl ?_
                        by_cases c27 : 5 < ra
                        · refine x_cmpT i_193_7 (by unfold i32 iLO iHI; omega) (by unfold i32 iLO iHI; omega) rfl (by simp only [zC, cR]; omega) ?_
                          refine x0 (r := (15, [some (.int (zI ra)), some (.int (zI 0)), some (.int (zI 5))], [.int (zI 0)], es1)) i_193_14 (by rfl) ?_
                          refine x_ret (v := some (.int (zI 0))) i_193_15 rfl (fun _ => rfl) rfl rfl (pFin_b (by omega)) ?_
                          show aW _ _ _ _ _ _ (24, [some (.int (zI fr)), some (.int (zI fi)), some (.int (zI ra))], [.int (zI 0)], es1)
                          refine x_ifF i_204_24 (by unfold i32 iLO iHI; omega) rfl (by simp only [zC, cR]; omega) ?_
                          refine x0 (r := (28, [some (.int (zI fr)), some (.int (zI fi)), some (.int (zI ra))], [.int (zI 1)], es1)) i_204_27 (by rfl) ?_
                          refine x0 (r := (32, [some (.int (zI fr)), some (.int (zI fi)), some (.int (zI ra))], [.int (zI 1)], es1)) i_204_28 rfl ?_
                          refine x_ret (v := some (.int (zI 1))) i_204_32 rfl (fun _ => rfl) rfl rfl (pFin_b (by omega)) ?_
                          show aW _ _ _ _ _ _ (45, [some (.ref 143), some (.int (zI bk)), some (.int (zI nt)), some (.int (zI kd)), some (.int (zI fr)), some (.int (zI fi)), some (.int (zI ra)), none], [.int (zI 1), .ref 143], es1)
                          refine x0 (r := (46, [some (.ref 143), some (.int (zI bk)), some (.int (zI nt)), some (.int (zI kd)), some (.int (zI fr)), some (.int (zI fi)), some (.int (zI ra)), none], [.int (zI 2), .int (zI 1), .ref 143], es1)) i_209_45 (by rfl) ?_
                          refine x_call (vs := [.ref 143, .int (zI 1), .int (zI 2)]) (rs := []) i_209_46 rfl (fun _ => rfl) rfl rfl rfl rfl rfl (pCall_v (p := 79) hs_es1 rfl rfl rfl rfl rfl (by decide) rfl rfl rfl rfl rfl) ?_
                          show aW _ _ _ _ _ _ (0, [some (.ref 143), some (.int (zI 1)), some (.int (zI 2))], [], es1)
                          refine x0 (r := (1, [some (.ref 143), some (.int (zI 1)), some (.int (zI 2))], [.int (zI 1)], es1)) i_194_0 rfl ?_
                          refine x_ifF i_194_1 (by unfold i32 iLO iHI; omega) rfl (by simp only [zC, cR]; omega) ?_
                          refine x0 (r := (5, [some (.ref 143), some (.int (zI 1)), some (.int (zI 2))], [.ref 143], es1)) i_194_4 rfl ?_
                          refine x0 (r := (6, [some (.ref 143), some (.int (zI 1)), some (.int (zI 2))], [.int (zI 2), .ref 143], es1)) i_194_5 rfl ?_
                          refine x_puti (p := 79) (ty := .int) i_194_6 hs_es1 rfl rfl rfl (Or.inl rfl) ?_
                          obtain ⟨es28, e_es28⟩ : ∃ z : PH, z = sI es1 79 0 (.int (zI 2)) := ⟨_, rfl⟩
                          have hs_es28 : sh es28 := by rw [e_es28]; exact sh_sI hs_es1 (p := 79) (b := 0) rfl rfl
                          have hT_es28 : hOK tT es28 := by rw [e_es28]; exact hOK_sI hT_es1 (p := 79) (b := 0) (lo := iLO) (hi := iHI) rfl rfl (i32_rng _)
                          rw [← e_es28]
                          refine x0 (r := (10, [some (.ref 143), some (.int (zI 1)), some (.int (zI 2))], [.int (zI 1)], es28)) i_194_9 rfl ?_
                          refine x_ret (v := some (.int (zI 1))) i_194_10 rfl (fun _ => rfl) rfl rfl (pFin_b (by omega)) ?_
                          show aW _ _ _ _ _ _ (49, [some (.ref 143), some (.int (zI bk)), some (.int (zI nt)), some (.int (zI kd)), some (.int (zI fr)), some (.int (zI fi)), some (.int (zI ra)), none], [.int (zI 1)], es28)
                          refine x_ifF i_209_49 (by unfold i32 iLO iHI; omega) rfl (by simp only [zC, cR]; omega) ?_
                          refine x0 (r := (53, [some (.ref 143), some (.int (zI bk)), some (.int (zI nt)), some (.int (zI kd)), some (.int (zI fr)), some (.int (zI fi)), some (.int (zI ra)), none], [.int (zI 0)], es28)) i_209_52 (by rfl) ?_
                          refine x_ret (v := some (.int (zI 0))) i_209_53 rfl (fun _ => rfl) rfl rfl (pFin_b (by omega)) ?_
                          exact K12 es1 e_es1 v2 e_v2 c3 c5 v7 e_v7 c8 c10 v12 e_v12 c13 c15 c17 c19 c21 c23 c25 c27 es28 e_es28
                        · refine x_cmpF i_193_7 (by unfold i32 iLO iHI; omega) (by unfold i32 iLO iHI; omega) rfl (by simp only [zC, cR]; omega) ?_
                          refine x0 (r := (11, [some (.int (zI ra)), some (.int (zI 0)), some (.int (zI 5))], [.int (zI 1)], es1)) i_193_10 (by rfl) ?_
                          refine x0 (r := (15, [some (.int (zI ra)), some (.int (zI 0)), some (.int (zI 5))], [.int (zI 1)], es1)) i_193_11 rfl ?_
                          refine x_ret (v := some (.int (zI 1))) i_193_15 rfl (fun _ => rfl) rfl rfl (pFin_b (by omega)) ?_
                          show aW _ _ _ _ _ _ (24, [some (.int (zI fr)), some (.int (zI fi)), some (.int (zI ra))], [.int (zI 1)], es1)
                          refine x_ifT i_204_24 (by unfold i32 iLO iHI; omega) rfl (by simp only [zC, cR]; omega) ?_
                          refine x0 (r := (32, [some (.int (zI fr)), some (.int (zI fi)), some (.int (zI ra))], [.int (zI 0)], es1)) i_204_31 (by rfl) ?_
                          refine x_ret (v := some (.int (zI 0))) i_204_32 rfl (fun _ => rfl) rfl rfl (pFin_b (by omega)) ?_
                          show aW _ _ _ _ _ _ (45, [some (.ref 143), some (.int (zI bk)), some (.int (zI nt)), some (.int (zI kd)), some (.int (zI fr)), some (.int (zI fi)), some (.int (zI ra)), none], [.int (zI 0), .ref 143], es1)
                          refine x0 (r := (46, [some (.ref 143), some (.int (zI bk)), some (.int (zI nt)), some (.int (zI kd)), some (.int (zI fr)), some (.int (zI fi)), some (.int (zI ra)), none], [.int (zI 2), .int (zI 0), .ref 143], es1)) i_209_45 (by rfl) ?_
                          refine x_call (vs := [.ref 143, .int (zI 0), .int (zI 2)]) (rs := []) i_209_46 rfl (fun _ => rfl) rfl rfl rfl rfl rfl (pCall_v (p := 79) hs_es1 rfl rfl rfl rfl rfl (by decide) rfl rfl rfl rfl rfl) ?_
                          show aW _ _ _ _ _ _ (0, [some (.ref 143), some (.int (zI 0)), some (.int (zI 2))], [], es1)
                          refine x0 (r := (1, [some (.ref 143), some (.int (zI 0)), some (.int (zI 2))], [.int (zI 0)], es1)) i_194_0 rfl ?_
                          refine x_ifT i_194_1 (by unfold i32 iLO iHI; omega) rfl (by simp only [zC, cR]; omega) ?_
                          refine x0 (r := (10, [some (.ref 143), some (.int (zI 0)), some (.int (zI 2))], [.int (zI 0)], es1)) i_194_9 rfl ?_
                          refine x_ret (v := some (.int (zI 0))) i_194_10 rfl (fun _ => rfl) rfl rfl (pFin_b (by omega)) ?_
                          show aW _ _ _ _ _ _ (49, [some (.ref 143), some (.int (zI bk)), some (.int (zI nt)), some (.int (zI kd)), some (.int (zI fr)), some (.int (zI fi)), some (.int (zI ra)), none], [.int (zI 0)], es1)
                          refine x_ifT i_209_49 (by unfold i32 iLO iHI; omega) rfl (by simp only [zC, cR]; omega) ?_
                          refine x0 (r := (55, [some (.ref 143), some (.int (zI bk)), some (.int (zI nt)), some (.int (zI kd)), some (.int (zI fr)), some (.int (zI fi)), some (.int (zI ra)), none], [.ref 143], es1)) i_209_54 rfl ?_
                          refine x0 (r := (56, [some (.ref 143), some (.int (zI bk)), some (.int (zI nt)), some (.int (zI kd)), some (.int (zI fr)), some (.int (zI fi)), some (.int (zI ra)), none], [.int (zI bk), .ref 143], es1)) i_209_55 rfl ?_
                          refine x0 (r := (57, [some (.ref 143), some (.int (zI bk)), some (.int (zI nt)), some (.int (zI kd)), some (.int (zI fr)), some (.int (zI fi)), some (.int (zI ra)), none], [.int (zI nt), .int (zI bk), .ref 143], es1)) i_209_56 rfl ?_
                          refine x0 (r := (58, [some (.ref 143), some (.int (zI bk)), some (.int (zI nt)), some (.int (zI kd)), some (.int (zI fr)), some (.int (zI fi)), some (.int (zI ra)), none], [.int (zI 0), .int (zI nt), .int (zI bk), .ref 143], es1)) i_209_57 (by rfl) ?_
                          refine x_call (vs := [.ref 143, .int (zI bk), .int (zI nt), .int (zI 0)]) (rs := []) i_209_58 rfl (fun _ => rfl) rfl rfl rfl rfl rfl (pCall_v (p := 79) hs_es1 rfl rfl rfl rfl rfl (by decide) rfl rfl rfl rfl rfl) ?_
                          show aW _ _ _ _ _ _ (0, [some (.ref 143), some (.int (zI bk)), some (.int (zI nt)), some (.int (zI 0))], [], es1)
                          refine x0 (r := (1, [some (.ref 143), some (.int (zI bk)), some (.int (zI nt)), some (.int (zI 0))], [.ref 143], es1)) i_211_0 rfl ?_
                          refine x0 (r := (2, [some (.ref 143), some (.int (zI bk)), some (.int (zI nt)), some (.int (zI 0))], [.int (zI bk), .ref 143], es1)) i_211_1 rfl ?_
                          refine x0 (r := (3, [some (.ref 143), some (.int (zI bk)), some (.int (zI nt)), some (.int (zI 0))], [.int (zI 2), .int (zI bk), .ref 143], es1)) i_211_2 (by rfl) ?_
                          refine x0 (r := (4, [some (.ref 143), some (.int (zI bk)), some (.int (zI nt)), some (.int (zI 0))], [.int (zI 4), .int (zI 2), .int (zI bk), .ref 143], es1)) i_211_3 (by rfl) ?_
                          refine x0 (r := (5, [some (.ref 143), some (.int (zI bk)), some (.int (zI nt)), some (.int (zI 0))], [.int (zI nt), .int (zI 4), .int (zI 2), .int (zI bk), .ref 143], es1)) i_211_4 rfl ?_
                          refine x_imul i_211_5 ?_
                          refine x_iadd i_211_6 ?_
                          refine x0 (r := (8, [some (.ref 143), some (.int (zI bk)), some (.int (zI nt)), some (.int (zI 0))], [.int (zI 0), .int (zI (2 + (4 * nt))), .int (zI bk), .ref 143], es1)) i_211_7 rfl ?_
                          refine x_iadd i_211_8 ?_
                          refine x_call (vs := [.ref 143, .int (zI bk), .int (zI ((2 + (4 * nt)) + 0))]) (rs := []) i_211_9 rfl (fun _ => rfl) rfl rfl rfl rfl rfl (pCall_v (p := 79) hs_es1 rfl rfl rfl rfl rfl (by decide) rfl rfl rfl rfl rfl) ?_
                          show aW _ _ _ _ _ _ (0, [some (.ref 143), some (.int (zI bk)), some (.int (zI ((2 + (4 * nt)) + 0)))], [], es1)
                          refine x0 (r := (1, [some (.ref 143), some (.int (zI bk)), some (.int (zI ((2 + (4 * nt)) + 0)))], [.ref 143], es1)) i_206_0 rfl ?_
                          refine x_getr (p := 79) (k := 144) i_206_1 hs_es1 rfl rfl ?_
                          show aW _ _ _ _ _ _ (4, [some (.ref 143), some (.int (zI bk)), some (.int (zI ((2 + (4 * nt)) + 0)))], [.ref 144], es1)
                          refine x0 (r := (6, [some (.ref 143), some (.int (zI bk)), some (.int (zI ((2 + (4 * nt)) + 0)))], [.int (zI 119), .ref 144], es1)) i_206_4 (by rfl) ?_
                          refine x0 (r := (8, [some (.ref 143), some (.int (zI bk)), some (.int (zI ((2 + (4 * nt)) + 0)))], [.int (zI 98), .int (zI 119), .ref 144], es1)) i_206_6 (by rfl) ?_
                          refine x0 (r := (9, [some (.ref 143), some (.int (zI bk)), some (.int (zI ((2 + (4 * nt)) + 0)))], [.int (zI bk), .int (zI 98), .int (zI 119), .ref 144], es1)) i_206_8 rfl ?_
                          refine x_imul i_206_9 ?_
                          refine x_iadd i_206_10 ?_
                          refine x0 (r := (12, [some (.ref 143), some (.int (zI bk)), some (.int (zI ((2 + (4 * nt)) + 0)))], [.int (zI ((2 + (4 * nt)) + 0)), .int (zI (119 + (98 * bk))), .ref 144], es1)) i_206_11 rfl ?_
                          refine x_iadd i_206_12 ?_
                          refine x_iald (p := 80) i_206_13 hs_es1 rfl (by unfold i32 iLO iHI; omega) (by omega) (by omega) ?_
                          obtain ⟨v29, e_v29⟩ : ∃ z : Int, z = (gA es1 80 ((119 + (98 * bk)) + ((2 + (4 * nt)) + 0)).toNat).toInt := ⟨_, rfl⟩
                          rw [← e_v29]
                          have r_v29 : iLO ≤ v29 ∧ v29 ≤ iHI := by rw [e_v29]; exact i32_rng _
                          unfold iLO iHI at r_v29
                          refine x_ret (v := some (.int (zI v29))) i_206_14 rfl (fun _ => rfl) rfl rfl rfl ?_
                          show aW _ _ _ _ _ _ (12, [some (.ref 143), some (.int (zI bk)), some (.int (zI nt)), some (.int (zI 0))], [.int (zI v29)], es1)
                          refine x_ret (v := some (.int (zI v29))) i_211_12 rfl (fun _ => rfl) rfl rfl rfl ?_
                          show aW _ _ _ _ _ _ (61, [some (.ref 143), some (.int (zI bk)), some (.int (zI nt)), some (.int (zI kd)), some (.int (zI fr)), some (.int (zI fi)), some (.int (zI ra)), none], [.int (zI v29)], es1)
                          refine x0 (r := (62, [some (.ref 143), some (.int (zI bk)), some (.int (zI nt)), some (.int (zI kd)), some (.int (zI fr)), some (.int (zI fi)), some (.int (zI ra)), none], [.int (zI kd), .int (zI v29)], es1)) i_209_61 rfl ?_
                          by_cases c30 : v29 ≠ kd
                          · refine x_cmpT i_209_62 (by unfold i32 iLO iHI; omega) (by unfold i32 iLO iHI; omega) rfl (by simp only [zC, cR]; omega) ?_
                            refine x0 (r := (102, [some (.ref 143), some (.int (zI bk)), some (.int (zI nt)), some (.int (zI kd)), some (.int (zI fr)), some (.int (zI fi)), some (.int (zI ra)), none], [.int (zI 1)], es1)) i_209_101 (by rfl) ?_
                            refine x0 (r := (106, [some (.ref 143), some (.int (zI bk)), some (.int (zI nt)), some (.int (zI kd)), some (.int (zI fr)), some (.int (zI fi)), some (.int (zI ra)), none], [.int (zI 1)], es1)) i_209_102 rfl ?_
                            refine x0 (r := (108, [some (.ref 143), some (.int (zI bk)), some (.int (zI nt)), some (.int (zI kd)), some (.int (zI fr)), some (.int (zI fi)), some (.int (zI ra)), some (.int (zI 1))], [], es1)) i_209_106 rfl ?_
                            refine x0 (r := (109, [some (.ref 143), some (.int (zI bk)), some (.int (zI nt)), some (.int (zI kd)), some (.int (zI fr)), some (.int (zI fi)), some (.int (zI ra)), some (.int (zI 1))], [.ref 143], es1)) i_209_108 rfl ?_
                            refine x0 (r := (110, [some (.ref 143), some (.int (zI bk)), some (.int (zI nt)), some (.int (zI kd)), some (.int (zI fr)), some (.int (zI fi)), some (.int (zI ra)), some (.int (zI 1))], [.int (zI bk), .ref 143], es1)) i_209_109 rfl ?_
                            refine x0 (r := (111, [some (.ref 143), some (.int (zI bk)), some (.int (zI nt)), some (.int (zI kd)), some (.int (zI fr)), some (.int (zI fi)), some (.int (zI ra)), some (.int (zI 1))], [.int (zI nt), .int (zI bk), .ref 143], es1)) i_209_110 rfl ?_
                            refine x0 (r := (112, [some (.ref 143), some (.int (zI bk)), some (.int (zI nt)), some (.int (zI kd)), some (.int (zI fr)), some (.int (zI fi)), some (.int (zI ra)), some (.int (zI 1))], [.int (zI kd), .int (zI nt), .int (zI bk), .ref 143], es1)) i_209_111 rfl ?_
                            refine x0 (r := (114, [some (.ref 143), some (.int (zI bk)), some (.int (zI nt)), some (.int (zI kd)), some (.int (zI fr)), some (.int (zI fi)), some (.int (zI ra)), some (.int (zI 1))], [.int (zI fr), .int (zI kd), .int (zI nt), .int (zI bk), .ref 143], es1)) i_209_112 rfl ?_
                            refine x0 (r := (116, [some (.ref 143), some (.int (zI bk)), some (.int (zI nt)), some (.int (zI kd)), some (.int (zI fr)), some (.int (zI fi)), some (.int (zI ra)), some (.int (zI 1))], [.int (zI fi), .int (zI fr), .int (zI kd), .int (zI nt), .int (zI bk), .ref 143], es1)) i_209_114 rfl ?_
                            refine x0 (r := (118, [some (.ref 143), some (.int (zI bk)), some (.int (zI nt)), some (.int (zI kd)), some (.int (zI fr)), some (.int (zI fi)), some (.int (zI ra)), some (.int (zI 1))], [.int (zI ra), .int (zI fi), .int (zI fr), .int (zI kd), .int (zI nt), .int (zI bk), .ref 143], es1)) i_209_116 rfl ?_
                            refine x_call (vs := [.ref 143, .int (zI bk), .int (zI nt), .int (zI kd), .int (zI fr), .int (zI fi), .int (zI ra)]) (rs := []) i_209_118 rfl (fun _ => rfl) rfl rfl rfl rfl rfl (pCall_v (p := 79) hs_es1 rfl rfl rfl rfl rfl (by decide) rfl rfl rfl rfl rfl) ?_
                            show aW _ _ _ _ _ _ (0, [some (.ref 143), some (.int (zI bk)), some (.int (zI nt)), some (.int (zI kd)), some (.int (zI fr)), some (.int (zI fi)), some (.int (zI ra)), none], [], es1)
                            refine x0 (r := (2, [some (.ref 143), some (.int (zI bk)), some (.int (zI nt)), some (.int (zI kd)), some (.int (zI fr)), some (.int (zI fi)), some (.int (zI ra)), none], [.int (zI 119)], es1)) i_208_0 (by rfl) ?_
                            refine x0 (r := (4, [some (.ref 143), some (.int (zI bk)), some (.int (zI nt)), some (.int (zI kd)), some (.int (zI fr)), some (.int (zI fi)), some (.int (zI ra)), none], [.int (zI 98), .int (zI 119)], es1)) i_208_2 (by rfl) ?_
                            refine x0 (r := (5, [some (.ref 143), some (.int (zI bk)), some (.int (zI nt)), some (.int (zI kd)), some (.int (zI fr)), some (.int (zI fi)), some (.int (zI ra)), none], [.int (zI bk), .int (zI 98), .int (zI 119)], es1)) i_208_4 rfl ?_
                            refine x_imul i_208_5 ?_
                            refine x_iadd i_208_6 ?_
                            refine x0 (r := (8, [some (.ref 143), some (.int (zI bk)), some (.int (zI nt)), some (.int (zI kd)), some (.int (zI fr)), some (.int (zI fi)), some (.int (zI ra)), none], [.int (zI 2), .int (zI (119 + (98 * bk)))], es1)) i_208_7 (by rfl) ?_
                            refine x_iadd i_208_8 ?_
                            refine x0 (r := (10, [some (.ref 143), some (.int (zI bk)), some (.int (zI nt)), some (.int (zI kd)), some (.int (zI fr)), some (.int (zI fi)), some (.int (zI ra)), none], [.int (zI 4), .int (zI ((119 + (98 * bk)) + 2))], es1)) i_208_9 (by rfl) ?_
                            refine x0 (r := (11, [some (.ref 143), some (.int (zI bk)), some (.int (zI nt)), some (.int (zI kd)), some (.int (zI fr)), some (.int (zI fi)), some (.int (zI ra)), none], [.int (zI nt), .int (zI 4), .int (zI ((119 + (98 * bk)) + 2))], es1)) i_208_10 rfl ?_
                            refine x_imul i_208_11 ?_
                            refine x_iadd i_208_12 ?_
                            refine x0 (r := (15, [some (.ref 143), some (.int (zI bk)), some (.int (zI nt)), some (.int (zI kd)), some (.int (zI fr)), some (.int (zI fi)), some (.int (zI ra)), some (.int (zI (((119 + (98 * bk)) + 2) + (4 * nt))))], [], es1)) i_208_13 rfl ?_
                            refine x0 (r := (16, [some (.ref 143), some (.int (zI bk)), some (.int (zI nt)), some (.int (zI kd)), some (.int (zI fr)), some (.int (zI fi)), some (.int (zI ra)), some (.int (zI (((119 + (98 * bk)) + 2) + (4 * nt))))], [.ref 143], es1)) i_208_15 rfl ?_
                            refine x_getr (p := 79) (k := 144) i_208_16 hs_es1 rfl rfl ?_
                            show aW _ _ _ _ _ _ (19, [some (.ref 143), some (.int (zI bk)), some (.int (zI nt)), some (.int (zI kd)), some (.int (zI fr)), some (.int (zI fi)), some (.int (zI ra)), some (.int (zI (((119 + (98 * bk)) + 2) + (4 * nt))))], [.ref 144], es1)
                            refine x0 (r := (21, [some (.ref 143), some (.int (zI bk)), some (.int (zI nt)), some (.int (zI kd)), some (.int (zI fr)), some (.int (zI fi)), some (.int (zI ra)), some (.int (zI (((119 + (98 * bk)) + 2) + (4 * nt))))], [.int (zI (((119 + (98 * bk)) + 2) + (4 * nt))), .ref 144], es1)) i_208_19 rfl ?_
                            refine x0 (r := (22, [some (.ref 143), some (.int (zI bk)), some (.int (zI nt)), some (.int (zI kd)), some (.int (zI fr)), some (.int (zI fi)), some (.int (zI ra)), some (.int (zI (((119 + (98 * bk)) + 2) + (4 * nt))))], [.int (zI kd), .int (zI (((119 + (98 * bk)) + 2) + (4 * nt))), .ref 144], es1)) i_208_21 rfl ?_
                            refine x_iast (p := 80) i_208_22 hs_es1 rfl (by unfold i32 iLO iHI; omega) (by omega) (by omega) ?_
                            obtain ⟨es31, e_es31⟩ : ∃ z : PH, z = sA es1 80 (((119 + (98 * bk)) + 2) + (4 * nt)).toNat (zI kd) := ⟨_, rfl⟩
                            have hs_es31 : sh es31 := by rw [e_es31]; exact sh_sA hs_es1
                            rw [← e_es31]
                            refine x0 (r := (24, [some (.ref 143), some (.int (zI bk)), some (.int (zI nt)), some (.int (zI kd)), some (.int (zI fr)), some (.int (zI fi)), some (.int (zI ra)), some (.int (zI (((119 + (98 * bk)) + 2) + (4 * nt))))], [.ref 143], es31)) i_208_23 rfl ?_
                            refine x_getr (p := 79) (k := 144) i_208_24 hs_es31 rfl rfl ?_
                            show aW _ _ _ _ _ _ (27, [some (.ref 143), some (.int (zI bk)), some (.int (zI nt)), some (.int (zI kd)), some (.int (zI fr)), some (.int (zI fi)), some (.int (zI ra)), some (.int (zI (((119 + (98 * bk)) + 2) + (4 * nt))))], [.ref 144], es31)
                            refine x0 (r := (29, [some (.ref 143), some (.int (zI bk)), some (.int (zI nt)), some (.int (zI kd)), some (.int (zI fr)), some (.int (zI fi)), some (.int (zI ra)), some (.int (zI (((119 + (98 * bk)) + 2) + (4 * nt))))], [.int (zI (((119 + (98 * bk)) + 2) + (4 * nt))), .ref 144], es31)) i_208_27 rfl ?_
                            refine x0 (r := (30, [some (.ref 143), some (.int (zI bk)), some (.int (zI nt)), some (.int (zI kd)), some (.int (zI fr)), some (.int (zI fi)), some (.int (zI ra)), some (.int (zI (((119 + (98 * bk)) + 2) + (4 * nt))))], [.int (zI 1), .int (zI (((119 + (98 * bk)) + 2) + (4 * nt))), .ref 144], es31)) i_208_29 (by rfl) ?_
                            refine x_iadd i_208_30 ?_
                            refine x0 (r := (33, [some (.ref 143), some (.int (zI bk)), some (.int (zI nt)), some (.int (zI kd)), some (.int (zI fr)), some (.int (zI fi)), some (.int (zI ra)), some (.int (zI (((119 + (98 * bk)) + 2) + (4 * nt))))], [.int (zI fr), .int (zI ((((119 + (98 * bk)) + 2) + (4 * nt)) + 1)), .ref 144], es31)) i_208_31 rfl ?_
                            refine x_iast (p := 80) i_208_33 hs_es31 rfl (by unfold i32 iLO iHI; omega) (by omega) (by omega) ?_
                            obtain ⟨es32, e_es32⟩ : ∃ z : PH, z = sA es31 80 ((((119 + (98 * bk)) + 2) + (4 * nt)) + 1).toNat (zI fr) := ⟨_, rfl⟩
                            have hs_es32 : sh es32 := by rw [e_es32]; exact sh_sA hs_es31
                            rw [← e_es32]
                            refine x0 (r := (35, [some (.ref 143), some (.int (zI bk)), some (.int (zI nt)), some (.int (zI kd)), some (.int (zI fr)), some (.int (zI fi)), some (.int (zI ra)), some (.int (zI (((119 + (98 * bk)) + 2) + (4 * nt))))], [.ref 143], es32)) i_208_34 rfl ?_
                            refine x_getr (p := 79) (k := 144) i_208_35 hs_es32 rfl rfl ?_
                            show aW _ _ _ _ _ _ (38, [some (.ref 143), some (.int (zI bk)), some (.int (zI nt)), some (.int (zI kd)), some (.int (zI fr)), some (.int (zI fi)), some (.int (zI ra)), some (.int (zI (((119 + (98 * bk)) + 2) + (4 * nt))))], [.ref 144], es32)
                            refine x0 (r := (40, [some (.ref 143), some (.int (zI bk)), some (.int (zI nt)), some (.int (zI kd)), some (.int (zI fr)), some (.int (zI fi)), some (.int (zI ra)), some (.int (zI (((119 + (98 * bk)) + 2) + (4 * nt))))], [.int (zI (((119 + (98 * bk)) + 2) + (4 * nt))), .ref 144], es32)) i_208_38 rfl ?_
                            refine x0 (r := (41, [some (.ref 143), some (.int (zI bk)), some (.int (zI nt)), some (.int (zI kd)), some (.int (zI fr)), some (.int (zI fi)), some (.int (zI ra)), some (.int (zI (((119 + (98 * bk)) + 2) + (4 * nt))))], [.int (zI 2), .int (zI (((119 + (98 * bk)) + 2) + (4 * nt))), .ref 144], es32)) i_208_40 (by rfl) ?_
                            refine x_iadd i_208_41 ?_
                            refine x0 (r := (44, [some (.ref 143), some (.int (zI bk)), some (.int (zI nt)), some (.int (zI kd)), some (.int (zI fr)), some (.int (zI fi)), some (.int (zI ra)), some (.int (zI (((119 + (98 * bk)) + 2) + (4 * nt))))], [.int (zI fi), .int (zI ((((119 + (98 * bk)) + 2) + (4 * nt)) + 2)), .ref 144], es32)) i_208_42 rfl ?_
                            refine x_iast (p := 80) i_208_44 hs_es32 rfl (by unfold i32 iLO iHI; omega) (by omega) (by omega) ?_
                            obtain ⟨es33, e_es33⟩ : ∃ z : PH, z = sA es32 80 ((((119 + (98 * bk)) + 2) + (4 * nt)) + 2).toNat (zI fi) := ⟨_, rfl⟩
                            have hs_es33 : sh es33 := by rw [e_es33]; exact sh_sA hs_es32
                            rw [← e_es33]
                            refine x0 (r := (46, [some (.ref 143), some (.int (zI bk)), some (.int (zI nt)), some (.int (zI kd)), some (.int (zI fr)), some (.int (zI fi)), some (.int (zI ra)), some (.int (zI (((119 + (98 * bk)) + 2) + (4 * nt))))], [.ref 143], es33)) i_208_45 rfl ?_
                            refine x_getr (p := 79) (k := 144) i_208_46 hs_es33 rfl rfl ?_
                            show aW _ _ _ _ _ _ (49, [some (.ref 143), some (.int (zI bk)), some (.int (zI nt)), some (.int (zI kd)), some (.int (zI fr)), some (.int (zI fi)), some (.int (zI ra)), some (.int (zI (((119 + (98 * bk)) + 2) + (4 * nt))))], [.ref 144], es33)
                            refine x0 (r := (51, [some (.ref 143), some (.int (zI bk)), some (.int (zI nt)), some (.int (zI kd)), some (.int (zI fr)), some (.int (zI fi)), some (.int (zI ra)), some (.int (zI (((119 + (98 * bk)) + 2) + (4 * nt))))], [.int (zI (((119 + (98 * bk)) + 2) + (4 * nt))), .ref 144], es33)) i_208_49 rfl ?_
                            refine x0 (r := (52, [some (.ref 143), some (.int (zI bk)), some (.int (zI nt)), some (.int (zI kd)), some (.int (zI fr)), some (.int (zI fi)), some (.int (zI ra)), some (.int (zI (((119 + (98 * bk)) + 2) + (4 * nt))))], [.int (zI 3), .int (zI (((119 + (98 * bk)) + 2) + (4 * nt))), .ref 144], es33)) i_208_51 (by rfl) ?_
                            refine x_iadd i_208_52 ?_
                            refine x0 (r := (55, [some (.ref 143), some (.int (zI bk)), some (.int (zI nt)), some (.int (zI kd)), some (.int (zI fr)), some (.int (zI fi)), some (.int (zI ra)), some (.int (zI (((119 + (98 * bk)) + 2) + (4 * nt))))], [.int (zI ra), .int (zI ((((119 + (98 * bk)) + 2) + (4 * nt)) + 3)), .ref 144], es33)) i_208_53 rfl ?_
                            refine x_iast (p := 80) i_208_55 hs_es33 rfl (by unfold i32 iLO iHI; omega) (by omega) (by omega) ?_
                            obtain ⟨es34, e_es34⟩ : ∃ z : PH, z = sA es33 80 ((((119 + (98 * bk)) + 2) + (4 * nt)) + 3).toNat (zI ra) := ⟨_, rfl⟩
                            have hs_es34 : sh es34 := by rw [e_es34]; exact sh_sA hs_es33
                            rw [← e_es34]
                            refine x_ret (v := none) i_208_56 rfl (fun _ => rfl) rfl rfl rfl ?_
                            show aW _ _ _ _ _ _ (121, [some (.ref 143), some (.int (zI bk)), some (.int (zI nt)), some (.int (zI kd)), some (.int (zI fr)), some (.int (zI fi)), some (.int (zI ra)), some (.int (zI 1))], [], es34)
                            refine x0 (r := (123, [some (.ref 143), some (.int (zI bk)), some (.int (zI nt)), some (.int (zI kd)), some (.int (zI fr)), some (.int (zI fi)), some (.int (zI ra)), some (.int (zI 1))], [.int (zI 1)], es34)) i_209_121 rfl ?_
                            refine x_ret (v := some (.int (zI 1))) i_209_123 rfl (fun _ => rfl) rfl rfl (pFin_b (by omega)) ?_
                            exact K13 es1 e_es1 v2 e_v2 c3 c5 v7 e_v7 c8 c10 v12 e_v12 c13 c15 c17 c19 c21 c23 c25 c27 v29 e_v29 c30 es31 e_es31 es32 e_es32 es33 e_es33 es34 e_es34
                          · refine x_cmpF i_209_62 (by unfold i32 iLO iHI; omega) (by unfold i32 iLO iHI; omega) rfl (by simp only [zC, cR]; omega) ?_
                            refine x0 (r := (66, [some (.ref 143), some (.int (zI bk)), some (.int (zI nt)), some (.int (zI kd)), some (.int (zI fr)), some (.int (zI fi)), some (.int (zI ra)), none], [.ref 143], es1)) i_209_65 rfl ?_
                            refine x0 (r := (67, [some (.ref 143), some (.int (zI bk)), some (.int (zI nt)), some (.int (zI kd)), some (.int (zI fr)), some (.int (zI fi)), some (.int (zI ra)), none], [.int (zI bk), .ref 143], es1)) i_209_66 rfl ?_
                            refine x0 (r := (68, [some (.ref 143), some (.int (zI bk)), some (.int (zI nt)), some (.int (zI kd)), some (.int (zI fr)), some (.int (zI fi)), some (.int (zI ra)), none], [.int (zI nt), .int (zI bk), .ref 143], es1)) i_209_67 rfl ?_
                            refine x0 (r := (69, [some (.ref 143), some (.int (zI bk)), some (.int (zI nt)), some (.int (zI kd)), some (.int (zI fr)), some (.int (zI fi)), some (.int (zI ra)), none], [.int (zI 1), .int (zI nt), .int (zI bk), .ref 143], es1)) i_209_68 (by rfl) ?_
                            refine x_call (vs := [.ref 143, .int (zI bk), .int (zI nt), .int (zI 1)]) (rs := []) i_209_69 rfl (fun _ => rfl) rfl rfl rfl rfl rfl (pCall_v (p := 79) hs_es1 rfl rfl rfl rfl rfl (by decide) rfl rfl rfl rfl rfl) ?_
                            show aW _ _ _ _ _ _ (0, [some (.ref 143), some (.int (zI bk)), some (.int (zI nt)), some (.int (zI 1))], [], es1)
                            refine x0 (r := (1, [some (.ref 143), some (.int (zI bk)), some (.int (zI nt)), some (.int (zI 1))], [.ref 143], es1)) i_211_0 rfl ?_
                            refine x0 (r := (2, [some (.ref 143), some (.int (zI bk)), some (.int (zI nt)), some (.int (zI 1))], [.int (zI bk), .ref 143], es1)) i_211_1 rfl ?_
                            refine x0 (r := (3, [some (.ref 143), some (.int (zI bk)), some (.int (zI nt)), some (.int (zI 1))], [.int (zI 2), .int (zI bk), .ref 143], es1)) i_211_2 (by rfl) ?_
                            refine x0 (r := (4, [some (.ref 143), some (.int (zI bk)), some (.int (zI nt)), some (.int (zI 1))], [.int (zI 4), .int (zI 2), .int (zI bk), .ref 143], es1)) i_211_3 (by rfl) ?_
                            refine x0 (r := (5, [some (.ref 143), some (.int (zI bk)), some (.int (zI nt)), some (.int (zI 1))], [.int (zI nt), .int (zI 4), .int (zI 2), .int (zI bk), .ref 143], es1)) i_211_4 rfl ?_
                            refine x_imul i_211_5 ?_
                            refine x_iadd i_211_6 ?_
                            refine x0 (r := (8, [some (.ref 143), some (.int (zI bk)), some (.int (zI nt)), some (.int (zI 1))], [.int (zI 1), .int (zI (2 + (4 * nt))), .int (zI bk), .ref 143], es1)) i_211_7 rfl ?_
                            refine x_iadd i_211_8 ?_
                            refine x_call (vs := [.ref 143, .int (zI bk), .int (zI ((2 + (4 * nt)) + 1))]) (rs := []) i_211_9 rfl (fun _ => rfl) rfl rfl rfl rfl rfl (pCall_v (p := 79) hs_es1 rfl rfl rfl rfl rfl (by decide) rfl rfl rfl rfl rfl) ?_
                            show aW _ _ _ _ _ _ (0, [some (.ref 143), some (.int (zI bk)), some (.int (zI ((2 + (4 * nt)) + 1)))], [], es1)
                            refine x0 (r := (1, [some (.ref 143), some (.int (zI bk)), some (.int (zI ((2 + (4 * nt)) + 1)))], [.ref 143], es1)) i_206_0 rfl ?_
                            refine x_getr (p := 79) (k := 144) i_206_1 hs_es1 rfl rfl ?_
                            show aW _ _ _ _ _ _ (4, [some (.ref 143), some (.int (zI bk)), some (.int (zI ((2 + (4 * nt)) + 1)))], [.ref 144], es1)
                            refine x0 (r := (6, [some (.ref 143), some (.int (zI bk)), some (.int (zI ((2 + (4 * nt)) + 1)))], [.int (zI 119), .ref 144], es1)) i_206_4 (by rfl) ?_
                            refine x0 (r := (8, [some (.ref 143), some (.int (zI bk)), some (.int (zI ((2 + (4 * nt)) + 1)))], [.int (zI 98), .int (zI 119), .ref 144], es1)) i_206_6 (by rfl) ?_
                            refine x0 (r := (9, [some (.ref 143), some (.int (zI bk)), some (.int (zI ((2 + (4 * nt)) + 1)))], [.int (zI bk), .int (zI 98), .int (zI 119), .ref 144], es1)) i_206_8 rfl ?_
                            refine x_imul i_206_9 ?_
                            refine x_iadd i_206_10 ?_
                            refine x0 (r := (12, [some (.ref 143), some (.int (zI bk)), some (.int (zI ((2 + (4 * nt)) + 1)))], [.int (zI ((2 + (4 * nt)) + 1)), .int (zI (119 + (98 * bk))), .ref 144], es1)) i_206_11 rfl ?_
                            refine x_iadd i_206_12 ?_
                            refine x_iald (p := 80) i_206_13 hs_es1 rfl (by unfold i32 iLO iHI; omega) (by omega) (by omega) ?_
                            obtain ⟨v35, e_v35⟩ : ∃ z : Int, z = (gA es1 80 ((119 + (98 * bk)) + ((2 + (4 * nt)) + 1)).toNat).toInt := ⟨_, rfl⟩
                            rw [← e_v35]
                            have r_v35 : iLO ≤ v35 ∧ v35 ≤ iHI := by rw [e_v35]; exact i32_rng _
                            unfold iLO iHI at r_v35
                            refine x_ret (v := some (.int (zI v35))) i_206_14 rfl (fun _ => rfl) rfl rfl rfl ?_
                            show aW _ _ _ _ _ _ (12, [some (.ref 143), some (.int (zI bk)), some (.int (zI nt)), some (.int (zI 1))], [.int (zI v35)], es1)
                            refine x_ret (v := some (.int (zI v35))) i_211_12 rfl (fun _ => rfl) rfl rfl rfl ?_
                            show aW _ _ _ _ _ _ (72, [some (.ref 143), some (.int (zI bk)), some (.int (zI nt)), some (.int (zI kd)), some (.int (zI fr)), some (.int (zI fi)), some (.int (zI ra)), none], [.int (zI v35)], es1)
                            refine x0 (r := (74, [some (.ref 143), some (.int (zI bk)), some (.int (zI nt)), some (.int (zI kd)), some (.int (zI fr)), some (.int (zI fi)), some (.int (zI ra)), none], [.int (zI fr), .int (zI v35)], es1)) i_209_72 rfl ?_
                            by_cases c36 : v35 ≠ fr
                            · refine x_cmpT i_209_74 (by unfold i32 iLO iHI; omega) (by unfold i32 iLO iHI; omega) rfl (by simp only [zC, cR]; omega) ?_
                              refine x0 (r := (102, [some (.ref 143), some (.int (zI bk)), some (.int (zI nt)), some (.int (zI kd)), some (.int (zI fr)), some (.int (zI fi)), some (.int (zI ra)), none], [.int (zI 1)], es1)) i_209_101 (by rfl) ?_
                              refine x0 (r := (106, [some (.ref 143), some (.int (zI bk)), some (.int (zI nt)), some (.int (zI kd)), some (.int (zI fr)), some (.int (zI fi)), some (.int (zI ra)), none], [.int (zI 1)], es1)) i_209_102 rfl ?_
                              refine x0 (r := (108, [some (.ref 143), some (.int (zI bk)), some (.int (zI nt)), some (.int (zI kd)), some (.int (zI fr)), some (.int (zI fi)), some (.int (zI ra)), some (.int (zI 1))], [], es1)) i_209_106 rfl ?_
                              refine x0 (r := (109, [some (.ref 143), some (.int (zI bk)), some (.int (zI nt)), some (.int (zI kd)), some (.int (zI fr)), some (.int (zI fi)), some (.int (zI ra)), some (.int (zI 1))], [.ref 143], es1)) i_209_108 rfl ?_
                              refine x0 (r := (110, [some (.ref 143), some (.int (zI bk)), some (.int (zI nt)), some (.int (zI kd)), some (.int (zI fr)), some (.int (zI fi)), some (.int (zI ra)), some (.int (zI 1))], [.int (zI bk), .ref 143], es1)) i_209_109 rfl ?_
                              refine x0 (r := (111, [some (.ref 143), some (.int (zI bk)), some (.int (zI nt)), some (.int (zI kd)), some (.int (zI fr)), some (.int (zI fi)), some (.int (zI ra)), some (.int (zI 1))], [.int (zI nt), .int (zI bk), .ref 143], es1)) i_209_110 rfl ?_
                              refine x0 (r := (112, [some (.ref 143), some (.int (zI bk)), some (.int (zI nt)), some (.int (zI kd)), some (.int (zI fr)), some (.int (zI fi)), some (.int (zI ra)), some (.int (zI 1))], [.int (zI kd), .int (zI nt), .int (zI bk), .ref 143], es1)) i_209_111 rfl ?_
                              refine x0 (r := (114, [some (.ref 143), some (.int (zI bk)), some (.int (zI nt)), some (.int (zI kd)), some (.int (zI fr)), some (.int (zI fi)), some (.int (zI ra)), some (.int (zI 1))], [.int (zI fr), .int (zI kd), .int (zI nt), .int (zI bk), .ref 143], es1)) i_209_112 rfl ?_
                              refine x0 (r := (116, [some (.ref 143), some (.int (zI bk)), some (.int (zI nt)), some (.int (zI kd)), some (.int (zI fr)), some (.int (zI fi)), some (.int (zI ra)), some (.int (zI 1))], [.int (zI fi), .int (zI fr), .int (zI kd), .int (zI nt), .int (zI bk), .ref 143], es1)) i_209_114 rfl ?_
                              refine x0 (r := (118, [some (.ref 143), some (.int (zI bk)), some (.int (zI nt)), some (.int (zI kd)), some (.int (zI fr)), some (.int (zI fi)), some (.int (zI ra)), some (.int (zI 1))], [.int (zI ra), .int (zI fi), .int (zI fr), .int (zI kd), .int (zI nt), .int (zI bk), .ref 143], es1)) i_209_116 rfl ?_
                              refine x_call (vs := [.ref 143, .int (zI bk), .int (zI nt), .int (zI kd), .int (zI fr), .int (zI fi), .int (zI ra)]) (rs := []) i_209_118 rfl (fun _ => rfl) rfl rfl rfl rfl rfl (pCall_v (p := 79) hs_es1 rfl rfl rfl rfl rfl (by decide) rfl rfl rfl rfl rfl) ?_
                              show aW _ _ _ _ _ _ (0, [some (.ref 143), some (.int (zI bk)), some (.int (zI nt)), some (.int (zI kd)), some (.int (zI fr)), some (.int (zI fi)), some (.int (zI ra)), none], [], es1)
                              refine x0 (r := (2, [some (.ref 143), some (.int (zI bk)), some (.int (zI nt)), some (.int (zI kd)), some (.int (zI fr)), some (.int (zI fi)), some (.int (zI ra)), none], [.int (zI 119)], es1)) i_208_0 (by rfl) ?_
                              refine x0 (r := (4, [some (.ref 143), some (.int (zI bk)), some (.int (zI nt)), some (.int (zI kd)), some (.int (zI fr)), some (.int (zI fi)), some (.int (zI ra)), none], [.int (zI 98), .int (zI 119)], es1)) i_208_2 (by rfl) ?_
                              refine x0 (r := (5, [some (.ref 143), some (.int (zI bk)), some (.int (zI nt)), some (.int (zI kd)), some (.int (zI fr)), some (.int (zI fi)), some (.int (zI ra)), none], [.int (zI bk), .int (zI 98), .int (zI 119)], es1)) i_208_4 rfl ?_
                              refine x_imul i_208_5 ?_
                              refine x_iadd i_208_6 ?_
                              refine x0 (r := (8, [some (.ref 143), some (.int (zI bk)), some (.int (zI nt)), some (.int (zI kd)), some (.int (zI fr)), some (.int (zI fi)), some (.int (zI ra)), none], [.int (zI 2), .int (zI (119 + (98 * bk)))], es1)) i_208_7 (by rfl) ?_
                              refine x_iadd i_208_8 ?_
                              refine x0 (r := (10, [some (.ref 143), some (.int (zI bk)), some (.int (zI nt)), some (.int (zI kd)), some (.int (zI fr)), some (.int (zI fi)), some (.int (zI ra)), none], [.int (zI 4), .int (zI ((119 + (98 * bk)) + 2))], es1)) i_208_9 (by rfl) ?_
                              refine x0 (r := (11, [some (.ref 143), some (.int (zI bk)), some (.int (zI nt)), some (.int (zI kd)), some (.int (zI fr)), some (.int (zI fi)), some (.int (zI ra)), none], [.int (zI nt), .int (zI 4), .int (zI ((119 + (98 * bk)) + 2))], es1)) i_208_10 rfl ?_
                              refine x_imul i_208_11 ?_
                              refine x_iadd i_208_12 ?_
                              refine x0 (r := (15, [some (.ref 143), some (.int (zI bk)), some (.int (zI nt)), some (.int (zI kd)), some (.int (zI fr)), some (.int (zI fi)), some (.int (zI ra)), some (.int (zI (((119 + (98 * bk)) + 2) + (4 * nt))))], [], es1)) i_208_13 rfl ?_
                              refine x0 (r := (16, [some (.ref 143), some (.int (zI bk)), some (.int (zI nt)), some (.int (zI kd)), some (.int (zI fr)), some (.int (zI fi)), some (.int (zI ra)), some (.int (zI (((119 + (98 * bk)) + 2) + (4 * nt))))], [.ref 143], es1)) i_208_15 rfl ?_
                              refine x_getr (p := 79) (k := 144) i_208_16 hs_es1 rfl rfl ?_
                              show aW _ _ _ _ _ _ (19, [some (.ref 143), some (.int (zI bk)), some (.int (zI nt)), some (.int (zI kd)), some (.int (zI fr)), some (.int (zI fi)), some (.int (zI ra)), some (.int (zI (((119 + (98 * bk)) + 2) + (4 * nt))))], [.ref 144], es1)
                              refine x0 (r := (21, [some (.ref 143), some (.int (zI bk)), some (.int (zI nt)), some (.int (zI kd)), some (.int (zI fr)), some (.int (zI fi)), some (.int (zI ra)), some (.int (zI (((119 + (98 * bk)) + 2) + (4 * nt))))], [.int (zI (((119 + (98 * bk)) + 2) + (4 * nt))), .ref 144], es1)) i_208_19 rfl ?_
                              refine x0 (r := (22, [some (.ref 143), some (.int (zI bk)), some (.int (zI nt)), some (.int (zI kd)), some (.int (zI fr)), some (.int (zI fi)), some (.int (zI ra)), some (.int (zI (((119 + (98 * bk)) + 2) + (4 * nt))))], [.int (zI kd), .int (zI (((119 + (98 * bk)) + 2) + (4 * nt))), .ref 144], es1)) i_208_21 rfl ?_
                              refine x_iast (p := 80) i_208_22 hs_es1 rfl (by unfold i32 iLO iHI; omega) (by omega) (by omega) ?_
                              obtain ⟨es37, e_es37⟩ : ∃ z : PH, z = sA es1 80 (((119 + (98 * bk)) + 2) + (4 * nt)).toNat (zI kd) := ⟨_, rfl⟩
                              have hs_es37 : sh es37 := by rw [e_es37]; exact sh_sA hs_es1
                              rw [← e_es37]
                              refine x0 (r := (24, [some (.ref 143), some (.int (zI bk)), some (.int (zI nt)), some (.int (zI kd)), some (.int (zI fr)), some (.int (zI fi)), some (.int (zI ra)), some (.int (zI (((119 + (98 * bk)) + 2) + (4 * nt))))], [.ref 143], es37)) i_208_23 rfl ?_
                              refine x_getr (p := 79) (k := 144) i_208_24 hs_es37 rfl rfl ?_
                              show aW _ _ _ _ _ _ (27, [some (.ref 143), some (.int (zI bk)), some (.int (zI nt)), some (.int (zI kd)), some (.int (zI fr)), some (.int (zI fi)), some (.int (zI ra)), some (.int (zI (((119 + (98 * bk)) + 2) + (4 * nt))))], [.ref 144], es37)
                              refine x0 (r := (29, [some (.ref 143), some (.int (zI bk)), some (.int (zI nt)), some (.int (zI kd)), some (.int (zI fr)), some (.int (zI fi)), some (.int (zI ra)), some (.int (zI (((119 + (98 * bk)) + 2) + (4 * nt))))], [.int (zI (((119 + (98 * bk)) + 2) + (4 * nt))), .ref 144], es37)) i_208_27 rfl ?_
                              refine x0 (r := (30, [some (.ref 143), some (.int (zI bk)), some (.int (zI nt)), some (.int (zI kd)), some (.int (zI fr)), some (.int (zI fi)), some (.int (zI ra)), some (.int (zI (((119 + (98 * bk)) + 2) + (4 * nt))))], [.int (zI 1), .int (zI (((119 + (98 * bk)) + 2) + (4 * nt))), .ref 144], es37)) i_208_29 (by rfl) ?_
                              refine x_iadd i_208_30 ?_
                              refine x0 (r := (33, [some (.ref 143), some (.int (zI bk)), some (.int (zI nt)), some (.int (zI kd)), some (.int (zI fr)), some (.int (zI fi)), some (.int (zI ra)), some (.int (zI (((119 + (98 * bk)) + 2) + (4 * nt))))], [.int (zI fr), .int (zI ((((119 + (98 * bk)) + 2) + (4 * nt)) + 1)), .ref 144], es37)) i_208_31 rfl ?_
                              refine x_iast (p := 80) i_208_33 hs_es37 rfl (by unfold i32 iLO iHI; omega) (by omega) (by omega) ?_
                              obtain ⟨es38, e_es38⟩ : ∃ z : PH, z = sA es37 80 ((((119 + (98 * bk)) + 2) + (4 * nt)) + 1).toNat (zI fr) := ⟨_, rfl⟩
                              have hs_es38 : sh es38 := by rw [e_es38]; exact sh_sA hs_es37
                              rw [← e_es38]
                              refine x0 (r := (35, [some (.ref 143), some (.int (zI bk)), some (.int (zI nt)), some (.int (zI kd)), some (.int (zI fr)), some (.int (zI fi)), some (.int (zI ra)), some (.int (zI (((119 + (98 * bk)) + 2) + (4 * nt))))], [.ref 143], es38)) i_208_34 rfl ?_
                              refine x_getr (p := 79) (k := 144) i_208_35 hs_es38 rfl rfl ?_
                              show aW _ _ _ _ _ _ (38, [some (.ref 143), some (.int (zI bk)), some (.int (zI nt)), some (.int (zI kd)), some (.int (zI fr)), some (.int (zI fi)), some (.int (zI ra)), some (.int (zI (((119 + (98 * bk)) + 2) + (4 * nt))))], [.ref 144], es38)
                              refine x0 (r := (40, [some (.ref 143), some (.int (zI bk)), some (.int (zI nt)), some (.int (zI kd)), some (.int (zI fr)), some (.int (zI fi)), some (.int (zI ra)), some (.int (zI (((119 + (98 * bk)) + 2) + (4 * nt))))], [.int (zI (((119 + (98 * bk)) + 2) + (4 * nt))), .ref 144], es38)) i_208_38 rfl ?_
                              refine x0 (r := (41, [some (.ref 143), some (.int (zI bk)), some (.int (zI nt)), some (.int (zI kd)), some (.int (zI fr)), some (.int (zI fi)), some (.int (zI ra)), some (.int (zI (((119 + (98 * bk)) + 2) + (4 * nt))))], [.int (zI 2), .int (zI (((119 + (98 * bk)) + 2) + (4 * nt))), .ref 144], es38)) i_208_40 (by rfl) ?_
                              refine x_iadd i_208_41 ?_
                              refine x0 (r := (44, [some (.ref 143), some (.int (zI bk)), some (.int (zI nt)), some (.int (zI kd)), some (.int (zI fr)), some (.int (zI fi)), some (.int (zI ra)), some (.int (zI (((119 + (98 * bk)) + 2) + (4 * nt))))], [.int (zI fi), .int (zI ((((119 + (98 * bk)) + 2) + (4 * nt)) + 2)), .ref 144], es38)) i_208_42 rfl ?_
                              refine x_iast (p := 80) i_208_44 hs_es38 rfl (by unfold i32 iLO iHI; omega) (by omega) (by omega) ?_
                              obtain ⟨es39, e_es39⟩ : ∃ z : PH, z = sA es38 80 ((((119 + (98 * bk)) + 2) + (4 * nt)) + 2).toNat (zI fi) := ⟨_, rfl⟩
                              have hs_es39 : sh es39 := by rw [e_es39]; exact sh_sA hs_es38
                              rw [← e_es39]
                              refine x0 (r := (46, [some (.ref 143), some (.int (zI bk)), some (.int (zI nt)), some (.int (zI kd)), some (.int (zI fr)), some (.int (zI fi)), some (.int (zI ra)), some (.int (zI (((119 + (98 * bk)) + 2) + (4 * nt))))], [.ref 143], es39)) i_208_45 rfl ?_
                              refine x_getr (p := 79) (k := 144) i_208_46 hs_es39 rfl rfl ?_
                              show aW _ _ _ _ _ _ (49, [some (.ref 143), some (.int (zI bk)), some (.int (zI nt)), some (.int (zI kd)), some (.int (zI fr)), some (.int (zI fi)), some (.int (zI ra)), some (.int (zI (((119 + (98 * bk)) + 2) + (4 * nt))))], [.ref 144], es39)
                              refine x0 (r := (51, [some (.ref 143), some (.int (zI bk)), some (.int (zI nt)), some (.int (zI kd)), some (.int (zI fr)), some (.int (zI fi)), some (.int (zI ra)), some (.int (zI (((119 + (98 * bk)) + 2) + (4 * nt))))], [.int (zI (((119 + (98 * bk)) + 2) + (4 * nt))), .ref 144], es39)) i_208_49 rfl ?_
                              refine x0 (r := (52, [some (.ref 143), some (.int (zI bk)), some (.int (zI nt)), some (.int (zI kd)), some (.int (zI fr)), some (.int (zI fi)), some (.int (zI ra)), some (.int (zI (((119 + (98 * bk)) + 2) + (4 * nt))))], [.int (zI 3), .int (zI (((119 + (98 * bk)) + 2) + (4 * nt))), .ref 144], es39)) i_208_51 (by rfl) ?_
                              refine x_iadd i_208_52 ?_
                              refine x0 (r := (55, [some (.ref 143), some (.int (zI bk)), some (.int (zI nt)), some (.int (zI kd)), some (.int (zI fr)), some (.int (zI fi)), some (.int (zI ra)), some (.int (zI (((119 + (98 * bk)) + 2) + (4 * nt))))], [.int (zI ra), .int (zI ((((119 + (98 * bk)) + 2) + (4 * nt)) + 3)), .ref 144], es39)) i_208_53 rfl ?_
                              refine x_iast (p := 80) i_208_55 hs_es39 rfl (by unfold i32 iLO iHI; omega) (by omega) (by omega) ?_
                              obtain ⟨es40, e_es40⟩ : ∃ z : PH, z = sA es39 80 ((((119 + (98 * bk)) + 2) + (4 * nt)) + 3).toNat (zI ra) := ⟨_, rfl⟩
                              have hs_es40 : sh es40 := by rw [e_es40]; exact sh_sA hs_es39
                              rw [← e_es40]
                              refine x_ret (v := none) i_208_56 rfl (fun _ => rfl) rfl rfl rfl ?_
                              show aW _ _ _ _ _ _ (121, [some (.ref 143), some (.int (zI bk)), some (.int (zI nt)), some (.int (zI kd)), some (.int (zI fr)), some (.int (zI fi)), some (.int (zI ra)), some (.int (zI 1))], [], es40)
                              refine x0 (r := (123, [some (.ref 143), some (.int (zI bk)), some (.int (zI nt)), some (.int (zI kd)), some (.int (zI fr)), some (.int (zI fi)), some (.int (zI ra)), some (.int (zI 1))], [.int (zI 1)], es40)) i_209_121 rfl ?_
                              refine x_ret (v := some (.int (zI 1))) i_209_123 rfl (fun _ => rfl) rfl rfl (pFin_b (by omega)) ?_
                              exact K14 es1 e_es1 v2 e_v2 c3 c5 v7 e_v7 c8 c10 v12 e_v12 c13 c15 c17 c19 c21 c23 c25 c27 v29 e_v29 c30 v35 e_v35 c36 es37 e_es37 es38 e_es38 es39 e_es39 es40 e_es40
                            · refine x_cmpF i_209_74 (by unfold i32 iLO iHI; omega) (by unfold i32 iLO iHI; omega) rfl (by simp only [zC, cR]; omega) ?_
                              refine x0 (r := (78, [some (.ref 143), some (.int (zI bk)), some (.int (zI nt)), some (.int (zI kd)), some (.int (zI fr)), some (.int (zI fi)), some (.int (zI ra)), none], [.ref 143], es1)) i_209_77 rfl ?_
                              refine x0 (r := (79, [some (.ref 143), some (.int (zI bk)), some (.int (zI nt)), some (.int (zI kd)), some (.int (zI fr)), some (.int (zI fi)), some (.int (zI ra)), none], [.int (zI bk), .ref 143], es1)) i_209_78 rfl ?_
                              refine x0 (r := (80, [some (.ref 143), some (.int (zI bk)), some (.int (zI nt)), some (.int (zI kd)), some (.int (zI fr)), some (.int (zI fi)), some (.int (zI ra)), none], [.int (zI nt), .int (zI bk), .ref 143], es1)) i_209_79 rfl ?_
                              refine x0 (r := (81, [some (.ref 143), some (.int (zI bk)), some (.int (zI nt)), some (.int (zI kd)), some (.int (zI fr)), some (.int (zI fi)), some (.int (zI ra)), none], [.int (zI 2), .int (zI nt), .int (zI bk), .ref 143], es1)) i_209_80 (by rfl) ?_
                              refine x_call (vs := [.ref 143, .int (zI bk), .int (zI nt), .int (zI 2)]) (rs := []) i_209_81 rfl (fun _ => rfl) rfl rfl rfl rfl rfl (pCall_v (p := 79) hs_es1 rfl rfl rfl rfl rfl (by decide) rfl rfl rfl rfl rfl) ?_
                              show aW _ _ _ _ _ _ (0, [some (.ref 143), some (.int (zI bk)), some (.int (zI nt)), some (.int (zI 2))], [], es1)
                              refine x0 (r := (1, [some (.ref 143), some (.int (zI bk)), some (.int (zI nt)), some (.int (zI 2))], [.ref 143], es1)) i_211_0 rfl ?_
                              refine x0 (r := (2, [some (.ref 143), some (.int (zI bk)), some (.int (zI nt)), some (.int (zI 2))], [.int (zI bk), .ref 143], es1)) i_211_1 rfl ?_
                              refine x0 (r := (3, [some (.ref 143), some (.int (zI bk)), some (.int (zI nt)), some (.int (zI 2))], [.int (zI 2), .int (zI bk), .ref 143], es1)) i_211_2 (by rfl) ?_
                              refine x0 (r := (4, [some (.ref 143), some (.int (zI bk)), some (.int (zI nt)), some (.int (zI 2))], [.int (zI 4), .int (zI 2), .int (zI bk), .ref 143], es1)) i_211_3 (by rfl) ?_
                              refine x0 (r := (5, [some (.ref 143), some (.int (zI bk)), some (.int (zI nt)), some (.int (zI 2))], [.int (zI nt), .int (zI 4), .int (zI 2), .int (zI bk), .ref 143], es1)) i_211_4 rfl ?_
                              refine x_imul i_211_5 ?_
                              refine x_iadd i_211_6 ?_
                              refine x0 (r := (8, [some (.ref 143), some (.int (zI bk)), some (.int (zI nt)), some (.int (zI 2))], [.int (zI 2), .int (zI (2 + (4 * nt))), .int (zI bk), .ref 143], es1)) i_211_7 rfl ?_
                              refine x_iadd i_211_8 ?_
                              refine x_call (vs := [.ref 143, .int (zI bk), .int (zI ((2 + (4 * nt)) + 2))]) (rs := []) i_211_9 rfl (fun _ => rfl) rfl rfl rfl rfl rfl (pCall_v (p := 79) hs_es1 rfl rfl rfl rfl rfl (by decide) rfl rfl rfl rfl rfl) ?_
                              show aW _ _ _ _ _ _ (0, [some (.ref 143), some (.int (zI bk)), some (.int (zI ((2 + (4 * nt)) + 2)))], [], es1)
                              refine x0 (r := (1, [some (.ref 143), some (.int (zI bk)), some (.int (zI ((2 + (4 * nt)) + 2)))], [.ref 143], es1)) i_206_0 rfl ?_
                              refine x_getr (p := 79) (k := 144) i_206_1 hs_es1 rfl rfl ?_
                              show aW _ _ _ _ _ _ (4, [some (.ref 143), some (.int (zI bk)), some (.int (zI ((2 + (4 * nt)) + 2)))], [.ref 144], es1)
                              refine x0 (r := (6, [some (.ref 143), some (.int (zI bk)), some (.int (zI ((2 + (4 * nt)) + 2)))], [.int (zI 119), .ref 144], es1)) i_206_4 (by rfl) ?_
                              refine x0 (r := (8, [some (.ref 143), some (.int (zI bk)), some (.int (zI ((2 + (4 * nt)) + 2)))], [.int (zI 98), .int (zI 119), .ref 144], es1)) i_206_6 (by rfl) ?_
                              refine x0 (r := (9, [some (.ref 143), some (.int (zI bk)), some (.int (zI ((2 + (4 * nt)) + 2)))], [.int (zI bk), .int (zI 98), .int (zI 119), .ref 144], es1)) i_206_8 rfl ?_
                              refine x_imul i_206_9 ?_
                              refine x_iadd i_206_10 ?_
                              refine x0 (r := (12, [some (.ref 143), some (.int (zI bk)), some (.int (zI ((2 + (4 * nt)) + 2)))], [.int (zI ((2 + (4 * nt)) + 2)), .int (zI (119 + (98 * bk))), .ref 144], es1)) i_206_11 rfl ?_
                              refine x_iadd i_206_12 ?_
                              refine x_iald (p := 80) i_206_13 hs_es1 rfl (by unfold i32 iLO iHI; omega) (by omega) (by omega) ?_
                              obtain ⟨v41, e_v41⟩ : ∃ z : Int, z = (gA es1 80 ((119 + (98 * bk)) + ((2 + (4 * nt)) + 2)).toNat).toInt := ⟨_, rfl⟩
                              rw [← e_v41]
                              have r_v41 : iLO ≤ v41 ∧ v41 ≤ iHI := by rw [e_v41]; exact i32_rng _
                              unfold iLO iHI at r_v41
                              refine x_ret (v := some (.int (zI v41))) i_206_14 rfl (fun _ => rfl) rfl rfl rfl ?_
                              show aW _ _ _ _ _ _ (12, [some (.ref 143), some (.int (zI bk)), some (.int (zI nt)), some (.int (zI 2))], [.int (zI v41)], es1)
                              refine x_ret (v := some (.int (zI v41))) i_211_12 rfl (fun _ => rfl) rfl rfl rfl ?_
                              show aW _ _ _ _ _ _ (84, [some (.ref 143), some (.int (zI bk)), some (.int (zI nt)), some (.int (zI kd)), some (.int (zI fr)), some (.int (zI fi)), some (.int (zI ra)), none], [.int (zI v41)], es1)
                              refine x0 (r := (86, [some (.ref 143), some (.int (zI bk)), some (.int (zI nt)), some (.int (zI kd)), some (.int (zI fr)), some (.int (zI fi)), some (.int (zI ra)), none], [.int (zI fi), .int (zI v41)], es1)) i_209_84 rfl ?_
                              by_cases c42 : v41 ≠ fi
                              · refine x_cmpT i_209_86 (by unfold i32 iLO iHI; omega) (by unfold i32 iLO iHI; omega) rfl (by simp only [zC, cR]; omega) ?_
                                refine x0 (r := (102, [some (.ref 143), some (.int (zI bk)), some (.int (zI nt)), some (.int (zI kd)), some (.int (zI fr)), some (.int (zI fi)), some (.int (zI ra)), none], [.int (zI 1)], es1)) i_209_101 (by rfl) ?_
                                refine x0 (r := (106, [some (.ref 143), some (.int (zI bk)), some (.int (zI nt)), some (.int (zI kd)), some (.int (zI fr)), some (.int (zI fi)), some (.int (zI ra)), none], [.int (zI 1)], es1)) i_209_102 rfl ?_
                                refine x0 (r := (108, [some (.ref 143), some (.int (zI bk)), some (.int (zI nt)), some (.int (zI kd)), some (.int (zI fr)), some (.int (zI fi)), some (.int (zI ra)), some (.int (zI 1))], [], es1)) i_209_106 rfl ?_
                                refine x0 (r := (109, [some (.ref 143), some (.int (zI bk)), some (.int (zI nt)), some (.int (zI kd)), some (.int (zI fr)), some (.int (zI fi)), some (.int (zI ra)), some (.int (zI 1))], [.ref 143], es1)) i_209_108 rfl ?_
                                refine x0 (r := (110, [some (.ref 143), some (.int (zI bk)), some (.int (zI nt)), some (.int (zI kd)), some (.int (zI fr)), some (.int (zI fi)), some (.int (zI ra)), some (.int (zI 1))], [.int (zI bk), .ref 143], es1)) i_209_109 rfl ?_
                                refine x0 (r := (111, [some (.ref 143), some (.int (zI bk)), some (.int (zI nt)), some (.int (zI kd)), some (.int (zI fr)), some (.int (zI fi)), some (.int (zI ra)), some (.int (zI 1))], [.int (zI nt), .int (zI bk), .ref 143], es1)) i_209_110 rfl ?_
                                refine x0 (r := (112, [some (.ref 143), some (.int (zI bk)), some (.int (zI nt)), some (.int (zI kd)), some (.int (zI fr)), some (.int (zI fi)), some (.int (zI ra)), some (.int (zI 1))], [.int (zI kd), .int (zI nt), .int (zI bk), .ref 143], es1)) i_209_111 rfl ?_
                                refine x0 (r := (114, [some (.ref 143), some (.int (zI bk)), some (.int (zI nt)), some (.int (zI kd)), some (.int (zI fr)), some (.int (zI fi)), some (.int (zI ra)), some (.int (zI 1))], [.int (zI fr), .int (zI kd), .int (zI nt), .int (zI bk), .ref 143], es1)) i_209_112 rfl ?_
                                refine x0 (r := (116, [some (.ref 143), some (.int (zI bk)), some (.int (zI nt)), some (.int (zI kd)), some (.int (zI fr)), some (.int (zI fi)), some (.int (zI ra)), some (.int (zI 1))], [.int (zI fi), .int (zI fr), .int (zI kd), .int (zI nt), .int (zI bk), .ref 143], es1)) i_209_114 rfl ?_
                                refine x0 (r := (118, [some (.ref 143), some (.int (zI bk)), some (.int (zI nt)), some (.int (zI kd)), some (.int (zI fr)), some (.int (zI fi)), some (.int (zI ra)), some (.int (zI 1))], [.int (zI ra), .int (zI fi), .int (zI fr), .int (zI kd), .int (zI nt), .int (zI bk), .ref 143], es1)) i_209_116 rfl ?_
                                refine x_call (vs := [.ref 143, .int (zI bk), .int (zI nt), .int (zI kd), .int (zI fr), .int (zI fi), .int (zI ra)]) (rs := []) i_209_118 rfl (fun _ => rfl) rfl rfl rfl rfl rfl (pCall_v (p := 79) hs_es1 rfl rfl rfl rfl rfl (by decide) rfl rfl rfl rfl rfl) ?_
                                show aW _ _ _ _ _ _ (0, [some (.ref 143), some (.int (zI bk)), some (.int (zI nt)), some (.int (zI kd)), some (.int (zI fr)), some (.int (zI fi)), some (.int (zI ra)), none], [], es1)
                                refine x0 (r := (2, [some (.ref 143), some (.int (zI bk)), some (.int (zI nt)), some (.int (zI kd)), some (.int (zI fr)), some (.int (zI fi)), some (.int (zI ra)), none], [.int (zI 119)], es1)) i_208_0 (by rfl) ?_
                                refine x0 (r := (4, [some (.ref 143), some (.int (zI bk)), some (.int (zI nt)), some (.int (zI kd)), some (.int (zI fr)), some (.int (zI fi)), some (.int (zI ra)), none], [.int (zI 98), .int (zI 119)], es1)) i_208_2 (by rfl) ?_
                                refine x0 (r := (5, [some (.ref 143), some (.int (zI bk)), some (.int (zI nt)), some (.int (zI kd)), some (.int (zI fr)), some (.int (zI fi)), some (.int (zI ra)), none], [.int (zI bk), .int (zI 98), .int (zI 119)], es1)) i_208_4 rfl ?_
                                refine x_imul i_208_5 ?_
                                refine x_iadd i_208_6 ?_
                                refine x0 (r := (8, [some (.ref 143), some (.int (zI bk)), some (.int (zI nt)), some (.int (zI kd)), some (.int (zI fr)), some (.int (zI fi)), some (.int (zI ra)), none], [.int (zI 2), .int (zI (119 + (98 * bk)))], es1)) i_208_7 (by rfl) ?_
                                refine x_iadd i_208_8 ?_
                                refine x0 (r := (10, [some (.ref 143), some (.int (zI bk)), some (.int (zI nt)), some (.int (zI kd)), some (.int (zI fr)), some (.int (zI fi)), some (.int (zI ra)), none], [.int (zI 4), .int (zI ((119 + (98 * bk)) + 2))], es1)) i_208_9 (by rfl) ?_
                                refine x0 (r := (11, [some (.ref 143), some (.int (zI bk)), some (.int (zI nt)), some (.int (zI kd)), some (.int (zI fr)), some (.int (zI fi)), some (.int (zI ra)), none], [.int (zI nt), .int (zI 4), .int (zI ((119 + (98 * bk)) + 2))], es1)) i_208_10 rfl ?_
                                refine x_imul i_208_11 ?_
                                refine x_iadd i_208_12 ?_
                                refine x0 (r := (15, [some (.ref 143), some (.int (zI bk)), some (.int (zI nt)), some (.int (zI kd)), some (.int (zI fr)), some (.int (zI fi)), some (.int (zI ra)), some (.int (zI (((119 + (98 * bk)) + 2) + (4 * nt))))], [], es1)) i_208_13 rfl ?_
                                refine x0 (r := (16, [some (.ref 143), some (.int (zI bk)), some (.int (zI nt)), some (.int (zI kd)), some (.int (zI fr)), some (.int (zI fi)), some (.int (zI ra)), some (.int (zI (((119 + (98 * bk)) + 2) + (4 * nt))))], [.ref 143], es1)) i_208_15 rfl ?_
                                refine x_getr (p := 79) (k := 144) i_208_16 hs_es1 rfl rfl ?_
                                show aW _ _ _ _ _ _ (19, [some (.ref 143), some (.int (zI bk)), some (.int (zI nt)), some (.int (zI kd)), some (.int (zI fr)), some (.int (zI fi)), some (.int (zI ra)), some (.int (zI (((119 + (98 * bk)) + 2) + (4 * nt))))], [.ref 144], es1)
                                refine x0 (r := (21, [some (.ref 143), some (.int (zI bk)), some (.int (zI nt)), some (.int (zI kd)), some (.int (zI fr)), some (.int (zI fi)), some (.int (zI ra)), some (.int (zI (((119 + (98 * bk)) + 2) + (4 * nt))))], [.int (zI (((119 + (98 * bk)) + 2) + (4 * nt))), .ref 144], es1)) i_208_19 rfl ?_
                                refine x0 (r := (22, [some (.ref 143), some (.int (zI bk)), some (.int (zI nt)), some (.int (zI kd)), some (.int (zI fr)), some (.int (zI fi)), some (.int (zI ra)), some (.int (zI (((119 + (98 * bk)) + 2) + (4 * nt))))], [.int (zI kd), .int (zI (((119 + (98 * bk)) + 2) + (4 * nt))), .ref 144], es1)) i_208_21 rfl ?_
                                refine x_iast (p := 80) i_208_22 hs_es1 rfl (by unfold i32 iLO iHI; omega) (by omega) (by omega) ?_
                                obtain ⟨es43, e_es43⟩ : ∃ z : PH, z = sA es1 80 (((119 + (98 * bk)) + 2) + (4 * nt)).toNat (zI kd) := ⟨_, rfl⟩
                                have hs_es43 : sh es43 := by rw [e_es43]; exact sh_sA hs_es1
                                rw [← e_es43]
                                refine x0 (r := (24, [some (.ref 143), some (.int (zI bk)), some (.int (zI nt)), some (.int (zI kd)), some (.int (zI fr)), some (.int (zI fi)), some (.int (zI ra)), some (.int (zI (((119 + (98 * bk)) + 2) + (4 * nt))))], [.ref 143], es43)) i_208_23 rfl ?_
                                refine x_getr (p := 79) (k := 144) i_208_24 hs_es43 rfl rfl ?_
                                show aW _ _ _ _ _ _ (27, [some (.ref 143), some (.int (zI bk)), some (.int (zI nt)), some (.int (zI kd)), some (.int (zI fr)), some (.int (zI fi)), some (.int (zI ra)), some (.int (zI (((119 + (98 * bk)) + 2) + (4 * nt))))], [.ref 144], es43)
                                refine x0 (r := (29, [some (.ref 143), some (.int (zI bk)), some (.int (zI nt)), some (.int (zI kd)), some (.int (zI fr)), some (.int (zI fi)), some (.int (zI ra)), some (.int (zI (((119 + (98 * bk)) + 2) + (4 * nt))))], [.int (zI (((119 + (98 * bk)) + 2) + (4 * nt))), .ref 144], es43)) i_208_27 rfl ?_
                                refine x0 (r := (30, [some (.ref 143), some (.int (zI bk)), some (.int (zI nt)), some (.int (zI kd)), some (.int (zI fr)), some (.int (zI fi)), some (.int (zI ra)), some (.int (zI (((119 + (98 * bk)) + 2) + (4 * nt))))], [.int (zI 1), .int (zI (((119 + (98 * bk)) + 2) + (4 * nt))), .ref 144], es43)) i_208_29 (by rfl) ?_
                                refine x_iadd i_208_30 ?_
                                refine x0 (r := (33, [some (.ref 143), some (.int (zI bk)), some (.int (zI nt)), some (.int (zI kd)), some (.int (zI fr)), some (.int (zI fi)), some (.int (zI ra)), some (.int (zI (((119 + (98 * bk)) + 2) + (4 * nt))))], [.int (zI fr), .int (zI ((((119 + (98 * bk)) + 2) + (4 * nt)) + 1)), .ref 144], es43)) i_208_31 rfl ?_
                                refine x_iast (p := 80) i_208_33 hs_es43 rfl (by unfold i32 iLO iHI; omega) (by omega) (by omega) ?_
                                obtain ⟨es44, e_es44⟩ : ∃ z : PH, z = sA es43 80 ((((119 + (98 * bk)) + 2) + (4 * nt)) + 1).toNat (zI fr) := ⟨_, rfl⟩
                                have hs_es44 : sh es44 := by rw [e_es44]; exact sh_sA hs_es43
                                rw [← e_es44]
                                refine x0 (r := (35, [some (.ref 143), some (.int (zI bk)), some (.int (zI nt)), some (.int (zI kd)), some (.int (zI fr)), some (.int (zI fi)), some (.int (zI ra)), some (.int (zI (((119 + (98 * bk)) + 2) + (4 * nt))))], [.ref 143], es44)) i_208_34 rfl ?_
                                refine x_getr (p := 79) (k := 144) i_208_35 hs_es44 rfl rfl ?_
                                show aW _ _ _ _ _ _ (38, [some (.ref 143), some (.int (zI bk)), some (.int (zI nt)), some (.int (zI kd)), some (.int (zI fr)), some (.int (zI fi)), some (.int (zI ra)), some (.int (zI (((119 + (98 * bk)) + 2) + (4 * nt))))], [.ref 144], es44)
                                refine x0 (r := (40, [some (.ref 143), some (.int (zI bk)), some (.int (zI nt)), some (.int (zI kd)), some (.int (zI fr)), some (.int (zI fi)), some (.int (zI ra)), some (.int (zI (((119 + (98 * bk)) + 2) + (4 * nt))))], [.int (zI (((119 + (98 * bk)) + 2) + (4 * nt))), .ref 144], es44)) i_208_38 rfl ?_
                                refine x0 (r := (41, [some (.ref 143), some (.int (zI bk)), some (.int (zI nt)), some (.int (zI kd)), some (.int (zI fr)), some (.int (zI fi)), some (.int (zI ra)), some (.int (zI (((119 + (98 * bk)) + 2) + (4 * nt))))], [.int (zI 2), .int (zI (((119 + (98 * bk)) + 2) + (4 * nt))), .ref 144], es44)) i_208_40 (by rfl) ?_
                                refine x_iadd i_208_41 ?_
                                refine x0 (r := (44, [some (.ref 143), some (.int (zI bk)), some (.int (zI nt)), some (.int (zI kd)), some (.int (zI fr)), some (.int (zI fi)), some (.int (zI ra)), some (.int (zI (((119 + (98 * bk)) + 2) + (4 * nt))))], [.int (zI fi), .int (zI ((((119 + (98 * bk)) + 2) + (4 * nt)) + 2)), .ref 144], es44)) i_208_42 rfl ?_
                                refine x_iast (p := 80) i_208_44 hs_es44 rfl (by unfold i32 iLO iHI; omega) (by omega) (by omega) ?_
                                obtain ⟨es45, e_es45⟩ : ∃ z : PH, z = sA es44 80 ((((119 + (98 * bk)) + 2) + (4 * nt)) + 2).toNat (zI fi) := ⟨_, rfl⟩
                                have hs_es45 : sh es45 := by rw [e_es45]; exact sh_sA hs_es44
                                rw [← e_es45]
                                refine x0 (r := (46, [some (.ref 143), some (.int (zI bk)), some (.int (zI nt)), some (.int (zI kd)), some (.int (zI fr)), some (.int (zI fi)), some (.int (zI ra)), some (.int (zI (((119 + (98 * bk)) + 2) + (4 * nt))))], [.ref 143], es45)) i_208_45 rfl ?_
                                refine x_getr (p := 79) (k := 144) i_208_46 hs_es45 rfl rfl ?_
                                show aW _ _ _ _ _ _ (49, [some (.ref 143), some (.int (zI bk)), some (.int (zI nt)), some (.int (zI kd)), some (.int (zI fr)), some (.int (zI fi)), some (.int (zI ra)), some (.int (zI (((119 + (98 * bk)) + 2) + (4 * nt))))], [.ref 144], es45)
                                refine x0 (r := (51, [some (.ref 143), some (.int (zI bk)), some (.int (zI nt)), some (.int (zI kd)), some (.int (zI fr)), some (.int (zI fi)), some (.int (zI ra)), some (.int (zI (((119 + (98 * bk)) + 2) + (4 * nt))))], [.int (zI (((119 + (98 * bk)) + 2) + (4 * nt))), .ref 144], es45)) i_208_49 rfl ?_
                                refine x0 (r := (52, [some (.ref 143), some (.int (zI bk)), some (.int (zI nt)), some (.int (zI kd)), some (.int (zI fr)), some (.int (zI fi)), some (.int (zI ra)), some (.int (zI (((119 + (98 * bk)) + 2) + (4 * nt))))], [.int (zI 3), .int (zI (((119 + (98 * bk)) + 2) + (4 * nt))), .ref 144], es45)) i_208_51 (by rfl) ?_
                                refine x_iadd i_208_52 ?_
                                refine x0 (r := (55, [some (.ref 143), some (.int (zI bk)), some (.int (zI nt)), some (.int (zI kd)), some (.int (zI fr)), some (.int (zI fi)), some (.int (zI ra)), some (.int (zI (((119 + (98 * bk)) + 2) + (4 * nt))))], [.int (zI ra), .int (zI ((((119 + (98 * bk)) + 2) + (4 * nt)) + 3)), .ref 144], es45)) i_208_53 rfl ?_
                                refine x_iast (p := 80) i_208_55 hs_es45 rfl (by unfold i32 iLO iHI; omega) (by omega) (by omega) ?_
                                obtain ⟨es46, e_es46⟩ : ∃ z : PH, z = sA es45 80 ((((119 + (98 * bk)) + 2) + (4 * nt)) + 3).toNat (zI ra) := ⟨_, rfl⟩
                                have hs_es46 : sh es46 := by rw [e_es46]; exact sh_sA hs_es45
                                rw [← e_es46]
                                refine x_ret (v := none) i_208_56 rfl (fun _ => rfl) rfl rfl rfl ?_
                                show aW _ _ _ _ _ _ (121, [some (.ref 143), some (.int (zI bk)), some (.int (zI nt)), some (.int (zI kd)), some (.int (zI fr)), some (.int (zI fi)), some (.int (zI ra)), some (.int (zI 1))], [], es46)
                                refine x0 (r := (123, [some (.ref 143), some (.int (zI bk)), some (.int (zI nt)), some (.int (zI kd)), some (.int (zI fr)), some (.int (zI fi)), some (.int (zI ra)), some (.int (zI 1))], [.int (zI 1)], es46)) i_209_121 rfl ?_
                                refine x_ret (v := some (.int (zI 1))) i_209_123 rfl (fun _ => rfl) rfl rfl (pFin_b (by omega)) ?_
                                exact K15 es1 e_es1 v2 e_v2 c3 c5 v7 e_v7 c8 c10 v12 e_v12 c13 c15 c17 c19 c21 c23 c25 c27 v29 e_v29 c30 v35 e_v35 c36 v41 e_v41 c42 es43 e_es43 es44 e_es44 es45 e_es45 es46 e_es46
                              · refine x_cmpF i_209_86 (by unfold i32 iLO iHI; omega) (by unfold i32 iLO iHI; omega) rfl (by simp only [zC, cR]; omega) ?_
                                refine x0 (r := (90, [some (.ref 143), some (.int (zI bk)), some (.int (zI nt)), some (.int (zI kd)), some (.int (zI fr)), some (.int (zI fi)), some (.int (zI ra)), none], [.ref 143], es1)) i_209_89 rfl ?_
                                refine x0 (r := (91, [some (.ref 143), some (.int (zI bk)), some (.int (zI nt)), some (.int (zI kd)), some (.int (zI fr)), some (.int (zI fi)), some (.int (zI ra)), none], [.int (zI bk), .ref 143], es1)) i_209_90 rfl ?_
                                refine x0 (r := (92, [some (.ref 143), some (.int (zI bk)), some (.int (zI nt)), some (.int (zI kd)), some (.int (zI fr)), some (.int (zI fi)), some (.int (zI ra)), none], [.int (zI nt), .int (zI bk), .ref 143], es1)) i_209_91 rfl ?_
                                refine x0 (r := (93, [some (.ref 143), some (.int (zI bk)), some (.int (zI nt)), some (.int (zI kd)), some (.int (zI fr)), some (.int (zI fi)), some (.int (zI ra)), none], [.int (zI 3), .int (zI nt), .int (zI bk), .ref 143], es1)) i_209_92 (by rfl) ?_
                                refine x_call (vs := [.ref 143, .int (zI bk), .int (zI nt), .int (zI 3)]) (rs := []) i_209_93 rfl (fun _ => rfl) rfl rfl rfl rfl rfl (pCall_v (p := 79) hs_es1 rfl rfl rfl rfl rfl (by decide) rfl rfl rfl rfl rfl) ?_
                                show aW _ _ _ _ _ _ (0, [some (.ref 143), some (.int (zI bk)), some (.int (zI nt)), some (.int (zI 3))], [], es1)
                                refine x0 (r := (1, [some (.ref 143), some (.int (zI bk)), some (.int (zI nt)), some (.int (zI 3))], [.ref 143], es1)) i_211_0 rfl ?_
                                refine x0 (r := (2, [some (.ref 143), some (.int (zI bk)), some (.int (zI nt)), some (.int (zI 3))], [.int (zI bk), .ref 143], es1)) i_211_1 rfl ?_
                                refine x0 (r := (3, [some (.ref 143), some (.int (zI bk)), some (.int (zI nt)), some (.int (zI 3))], [.int (zI 2), .int (zI bk), .ref 143], es1)) i_211_2 (by rfl) ?_
                                refine x0 (r := (4, [some (.ref 143), some (.int (zI bk)), some (.int (zI nt)), some (.int (zI 3))], [.int (zI 4), .int (zI 2), .int (zI bk), .ref 143], es1)) i_211_3 (by rfl) ?_
                                refine x0 (r := (5, [some (.ref 143), some (.int (zI bk)), some (.int (zI nt)), some (.int (zI 3))], [.int (zI nt), .int (zI 4), .int (zI 2), .int (zI bk), .ref 143], es1)) i_211_4 rfl ?_
                                refine x_imul i_211_5 ?_
                                refine x_iadd i_211_6 ?_
                                refine x0 (r := (8, [some (.ref 143), some (.int (zI bk)), some (.int (zI nt)), some (.int (zI 3))], [.int (zI 3), .int (zI (2 + (4 * nt))), .int (zI bk), .ref 143], es1)) i_211_7 rfl ?_
                                refine x_iadd i_211_8 ?_
                                refine x_call (vs := [.ref 143, .int (zI bk), .int (zI ((2 + (4 * nt)) + 3))]) (rs := []) i_211_9 rfl (fun _ => rfl) rfl rfl rfl rfl rfl (pCall_v (p := 79) hs_es1 rfl rfl rfl rfl rfl (by decide) rfl rfl rfl rfl rfl) ?_
                                show aW _ _ _ _ _ _ (0, [some (.ref 143), some (.int (zI bk)), some (.int (zI ((2 + (4 * nt)) + 3)))], [], es1)
                                refine x0 (r := (1, [some (.ref 143), some (.int (zI bk)), some (.int (zI ((2 + (4 * nt)) + 3)))], [.ref 143], es1)) i_206_0 rfl ?_
                                refine x_getr (p := 79) (k := 144) i_206_1 hs_es1 rfl rfl ?_
                                show aW _ _ _ _ _ _ (4, [some (.ref 143), some (.int (zI bk)), some (.int (zI ((2 + (4 * nt)) + 3)))], [.ref 144], es1)
                                refine x0 (r := (6, [some (.ref 143), some (.int (zI bk)), some (.int (zI ((2 + (4 * nt)) + 3)))], [.int (zI 119), .ref 144], es1)) i_206_4 (by rfl) ?_
                                refine x0 (r := (8, [some (.ref 143), some (.int (zI bk)), some (.int (zI ((2 + (4 * nt)) + 3)))], [.int (zI 98), .int (zI 119), .ref 144], es1)) i_206_6 (by rfl) ?_
                                refine x0 (r := (9, [some (.ref 143), some (.int (zI bk)), some (.int (zI ((2 + (4 * nt)) + 3)))], [.int (zI bk), .int (zI 98), .int (zI 119), .ref 144], es1)) i_206_8 rfl ?_
                                refine x_imul i_206_9 ?_
                                refine x_iadd i_206_10 ?_
                                refine x0 (r := (12, [some (.ref 143), some (.int (zI bk)), some (.int (zI ((2 + (4 * nt)) + 3)))], [.int (zI ((2 + (4 * nt)) + 3)), .int (zI (119 + (98 * bk))), .ref 144], es1)) i_206_11 rfl ?_
                                refine x_iadd i_206_12 ?_
                                refine x_iald (p := 80) i_206_13 hs_es1 rfl (by unfold i32 iLO iHI; omega) (by omega) (by omega) ?_
                                obtain ⟨v47, e_v47⟩ : ∃ z : Int, z = (gA es1 80 ((119 + (98 * bk)) + ((2 + (4 * nt)) + 3)).toNat).toInt := ⟨_, rfl⟩
                                rw [← e_v47]
                                have r_v47 : iLO ≤ v47 ∧ v47 ≤ iHI := by rw [e_v47]; exact i32_rng _
                                unfold iLO iHI at r_v47
                                refine x_ret (v := some (.int (zI v47))) i_206_14 rfl (fun _ => rfl) rfl rfl rfl ?_
                                show aW _ _ _ _ _ _ (12, [some (.ref 143), some (.int (zI bk)), some (.int (zI nt)), some (.int (zI 3))], [.int (zI v47)], es1)
                                refine x_ret (v := some (.int (zI v47))) i_211_12 rfl (fun _ => rfl) rfl rfl rfl ?_
                                show aW _ _ _ _ _ _ (96, [some (.ref 143), some (.int (zI bk)), some (.int (zI nt)), some (.int (zI kd)), some (.int (zI fr)), some (.int (zI fi)), some (.int (zI ra)), none], [.int (zI v47)], es1)
                                refine x0 (r := (98, [some (.ref 143), some (.int (zI bk)), some (.int (zI nt)), some (.int (zI kd)), some (.int (zI fr)), some (.int (zI fi)), some (.int (zI ra)), none], [.int (zI ra), .int (zI v47)], es1)) i_209_96 rfl ?_
                                by_cases c48 : v47 = ra
                                · refine x_cmpT i_209_98 (by unfold i32 iLO iHI; omega) (by unfold i32 iLO iHI; omega) rfl (by simp only [zC, cR]; omega) ?_
                                  refine x0 (r := (106, [some (.ref 143), some (.int (zI bk)), some (.int (zI nt)), some (.int (zI kd)), some (.int (zI fr)), some (.int (zI fi)), some (.int (zI ra)), none], [.int (zI 0)], es1)) i_209_105 (by rfl) ?_
                                  refine x0 (r := (108, [some (.ref 143), some (.int (zI bk)), some (.int (zI nt)), some (.int (zI kd)), some (.int (zI fr)), some (.int (zI fi)), some (.int (zI ra)), some (.int (zI 0))], [], es1)) i_209_106 rfl ?_
                                  refine x0 (r := (109, [some (.ref 143), some (.int (zI bk)), some (.int (zI nt)), some (.int (zI kd)), some (.int (zI fr)), some (.int (zI fi)), some (.int (zI ra)), some (.int (zI 0))], [.ref 143], es1)) i_209_108 rfl ?_
                                  refine x0 (r := (110, [some (.ref 143), some (.int (zI bk)), some (.int (zI nt)), some (.int (zI kd)), some (.int (zI fr)), some (.int (zI fi)), some (.int (zI ra)), some (.int (zI 0))], [.int (zI bk), .ref 143], es1)) i_209_109 rfl ?_
                                  refine x0 (r := (111, [some (.ref 143), some (.int (zI bk)), some (.int (zI nt)), some (.int (zI kd)), some (.int (zI fr)), some (.int (zI fi)), some (.int (zI ra)), some (.int (zI 0))], [.int (zI nt), .int (zI bk), .ref 143], es1)) i_209_110 rfl ?_
                                  refine x0 (r := (112, [some (.ref 143), some (.int (zI bk)), some (.int (zI nt)), some (.int (zI kd)), some (.int (zI fr)), some (.int (zI fi)), some (.int (zI ra)), some (.int (zI 0))], [.int (zI kd), .int (zI nt), .int (zI bk), .ref 143], es1)) i_209_111 rfl ?_
                                  refine x0 (r := (114, [some (.ref 143), some (.int (zI bk)), some (.int (zI nt)), some (.int (zI kd)), some (.int (zI fr)), some (.int (zI fi)), some (.int (zI ra)), some (.int (zI 0))], [.int (zI fr), .int (zI kd), .int (zI nt), .int (zI bk), .ref 143], es1)) i_209_112 rfl ?_
                                  refine x0 (r := (116, [some (.ref 143), some (.int (zI bk)), some (.int (zI nt)), some (.int (zI kd)), some (.int (zI fr)), some (.int (zI fi)), some (.int (zI ra)), some (.int (zI 0))], [.int (zI fi), .int (zI fr), .int (zI kd), .int (zI nt), .int (zI bk), .ref 143], es1)) i_209_114 rfl ?_
                                  refine x0 (r := (118, [some (.ref 143), some (.int (zI bk)), some (.int (zI nt)), some (.int (zI kd)), some (.int (zI fr)), some (.int (zI fi)), some (.int (zI ra)), some (.int (zI 0))], [.int (zI ra), .int (zI fi), .int (zI fr), .int (zI kd), .int (zI nt), .int (zI bk), .ref 143], es1)) i_209_116 rfl ?_
                                  refine x_call (vs := [.ref 143, .int (zI bk), .int (zI nt), .int (zI kd), .int (zI fr), .int (zI fi), .int (zI ra)]) (rs := []) i_209_118 rfl (fun _ => rfl) rfl rfl rfl rfl rfl (pCall_v (p := 79) hs_es1 rfl rfl rfl rfl rfl (by decide) rfl rfl rfl rfl rfl) ?_
                                  show aW _ _ _ _ _ _ (0, [some (.ref 143), some (.int (zI bk)), some (.int (zI nt)), some (.int (zI kd)), some (.int (zI fr)), some (.int (zI fi)), some (.int (zI ra)), none], [], es1)
                                  refine x0 (r := (2, [some (.ref 143), some (.int (zI bk)), some (.int (zI nt)), some (.int (zI kd)), some (.int (zI fr)), some (.int (zI fi)), some (.int (zI ra)), none], [.int (zI 119)], es1)) i_208_0 (by rfl) ?_
                                  refine x0 (r := (4, [some (.ref 143), some (.int (zI bk)), some (.int (zI nt)), some (.int (zI kd)), some (.int (zI fr)), some (.int (zI fi)), some (.int (zI ra)), none], [.int (zI 98), .int (zI 119)], es1)) i_208_2 (by rfl) ?_
                                  refine x0 (r := (5, [some (.ref 143), some (.int (zI bk)), some (.int (zI nt)), some (.int (zI kd)), some (.int (zI fr)), some (.int (zI fi)), some (.int (zI ra)), none], [.int (zI bk), .int (zI 98), .int (zI 119)], es1)) i_208_4 rfl ?_
                                  refine x_imul i_208_5 ?_
                                  refine x_iadd i_208_6 ?_
                                  refine x0 (r := (8, [some (.ref 143), some (.int (zI bk)), some (.int (zI nt)), some (.int (zI kd)), some (.int (zI fr)), some (.int (zI fi)), some (.int (zI ra)), none], [.int (zI 2), .int (zI (119 + (98 * bk)))], es1)) i_208_7 (by rfl) ?_
                                  refine x_iadd i_208_8 ?_
                                  refine x0 (r := (10, [some (.ref 143), some (.int (zI bk)), some (.int (zI nt)), some (.int (zI kd)), some (.int (zI fr)), some (.int (zI fi)), some (.int (zI ra)), none], [.int (zI 4), .int (zI ((119 + (98 * bk)) + 2))], es1)) i_208_9 (by rfl) ?_
                                  refine x0 (r := (11, [some (.ref 143), some (.int (zI bk)), some (.int (zI nt)), some (.int (zI kd)), some (.int (zI fr)), some (.int (zI fi)), some (.int (zI ra)), none], [.int (zI nt), .int (zI 4), .int (zI ((119 + (98 * bk)) + 2))], es1)) i_208_10 rfl ?_
                                  refine x_imul i_208_11 ?_
                                  refine x_iadd i_208_12 ?_
                                  refine x0 (r := (15, [some (.ref 143), some (.int (zI bk)), some (.int (zI nt)), some (.int (zI kd)), some (.int (zI fr)), some (.int (zI fi)), some (.int (zI ra)), some (.int (zI (((119 + (98 * bk)) + 2) + (4 * nt))))], [], es1)) i_208_13 rfl ?_
                                  refine x0 (r := (16, [some (.ref 143), some (.int (zI bk)), some (.int (zI nt)), some (.int (zI kd)), some (.int (zI fr)), some (.int (zI fi)), some (.int (zI ra)), some (.int (zI (((119 + (98 * bk)) + 2) + (4 * nt))))], [.ref 143], es1)) i_208_15 rfl ?_
                                  refine x_getr (p := 79) (k := 144) i_208_16 hs_es1 rfl rfl ?_
                                  show aW _ _ _ _ _ _ (19, [some (.ref 143), some (.int (zI bk)), some (.int (zI nt)), some (.int (zI kd)), some (.int (zI fr)), some (.int (zI fi)), some (.int (zI ra)), some (.int (zI (((119 + (98 * bk)) + 2) + (4 * nt))))], [.ref 144], es1)
                                  refine x0 (r := (21, [some (.ref 143), some (.int (zI bk)), some (.int (zI nt)), some (.int (zI kd)), some (.int (zI fr)), some (.int (zI fi)), some (.int (zI ra)), some (.int (zI (((119 + (98 * bk)) + 2) + (4 * nt))))], [.int (zI (((119 + (98 * bk)) + 2) + (4 * nt))), .ref 144], es1)) i_208_19 rfl ?_
                                  refine x0 (r := (22, [some (.ref 143), some (.int (zI bk)), some (.int (zI nt)), some (.int (zI kd)), some (.int (zI fr)), some (.int (zI fi)), some (.int (zI ra)), some (.int (zI (((119 + (98 * bk)) + 2) + (4 * nt))))], [.int (zI kd), .int (zI (((119 + (98 * bk)) + 2) + (4 * nt))), .ref 144], es1)) i_208_21 rfl ?_
                                  refine x_iast (p := 80) i_208_22 hs_es1 rfl (by unfold i32 iLO iHI; omega) (by omega) (by omega) ?_
                                  obtain ⟨es49, e_es49⟩ : ∃ z : PH, z = sA es1 80 (((119 + (98 * bk)) + 2) + (4 * nt)).toNat (zI kd) := ⟨_, rfl⟩
                                  have hs_es49 : sh es49 := by rw [e_es49]; exact sh_sA hs_es1
                                  rw [← e_es49]
                                  refine x0 (r := (24, [some (.ref 143), some (.int (zI bk)), some (.int (zI nt)), some (.int (zI kd)), some (.int (zI fr)), some (.int (zI fi)), some (.int (zI ra)), some (.int (zI (((119 + (98 * bk)) + 2) + (4 * nt))))], [.ref 143], es49)) i_208_23 rfl ?_
                                  refine x_getr (p := 79) (k := 144) i_208_24 hs_es49 rfl rfl ?_
                                  show aW _ _ _ _ _ _ (27, [some (.ref 143), some (.int (zI bk)), some (.int (zI nt)), some (.int (zI kd)), some (.int (zI fr)), some (.int (zI fi)), some (.int (zI ra)), some (.int (zI (((119 + (98 * bk)) + 2) + (4 * nt))))], [.ref 144], es49)
                                  refine x0 (r := (29, [some (.ref 143), some (.int (zI bk)), some (.int (zI nt)), some (.int (zI kd)), some (.int (zI fr)), some (.int (zI fi)), some (.int (zI ra)), some (.int (zI (((119 + (98 * bk)) + 2) + (4 * nt))))], [.int (zI (((119 + (98 * bk)) + 2) + (4 * nt))), .ref 144], es49)) i_208_27 rfl ?_
                                  refine x0 (r := (30, [some (.ref 143), some (.int (zI bk)), some (.int (zI nt)), some (.int (zI kd)), some (.int (zI fr)), some (.int (zI fi)), some (.int (zI ra)), some (.int (zI (((119 + (98 * bk)) + 2) + (4 * nt))))], [.int (zI 1), .int (zI (((119 + (98 * bk)) + 2) + (4 * nt))), .ref 144], es49)) i_208_29 (by rfl) ?_
                                  refine x_iadd i_208_30 ?_
                                  refine x0 (r := (33, [some (.ref 143), some (.int (zI bk)), some (.int (zI nt)), some (.int (zI kd)), some (.int (zI fr)), some (.int (zI fi)), some (.int (zI ra)), some (.int (zI (((119 + (98 * bk)) + 2) + (4 * nt))))], [.int (zI fr), .int (zI ((((119 + (98 * bk)) + 2) + (4 * nt)) + 1)), .ref 144], es49)) i_208_31 rfl ?_
                                  refine x_iast (p := 80) i_208_33 hs_es49 rfl (by unfold i32 iLO iHI; omega) (by omega) (by omega) ?_
                                  obtain ⟨es50, e_es50⟩ : ∃ z : PH, z = sA es49 80 ((((119 + (98 * bk)) + 2) + (4 * nt)) + 1).toNat (zI fr) := ⟨_, rfl⟩
                                  have hs_es50 : sh es50 := by rw [e_es50]; exact sh_sA hs_es49
                                  rw [← e_es50]
                                  refine x0 (r := (35, [some (.ref 143), some (.int (zI bk)), some (.int (zI nt)), some (.int (zI kd)), some (.int (zI fr)), some (.int (zI fi)), some (.int (zI ra)), some (.int (zI (((119 + (98 * bk)) + 2) + (4 * nt))))], [.ref 143], es50)) i_208_34 rfl ?_
                                  refine x_getr (p := 79) (k := 144) i_208_35 hs_es50 rfl rfl ?_
                                  show aW _ _ _ _ _ _ (38, [some (.ref 143), some (.int (zI bk)), some (.int (zI nt)), some (.int (zI kd)), some (.int (zI fr)), some (.int (zI fi)), some (.int (zI ra)), some (.int (zI (((119 + (98 * bk)) + 2) + (4 * nt))))], [.ref 144], es50)
                                  refine x0 (r := (40, [some (.ref 143), some (.int (zI bk)), some (.int (zI nt)), some (.int (zI kd)), some (.int (zI fr)), some (.int (zI fi)), some (.int (zI ra)), some (.int (zI (((119 + (98 * bk)) + 2) + (4 * nt))))], [.int (zI (((119 + (98 * bk)) + 2) + (4 * nt))), .ref 144], es50)) i_208_38 rfl ?_
                                  refine x0 (r := (41, [some (.ref 143), some (.int (zI bk)), some (.int (zI nt)), some (.int (zI kd)), some (.int (zI fr)), some (.int (zI fi)), some (.int (zI ra)), some (.int (zI (((119 + (98 * bk)) + 2) + (4 * nt))))], [.int (zI 2), .int (zI (((119 + (98 * bk)) + 2) + (4 * nt))), .ref 144], es50)) i_208_40 (by rfl) ?_
                                  refine x_iadd i_208_41 ?_
                                  refine x0 (r := (44, [some (.ref 143), some (.int (zI bk)), some (.int (zI nt)), some (.int (zI kd)), some (.int (zI fr)), some (.int (zI fi)), some (.int (zI ra)), some (.int (zI (((119 + (98 * bk)) + 2) + (4 * nt))))], [.int (zI fi), .int (zI ((((119 + (98 * bk)) + 2) + (4 * nt)) + 2)), .ref 144], es50)) i_208_42 rfl ?_
                                  refine x_iast (p := 80) i_208_44 hs_es50 rfl (by unfold i32 iLO iHI; omega) (by omega) (by omega) ?_
                                  obtain ⟨es51, e_es51⟩ : ∃ z : PH, z = sA es50 80 ((((119 + (98 * bk)) + 2) + (4 * nt)) + 2).toNat (zI fi) := ⟨_, rfl⟩
                                  have hs_es51 : sh es51 := by rw [e_es51]; exact sh_sA hs_es50
                                  rw [← e_es51]
                                  refine x0 (r := (46, [some (.ref 143), some (.int (zI bk)), some (.int (zI nt)), some (.int (zI kd)), some (.int (zI fr)), some (.int (zI fi)), some (.int (zI ra)), some (.int (zI (((119 + (98 * bk)) + 2) + (4 * nt))))], [.ref 143], es51)) i_208_45 rfl ?_
                                  refine x_getr (p := 79) (k := 144) i_208_46 hs_es51 rfl rfl ?_
                                  show aW _ _ _ _ _ _ (49, [some (.ref 143), some (.int (zI bk)), some (.int (zI nt)), some (.int (zI kd)), some (.int (zI fr)), some (.int (zI fi)), some (.int (zI ra)), some (.int (zI (((119 + (98 * bk)) + 2) + (4 * nt))))], [.ref 144], es51)
                                  refine x0 (r := (51, [some (.ref 143), some (.int (zI bk)), some (.int (zI nt)), some (.int (zI kd)), some (.int (zI fr)), some (.int (zI fi)), some (.int (zI ra)), some (.int (zI (((119 + (98 * bk)) + 2) + (4 * nt))))], [.int (zI (((119 + (98 * bk)) + 2) + (4 * nt))), .ref 144], es51)) i_208_49 rfl ?_
                                  refine x0 (r := (52, [some (.ref 143), some (.int (zI bk)), some (.int (zI nt)), some (.int (zI kd)), some (.int (zI fr)), some (.int (zI fi)), some (.int (zI ra)), some (.int (zI (((119 + (98 * bk)) + 2) + (4 * nt))))], [.int (zI 3), .int (zI (((119 + (98 * bk)) + 2) + (4 * nt))), .ref 144], es51)) i_208_51 (by rfl) ?_
                                  refine x_iadd i_208_52 ?_
                                  refine x0 (r := (55, [some (.ref 143), some (.int (zI bk)), some (.int (zI nt)), some (.int (zI kd)), some (.int (zI fr)), some (.int (zI fi)), some (.int (zI ra)), some (.int (zI (((119 + (98 * bk)) + 2) + (4 * nt))))], [.int (zI ra), .int (zI ((((119 + (98 * bk)) + 2) + (4 * nt)) + 3)), .ref 144], es51)) i_208_53 rfl ?_
                                  refine x_iast (p := 80) i_208_55 hs_es51 rfl (by unfold i32 iLO iHI; omega) (by omega) (by omega) ?_
                                  obtain ⟨es52, e_es52⟩ : ∃ z : PH, z = sA es51 80 ((((119 + (98 * bk)) + 2) + (4 * nt)) + 3).toNat (zI ra) := ⟨_, rfl⟩
                                  have hs_es52 : sh es52 := by rw [e_es52]; exact sh_sA hs_es51
                                  rw [← e_es52]
                                  refine x_ret (v := none) i_208_56 rfl (fun _ => rfl) rfl rfl rfl ?_
                                  show aW _ _ _ _ _ _ (121, [some (.ref 143), some (.int (zI bk)), some (.int (zI nt)), some (.int (zI kd)), some (.int (zI fr)), some (.int (zI fi)), some (.int (zI ra)), some (.int (zI 0))], [], es52)
                                  refine x0 (r := (123, [some (.ref 143), some (.int (zI bk)), some (.int (zI nt)), some (.int (zI kd)), some (.int (zI fr)), some (.int (zI fi)), some (.int (zI ra)), some (.int (zI 0))], [.int (zI 0)], es52)) i_209_121 rfl ?_
                                  refine x_ret (v := some (.int (zI 0))) i_209_123 rfl (fun _ => rfl) rfl rfl (pFin_b (by omega)) ?_
                                  exact K16 es1 e_es1 v2 e_v2 c3 c5 v7 e_v7 c8 c10 v12 e_v12 c13 c15 c17 c19 c21 c23 c25 c27 v29 e_v29 c30 v35 e_v35 c36 v41 e_v41 c42 v47 e_v47 c48 es49 e_es49 es50 e_es50 es51 e_es51 es52 e_es52
                                · refine x_cmpF i_209_98 (by unfold i32 iLO iHI; omega) (by unfold i32 iLO iHI; omega) rfl (by simp only [zC, cR]; omega) ?_
                                  refine x0 (r := (102, [some (.ref 143), some (.int (zI bk)), some (.int (zI nt)), some (.int (zI kd)), some (.int (zI fr)), some (.int (zI fi)), some (.int (zI ra)), none], [.int (zI 1)], es1)) i_209_101 (by rfl) ?_
                                  refine x0 (r := (106, [some (.ref 143), some (.int (zI bk)), some (.int (zI nt)), some (.int (zI kd)), some (.int (zI fr)), some (.int (zI fi)), some (.int (zI ra)), none], [.int (zI 1)], es1)) i_209_102 rfl ?_
                                  refine x0 (r := (108, [some (.ref 143), some (.int (zI bk)), some (.int (zI nt)), some (.int (zI kd)), some (.int (zI fr)), some (.int (zI fi)), some (.int (zI ra)), some (.int (zI 1))], [], es1)) i_209_106 rfl ?_
                                  refine x0 (r := (109, [some (.ref 143), some (.int (zI bk)), some (.int (zI nt)), some (.int (zI kd)), some (.int (zI fr)), some (.int (zI fi)), some (.int (zI ra)), some (.int (zI 1))], [.ref 143], es1)) i_209_108 rfl ?_
                                  refine x0 (r := (110, [some (.ref 143), some (.int (zI bk)), some (.int (zI nt)), some (.int (zI kd)), some (.int (zI fr)), some (.int (zI fi)), some (.int (zI ra)), some (.int (zI 1))], [.int (zI bk), .ref 143], es1)) i_209_109 rfl ?_
                                  refine x0 (r := (111, [some (.ref 143), some (.int (zI bk)), some (.int (zI nt)), some (.int (zI kd)), some (.int (zI fr)), some (.int (zI fi)), some (.int (zI ra)), some (.int (zI 1))], [.int (zI nt), .int (zI bk), .ref 143], es1)) i_209_110 rfl ?_
                                  refine x0 (r := (112, [some (.ref 143), some (.int (zI bk)), some (.int (zI nt)), some (.int (zI kd)), some (.int (zI fr)), some (.int (zI fi)), some (.int (zI ra)), some (.int (zI 1))], [.int (zI kd), .int (zI nt), .int (zI bk), .ref 143], es1)) i_209_111 rfl ?_
                                  refine x0 (r := (114, [some (.ref 143), some (.int (zI bk)), some (.int (zI nt)), some (.int (zI kd)), some (.int (zI fr)), some (.int (zI fi)), some (.int (zI ra)), some (.int (zI 1))], [.int (zI fr), .int (zI kd), .int (zI nt), .int (zI bk), .ref 143], es1)) i_209_112 rfl ?_
                                  refine x0 (r := (116, [some (.ref 143), some (.int (zI bk)), some (.int (zI nt)), some (.int (zI kd)), some (.int (zI fr)), some (.int (zI fi)), some (.int (zI ra)), some (.int (zI 1))], [.int (zI fi), .int (zI fr), .int (zI kd), .int (zI nt), .int (zI bk), .ref 143], es1)) i_209_114 rfl ?_
                                  refine x0 (r := (118, [some (.ref 143), some (.int (zI bk)), some (.int (zI nt)), some (.int (zI kd)), some (.int (zI fr)), some (.int (zI fi)), some (.int (zI ra)), some (.int (zI 1))], [.int (zI ra), .int (zI fi), .int (zI fr), .int (zI kd), .int (zI nt), .int (zI bk), .ref 143], es1)) i_209_116 rfl ?_
                                  refine x_call (vs := [.ref 143, .int (zI bk), .int (zI nt), .int (zI kd), .int (zI fr), .int (zI fi), .int (zI ra)]) (rs := []) i_209_118 rfl (fun _ => rfl) rfl rfl rfl rfl rfl (pCall_v (p := 79) hs_es1 rfl rfl rfl rfl rfl (by decide) rfl rfl rfl rfl rfl) ?_
                                  show aW _ _ _ _ _ _ (0, [some (.ref 143), some (.int (zI bk)), some (.int (zI nt)), some (.int (zI kd)), some (.int (zI fr)), some (.int (zI fi)), some (.int (zI ra)), none], [], es1)
                                  refine x0 (r := (2, [some (.ref 143), some (.int (zI bk)), some (.int (zI nt)), some (.int (zI kd)), some (.int (zI fr)), some (.int (zI fi)), some (.int (zI ra)), none], [.int (zI 119)], es1)) i_208_0 (by rfl) ?_
                                  refine x0 (r := (4, [some (.ref 143), some (.int (zI bk)), some (.int (zI nt)), some (.int (zI kd)), some (.int (zI fr)), some (.int (zI fi)), some (.int (zI ra)), none], [.int (zI 98), .int (zI 119)], es1)) i_208_2 (by rfl) ?_
                                  refine x0 (r := (5, [some (.ref 143), some (.int (zI bk)), some (.int (zI nt)), some (.int (zI kd)), some (.int (zI fr)), some (.int (zI fi)), some (.int (zI ra)), none], [.int (zI bk), .int (zI 98), .int (zI 119)], es1)) i_208_4 rfl ?_
                                  refine x_imul i_208_5 ?_
                                  refine x_iadd i_208_6 ?_
                                  refine x0 (r := (8, [some (.ref 143), some (.int (zI bk)), some (.int (zI nt)), some (.int (zI kd)), some (.int (zI fr)), some (.int (zI fi)), some (.int (zI ra)), none], [.int (zI 2), .int (zI (119 + (98 * bk)))], es1)) i_208_7 (by rfl) ?_
                                  refine x_iadd i_208_8 ?_
                                  refine x0 (r := (10, [some (.ref 143), some (.int (zI bk)), some (.int (zI nt)), some (.int (zI kd)), some (.int (zI fr)), some (.int (zI fi)), some (.int (zI ra)), none], [.int (zI 4), .int (zI ((119 + (98 * bk)) + 2))], es1)) i_208_9 (by rfl) ?_
                                  refine x0 (r := (11, [some (.ref 143), some (.int (zI bk)), some (.int (zI nt)), some (.int (zI kd)), some (.int (zI fr)), some (.int (zI fi)), some (.int (zI ra)), none], [.int (zI nt), .int (zI 4), .int (zI ((119 + (98 * bk)) + 2))], es1)) i_208_10 rfl ?_
                                  refine x_imul i_208_11 ?_
                                  refine x_iadd i_208_12 ?_
                                  refine x0 (r := (15, [some (.ref 143), some (.int (zI bk)), some (.int (zI nt)), some (.int (zI kd)), some (.int (zI fr)), some (.int (zI fi)), some (.int (zI ra)), some (.int (zI (((119 + (98 * bk)) + 2) + (4 * nt))))], [], es1)) i_208_13 rfl ?_
                                  refine x0 (r := (16, [some (.ref 143), some (.int (zI bk)), some (.int (zI nt)), some (.int (zI kd)), some (.int (zI fr)), some (.int (zI fi)), some (.int (zI ra)), some (.int (zI (((119 + (98 * bk)) + 2) + (4 * nt))))], [.ref 143], es1)) i_208_15 rfl ?_
                                  refine x_getr (p := 79) (k := 144) i_208_16 hs_es1 rfl rfl ?_
                                  show aW _ _ _ _ _ _ (19, [some (.ref 143), some (.int (zI bk)), some (.int (zI nt)), some (.int (zI kd)), some (.int (zI fr)), some (.int (zI fi)), some (.int (zI ra)), some (.int (zI (((119 + (98 * bk)) + 2) + (4 * nt))))], [.ref 144], es1)
                                  refine x0 (r := (21, [some (.ref 143), some (.int (zI bk)), some (.int (zI nt)), some (.int (zI kd)), some (.int (zI fr)), some (.int (zI fi)), some (.int (zI ra)), some (.int (zI (((119 + (98 * bk)) + 2) + (4 * nt))))], [.int (zI (((119 + (98 * bk)) + 2) + (4 * nt))), .ref 144], es1)) i_208_19 rfl ?_
                                  refine x0 (r := (22, [some (.ref 143), some (.int (zI bk)), some (.int (zI nt)), some (.int (zI kd)), some (.int (zI fr)), some (.int (zI fi)), some (.int (zI ra)), some (.int (zI (((119 + (98 * bk)) + 2) + (4 * nt))))], [.int (zI kd), .int (zI (((119 + (98 * bk)) + 2) + (4 * nt))), .ref 144], es1)) i_208_21 rfl ?_
                                  refine x_iast (p := 80) i_208_22 hs_es1 rfl (by unfold i32 iLO iHI; omega) (by omega) (by omega) ?_
                                  obtain ⟨es53, e_es53⟩ : ∃ z : PH, z = sA es1 80 (((119 + (98 * bk)) + 2) + (4 * nt)).toNat (zI kd) := ⟨_, rfl⟩
                                  have hs_es53 : sh es53 := by rw [e_es53]; exact sh_sA hs_es1
                                  rw [← e_es53]
                                  refine x0 (r := (24, [some (.ref 143), some (.int (zI bk)), some (.int (zI nt)), some (.int (zI kd)), some (.int (zI fr)), some (.int (zI fi)), some (.int (zI ra)), some (.int (zI (((119 + (98 * bk)) + 2) + (4 * nt))))], [.ref 143], es53)) i_208_23 rfl ?_
                                  refine x_getr (p := 79) (k := 144) i_208_24 hs_es53 rfl rfl ?_
                                  show aW _ _ _ _ _ _ (27, [some (.ref 143), some (.int (zI bk)), some (.int (zI nt)), some (.int (zI kd)), some (.int (zI fr)), some (.int (zI fi)), some (.int (zI ra)), some (.int (zI (((119 + (98 * bk)) + 2) + (4 * nt))))], [.ref 144], es53)
                                  refine x0 (r := (29, [some (.ref 143), some (.int (zI bk)), some (.int (zI nt)), some (.int (zI kd)), some (.int (zI fr)), some (.int (zI fi)), some (.int (zI ra)), some (.int (zI (((119 + (98 * bk)) + 2) + (4 * nt))))], [.int (zI (((119 + (98 * bk)) + 2) + (4 * nt))), .ref 144], es53)) i_208_27 rfl ?_
                                  refine x0 (r := (30, [some (.ref 143), some (.int (zI bk)), some (.int (zI nt)), some (.int (zI kd)), some (.int (zI fr)), some (.int (zI fi)), some (.int (zI ra)), some (.int (zI (((119 + (98 * bk)) + 2) + (4 * nt))))], [.int (zI 1), .int (zI (((119 + (98 * bk)) + 2) + (4 * nt))), .ref 144], es53)) i_208_29 (by rfl) ?_
                                  refine x_iadd i_208_30 ?_
                                  refine x0 (r := (33, [some (.ref 143), some (.int (zI bk)), some (.int (zI nt)), some (.int (zI kd)), some (.int (zI fr)), some (.int (zI fi)), some (.int (zI ra)), some (.int (zI (((119 + (98 * bk)) + 2) + (4 * nt))))], [.int (zI fr), .int (zI ((((119 + (98 * bk)) + 2) + (4 * nt)) + 1)), .ref 144], es53)) i_208_31 rfl ?_
                                  refine x_iast (p := 80) i_208_33 hs_es53 rfl (by unfold i32 iLO iHI; omega) (by omega) (by omega) ?_
                                  obtain ⟨es54, e_es54⟩ : ∃ z : PH, z = sA es53 80 ((((119 + (98 * bk)) + 2) + (4 * nt)) + 1).toNat (zI fr) := ⟨_, rfl⟩
                                  have hs_es54 : sh es54 := by rw [e_es54]; exact sh_sA hs_es53
                                  rw [← e_es54]
                                  refine x0 (r := (35, [some (.ref 143), some (.int (zI bk)), some (.int (zI nt)), some (.int (zI kd)), some (.int (zI fr)), some (.int (zI fi)), some (.int (zI ra)), some (.int (zI (((119 + (98 * bk)) + 2) + (4 * nt))))], [.ref 143], es54)) i_208_34 rfl ?_
                                  refine x_getr (p := 79) (k := 144) i_208_35 hs_es54 rfl rfl ?_
                                  show aW _ _ _ _ _ _ (38, [some (.ref 143), some (.int (zI bk)), some (.int (zI nt)), some (.int (zI kd)), some (.int (zI fr)), some (.int (zI fi)), some (.int (zI ra)), some (.int (zI (((119 + (98 * bk)) + 2) + (4 * nt))))], [.ref 144], es54)
                                  refine x0 (r := (40, [some (.ref 143), some (.int (zI bk)), some (.int (zI nt)), some (.int (zI kd)), some (.int (zI fr)), some (.int (zI fi)), some (.int (zI ra)), some (.int (zI (((119 + (98 * bk)) + 2) + (4 * nt))))], [.int (zI (((119 + (98 * bk)) + 2) + (4 * nt))), .ref 144], es54)) i_208_38 rfl ?_
                                  refine x0 (r := (41, [some (.ref 143), some (.int (zI bk)), some (.int (zI nt)), some (.int (zI kd)), some (.int (zI fr)), some (.int (zI fi)), some (.int (zI ra)), some (.int (zI (((119 + (98 * bk)) + 2) + (4 * nt))))], [.int (zI 2), .int (zI (((119 + (98 * bk)) + 2) + (4 * nt))), .ref 144], es54)) i_208_40 (by rfl) ?_
                                  refine x_iadd i_208_41 ?_
                                  refine x0 (r := (44, [some (.ref 143), some (.int (zI bk)), some (.int (zI nt)), some (.int (zI kd)), some (.int (zI fr)), some (.int (zI fi)), some (.int (zI ra)), some (.int (zI (((119 + (98 * bk)) + 2) + (4 * nt))))], [.int (zI fi), .int (zI ((((119 + (98 * bk)) + 2) + (4 * nt)) + 2)), .ref 144], es54)) i_208_42 rfl ?_
                                  refine x_iast (p := 80) i_208_44 hs_es54 rfl (by unfold i32 iLO iHI; omega) (by omega) (by omega) ?_
                                  obtain ⟨es55, e_es55⟩ : ∃ z : PH, z = sA es54 80 ((((119 + (98 * bk)) + 2) + (4 * nt)) + 2).toNat (zI fi) := ⟨_, rfl⟩
                                  have hs_es55 : sh es55 := by rw [e_es55]; exact sh_sA hs_es54
                                  rw [← e_es55]
                                  refine x0 (r := (46, [some (.ref 143), some (.int (zI bk)), some (.int (zI nt)), some (.int (zI kd)), some (.int (zI fr)), some (.int (zI fi)), some (.int (zI ra)), some (.int (zI (((119 + (98 * bk)) + 2) + (4 * nt))))], [.ref 143], es55)) i_208_45 rfl ?_
                                  refine x_getr (p := 79) (k := 144) i_208_46 hs_es55 rfl rfl ?_
                                  show aW _ _ _ _ _ _ (49, [some (.ref 143), some (.int (zI bk)), some (.int (zI nt)), some (.int (zI kd)), some (.int (zI fr)), some (.int (zI fi)), some (.int (zI ra)), some (.int (zI (((119 + (98 * bk)) + 2) + (4 * nt))))], [.ref 144], es55)
                                  refine x0 (r := (51, [some (.ref 143), some (.int (zI bk)), some (.int (zI nt)), some (.int (zI kd)), some (.int (zI fr)), some (.int (zI fi)), some (.int (zI ra)), some (.int (zI (((119 + (98 * bk)) + 2) + (4 * nt))))], [.int (zI (((119 + (98 * bk)) + 2) + (4 * nt))), .ref 144], es55)) i_208_49 rfl ?_
                                  refine x0 (r := (52, [some (.ref 143), some (.int (zI bk)), some (.int (zI nt)), some (.int (zI kd)), some (.int (zI fr)), some (.int (zI fi)), some (.int (zI ra)), some (.int (zI (((119 + (98 * bk)) + 2) + (4 * nt))))], [.int (zI 3), .int (zI (((119 + (98 * bk)) + 2) + (4 * nt))), .ref 144], es55)) i_208_51 (by rfl) ?_
                                  refine x_iadd i_208_52 ?_
                                  refine x0 (r := (55, [some (.ref 143), some (.int (zI bk)), some (.int (zI nt)), some (.int (zI kd)), some (.int (zI fr)), some (.int (zI fi)), some (.int (zI ra)), some (.int (zI (((119 + (98 * bk)) + 2) + (4 * nt))))], [.int (zI ra), .int (zI ((((119 + (98 * bk)) + 2) + (4 * nt)) + 3)), .ref 144], es55)) i_208_53 rfl ?_
                                  refine x_iast (p := 80) i_208_55 hs_es55 rfl (by unfold i32 iLO iHI; omega) (by omega) (by omega) ?_
                                  obtain ⟨es56, e_es56⟩ : ∃ z : PH, z = sA es55 80 ((((119 + (98 * bk)) + 2) + (4 * nt)) + 3).toNat (zI ra) := ⟨_, rfl⟩
                                  have hs_es56 : sh es56 := by rw [e_es56]; exact sh_sA hs_es55
                                  rw [← e_es56]
                                  refine x_ret (v := none) i_208_56 rfl (fun _ => rfl) rfl rfl rfl ?_
                                  show aW _ _ _ _ _ _ (121, [some (.ref 143), some (.int (zI bk)), some (.int (zI nt)), some (.int (zI kd)), some (.int (zI fr)), some (.int (zI fi)), some (.int (zI ra)), some (.int (zI 1))], [], es56)
                                  refine x0 (r := (123, [some (.ref 143), some (.int (zI bk)), some (.int (zI nt)), some (.int (zI kd)), some (.int (zI fr)), some (.int (zI fi)), some (.int (zI ra)), some (.int (zI 1))], [.int (zI 1)], es56)) i_209_121 rfl ?_
                                  refine x_ret (v := some (.int (zI 1))) i_209_123 rfl (fun _ => rfl) rfl rfl (pFin_b (by omega)) ?_
                                  exact K17 es1 e_es1 v2 e_v2 c3 c5 v7 e_v7 c8 c10 v12 e_v12 c13 c15 c17 c19 c21 c23 c25 c27 v29 e_v29 c30 v35 e_v35 c36 v41 e_v41 c42 v47 e_v47 c48 es53 e_es53 es54 e_es54 es55 e_es55 es56 e_es56
def chgmP (bk : Int) (nt : Int) (kd : Int) (fr : Int) (fi : Int) (ra : Int) (es : PH) (r : Option Value ⊕ Nat) (es1 : PH) : Prop := sh es1 ∧ True ∧ ∃ v : Int, r = .inl (some (.int (zI v))) ∧ i32 v ∧ (((gI es1 79 0).toInt = 1 ∧ (bk < 0 ∨ (gA es 80 1).toInt ≤ bk ∨ nt < 0 ∨ (gA es 80 ((119 + (98 * bk)) + 1).toNat).toInt ≤ nt ∨ kd < 0 ∨ (gA es 80 0).toInt ≤ kd) ∧ gA es1 80 = gA es 80) ∨ ((gI es1 79 0).toInt = 2 ∧ ((0 ≤ bk ∧ bk < (gA es 80 1).toInt ∧ 0 ≤ nt ∧ nt < (gA es 80 ((119 + (98 * bk)) + 1).toNat).toInt ∧ 0 ≤ kd ∧ kd < (gA es 80 0).toInt) ∧ (fr < -1 ∨ 5 < fr ∨ fi < 0 ∨ 5 < fi ∨ ra < 0 ∨ 5 < ra)) ∧ gA es1 80 = gA es 80) ∨ ((gI es1 79 0).toInt = 0 ∧ (((0 ≤ bk ∧ bk < (gA es 80 1).toInt ∧ 0 ≤ nt ∧ nt < (gA es 80 ((119 + (98 * bk)) + 1).toNat).toInt ∧ 0 ≤ kd ∧ kd < (gA es 80 0).toInt) ∧ (-1 ≤ fr ∧ fr ≤ 5 ∧ 0 ≤ fi ∧ fi ≤ 5 ∧ 0 ≤ ra ∧ ra ≤ 5)) ∧ ((gA es 80 ((119 + (98 * bk)) + ((2 + (4 * nt)) + 0)).toNat).toInt ≠ kd ∨ (gA es 80 ((119 + (98 * bk)) + ((2 + (4 * nt)) + 1)).toNat).toInt ≠ fr ∨ (gA es 80 ((119 + (98 * bk)) + ((2 + (4 * nt)) + 2)).toNat).toInt ≠ fi ∨ (gA es 80 ((119 + (98 * bk)) + ((2 + (4 * nt)) + 3)).toNat).toInt ≠ ra)) ∧ gA es1 80 = upd (upd (upd (upd (gA es 80) (((119 + (98 * bk)) + 2) + (4 * nt)).toNat (zI kd)) ((((119 + (98 * bk)) + 2) + (4 * nt)) + 1).toNat (zI fr)) ((((119 + (98 * bk)) + 2) + (4 * nt)) + 2).toNat (zI fi)) ((((119 + (98 * bk)) + 2) + (4 * nt)) + 3).toNat (zI ra) ∧ v = 1) ∨ ((gI es1 79 0).toInt = 0 ∧ (((0 ≤ bk ∧ bk < (gA es 80 1).toInt ∧ 0 ≤ nt ∧ nt < (gA es 80 ((119 + (98 * bk)) + 1).toNat).toInt ∧ 0 ≤ kd ∧ kd < (gA es 80 0).toInt) ∧ (-1 ≤ fr ∧ fr ≤ 5 ∧ 0 ≤ fi ∧ fi ≤ 5 ∧ 0 ≤ ra ∧ ra ≤ 5)) ∧ ((gA es 80 ((119 + (98 * bk)) + ((2 + (4 * nt)) + 0)).toNat).toInt = kd ∧ (gA es 80 ((119 + (98 * bk)) + ((2 + (4 * nt)) + 1)).toNat).toInt = fr ∧ (gA es 80 ((119 + (98 * bk)) + ((2 + (4 * nt)) + 2)).toNat).toInt = fi ∧ (gA es 80 ((119 + (98 * bk)) + ((2 + (4 * nt)) + 3)).toNat).toInt = ra)) ∧ gA es1 80 = upd (upd (upd (upd (gA es 80) (((119 + (98 * bk)) + 2) + (4 * nt)).toNat (zI kd)) ((((119 + (98 * bk)) + 2) + (4 * nt)) + 1).toNat (zI fr)) ((((119 + (98 * bk)) + 2) + (4 * nt)) + 2).toNat (zI fi)) ((((119 + (98 * bk)) + 2) + (4 * nt)) + 3).toNat (zI ra) ∧ v = 0))
theorem fn_chgm {O : pOut} {d : Nat} {es : PH} {bk nt kd fr fi ra : Int} (h_bk : i32 bk) (h_nt : i32 nt) (h_kd : i32 kd) (h_fr : i32 fr) (h_fi : i32 fi) (h_ra : i32 ra) (hT : hOK tT es) : aW O (d + 4) 209 0 0 (fun o => chgmP bk nt kd fr fi ra es o.1 o.2.1) (0, [some (.ref 143), some (.int (zI bk)), some (.int (zI nt)), some (.int (zI kd)), some (.int (zI fr)), some (.int (zI fi)), some (.int (zI ra)), none], [], es) := by
  have hs_es := sh_of hT
  have hB : (0 : Int) ≤ (gA es 80 1).toInt ∧ (gA es 80 1).toInt ≤ (3 : Int) := gA_bd hT (p := 80) (k := 1) rfl (by omega) (by decide)
  have hC : bk < 0 ∨ 2 < bk ∨ (0 ≤ (gA es 80 ((119 + (98 * bk)) + 1).toNat).toInt ∧ (gA es 80 ((119 + (98 * bk)) + 1).toNat).toInt ≤ 24) := by
    by_cases h1 : 0 ≤ bk ∧ bk ≤ 2
    · exact Or.inr (Or.inr (cnt_bd hT h1.1 h1.2))
    · omega
  unfold i32 iLO iHI at h_bk h_nt h_kd h_fr h_fi h_ra
  refine s_mchg (d := d) (kc := 0) (ks := 0) hs_es h_bk h_nt h_kd h_fr h_fi h_ra hT (fun es1 e_es1 v2 e_v2 c3 es4 e_es4 => ?_) (fun es1 e_es1 v2 e_v2 c3 c5 es6 e_es6 => ?_) (fun es1 e_es1 v2 e_v2 c3 c5 v7 e_v7 c8 es9 e_es9 => ?_) (fun es1 e_es1 v2 e_v2 c3 c5 v7 e_v7 c8 c10 es11 e_es11 => ?_) (fun es1 e_es1 v2 e_v2 c3 c5 v7 e_v7 c8 c10 v12 e_v12 c13 es14 e_es14 => ?_) (fun es1 e_es1 v2 e_v2 c3 c5 v7 e_v7 c8 c10 v12 e_v12 c13 c15 es16 e_es16 => ?_) (fun es1 e_es1 v2 e_v2 c3 c5 v7 e_v7 c8 c10 v12 e_v12 c13 c15 c17 es18 e_es18 => ?_) (fun es1 e_es1 v2 e_v2 c3 c5 v7 e_v7 c8 c10 v12 e_v12 c13 c15 c17 c19 es20 e_es20 => ?_) (fun es1 e_es1 v2 e_v2 c3 c5 v7 e_v7 c8 c10 v12 e_v12 c13 c15 c17 c19 c21 es22 e_es22 => ?_) (fun es1 e_es1 v2 e_v2 c3 c5 v7 e_v7 c8 c10 v12 e_v12 c13 c15 c17 c19 c21 c23 es24 e_es24 => ?_) (fun es1 e_es1 v2 e_v2 c3 c5 v7 e_v7 c8 c10 v12 e_v12 c13 c15 c17 c19 c21 c23 c25 es26 e_es26 => ?_) (fun es1 e_es1 v2 e_v2 c3 c5 v7 e_v7 c8 c10 v12 e_v12 c13 c15 c17 c19 c21 c23 c25 c27 es28 e_es28 => ?_) (fun es1 e_es1 v2 e_v2 c3 c5 v7 e_v7 c8 c10 v12 e_v12 c13 c15 c17 c19 c21 c23 c25 c27 v29 e_v29 c30 es31 e_es31 es32 e_es32 es33 e_es33 es34 e_es34 => ?_) (fun es1 e_es1 v2 e_v2 c3 c5 v7 e_v7 c8 c10 v12 e_v12 c13 c15 c17 c19 c21 c23 c25 c27 v29 e_v29 c30 v35 e_v35 c36 es37 e_es37 es38 e_es38 es39 e_es39 es40 e_es40 => ?_) (fun es1 e_es1 v2 e_v2 c3 c5 v7 e_v7 c8 c10 v12 e_v12 c13 c15 c17 c19 c21 c23 c25 c27 v29 e_v29 c30 v35 e_v35 c36 v41 e_v41 c42 es43 e_es43 es44 e_es44 es45 e_es45 es46 e_es46 => ?_) (fun es1 e_es1 v2 e_v2 c3 c5 v7 e_v7 c8 c10 v12 e_v12 c13 c15 c17 c19 c21 c23 c25 c27 v29 e_v29 c30 v35 e_v35 c36 v41 e_v41 c42 v47 e_v47 c48 es49 e_es49 es50 e_es50 es51 e_es51 es52 e_es52 => ?_) (fun es1 e_es1 v2 e_v2 c3 c5 v7 e_v7 c8 c10 v12 e_v12 c13 c15 c17 c19 c21 c23 c25 c27 v29 e_v29 c30 v35 e_v35 c36 v41 e_v41 c42 v47 e_v47 c48 es53 e_es53 es54 e_es54 es55 e_es55 es56 e_es56 => ?_)
  · have hs_es1 : sh es1 := by rw [e_es1]; exact sh_sI hs_es (p := 79) (b := 0) rfl rfl
    have hs_es4 : sh es4 := by rw [e_es4]; exact sh_sI hs_es1 (p := 79) (b := 0) rfl rfl
    have b_v2 : v2 = (gA es 80 1).toInt := by
      have h := e_v2
      rw [e_es1, gA_sI] at h
      exact h
    exact ⟨hs_es4, trivial, _, rfl, by unfold i32 iLO iHI; omega, Or.inl ⟨by show (gI es4 79 0).toInt = _; rw [e_es4, gI_sI hs_es1 (p := 79) (b := 0) rfl (by decide)]; rfl, by omega, by show gA es4 80 = _; rw [e_es4, gA_sI, e_es1, gA_sI]⟩⟩
  · have hs_es1 : sh es1 := by rw [e_es1]; exact sh_sI hs_es (p := 79) (b := 0) rfl rfl
    have hs_es6 : sh es6 := by rw [e_es6]; exact sh_sI hs_es1 (p := 79) (b := 0) rfl rfl
    have b_v2 : v2 = (gA es 80 1).toInt := by
      have h := e_v2
      rw [e_es1, gA_sI] at h
      exact h
    exact ⟨hs_es6, trivial, _, rfl, by unfold i32 iLO iHI; omega, Or.inl ⟨by show (gI es6 79 0).toInt = _; rw [e_es6, gI_sI hs_es1 (p := 79) (b := 0) rfl (by decide)]; rfl, by omega, by show gA es6 80 = _; rw [e_es6, gA_sI, e_es1, gA_sI]⟩⟩
  · have hs_es1 : sh es1 := by rw [e_es1]; exact sh_sI hs_es (p := 79) (b := 0) rfl rfl
    have hs_es9 : sh es9 := by rw [e_es9]; exact sh_sI hs_es1 (p := 79) (b := 0) rfl rfl
    have b_v2 : v2 = (gA es 80 1).toInt := by
      have h := e_v2
      rw [e_es1, gA_sI] at h
      exact h
    have b_v7 : v7 = (gA es 80 ((119 + (98 * bk)) + 1).toNat).toInt := by
      have h := e_v7
      rw [e_es1, gA_sI] at h
      exact h
    exact ⟨hs_es9, trivial, _, rfl, by unfold i32 iLO iHI; omega, Or.inl ⟨by show (gI es9 79 0).toInt = _; rw [e_es9, gI_sI hs_es1 (p := 79) (b := 0) rfl (by decide)]; rfl, by omega, by show gA es9 80 = _; rw [e_es9, gA_sI, e_es1, gA_sI]⟩⟩
  · have hs_es1 : sh es1 := by rw [e_es1]; exact sh_sI hs_es (p := 79) (b := 0) rfl rfl
    have hs_es11 : sh es11 := by rw [e_es11]; exact sh_sI hs_es1 (p := 79) (b := 0) rfl rfl
    have b_v2 : v2 = (gA es 80 1).toInt := by
      have h := e_v2
      rw [e_es1, gA_sI] at h
      exact h
    have b_v7 : v7 = (gA es 80 ((119 + (98 * bk)) + 1).toNat).toInt := by
      have h := e_v7
      rw [e_es1, gA_sI] at h
      exact h
    exact ⟨hs_es11, trivial, _, rfl, by unfold i32 iLO iHI; omega, Or.inl ⟨by show (gI es11 79 0).toInt = _; rw [e_es11, gI_sI hs_es1 (p := 79) (b := 0) rfl (by decide)]; rfl, by omega, by show gA es11 80 = _; rw [e_es11, gA_sI, e_es1, gA_sI]⟩⟩
  · have hs_es1 : sh es1 := by rw [e_es1]; exact sh_sI hs_es (p := 79) (b := 0) rfl rfl
    have hs_es14 : sh es14 := by rw [e_es14]; exact sh_sI hs_es1 (p := 79) (b := 0) rfl rfl
    have b_v2 : v2 = (gA es 80 1).toInt := by
      have h := e_v2
      rw [e_es1, gA_sI] at h
      exact h
    have b_v7 : v7 = (gA es 80 ((119 + (98 * bk)) + 1).toNat).toInt := by
      have h := e_v7
      rw [e_es1, gA_sI] at h
      exact h
    have b_v12 : v12 = (gA es 80 0).toInt := by
      have h := e_v12
      rw [e_es1, gA_sI] at h
      exact h
    exact ⟨hs_es14, trivial, _, rfl, by unfold i32 iLO iHI; omega, Or.inl ⟨by show (gI es14 79 0).toInt = _; rw [e_es14, gI_sI hs_es1 (p := 79) (b := 0) rfl (by decide)]; rfl, by omega, by show gA es14 80 = _; rw [e_es14, gA_sI, e_es1, gA_sI]⟩⟩
  · have hs_es1 : sh es1 := by rw [e_es1]; exact sh_sI hs_es (p := 79) (b := 0) rfl rfl
    have hs_es16 : sh es16 := by rw [e_es16]; exact sh_sI hs_es1 (p := 79) (b := 0) rfl rfl
    have b_v2 : v2 = (gA es 80 1).toInt := by
      have h := e_v2
      rw [e_es1, gA_sI] at h
      exact h
    have b_v7 : v7 = (gA es 80 ((119 + (98 * bk)) + 1).toNat).toInt := by
      have h := e_v7
      rw [e_es1, gA_sI] at h
      exact h
    have b_v12 : v12 = (gA es 80 0).toInt := by
      have h := e_v12
      rw [e_es1, gA_sI] at h
      exact h
    exact ⟨hs_es16, trivial, _, rfl, by unfold i32 iLO iHI; omega, Or.inl ⟨by show (gI es16 79 0).toInt = _; rw [e_es16, gI_sI hs_es1 (p := 79) (b := 0) rfl (by decide)]; rfl, by omega, by show gA es16 80 = _; rw [e_es16, gA_sI, e_es1, gA_sI]⟩⟩
  · have hs_es1 : sh es1 := by rw [e_es1]; exact sh_sI hs_es (p := 79) (b := 0) rfl rfl
    have hs_es18 : sh es18 := by rw [e_es18]; exact sh_sI hs_es1 (p := 79) (b := 0) rfl rfl
    have b_v2 : v2 = (gA es 80 1).toInt := by
      have h := e_v2
      rw [e_es1, gA_sI] at h
      exact h
    have b_v7 : v7 = (gA es 80 ((119 + (98 * bk)) + 1).toNat).toInt := by
      have h := e_v7
      rw [e_es1, gA_sI] at h
      exact h
    have b_v12 : v12 = (gA es 80 0).toInt := by
      have h := e_v12
      rw [e_es1, gA_sI] at h
      exact h
    exact ⟨hs_es18, trivial, _, rfl, by unfold i32 iLO iHI; omega, Or.inr (Or.inl ⟨by show (gI es18 79 0).toInt = _; rw [e_es18, gI_sI hs_es1 (p := 79) (b := 0) rfl (by decide)]; rfl, by omega, by show gA es18 80 = _; rw [e_es18, gA_sI, e_es1, gA_sI]⟩)⟩
  · have hs_es1 : sh es1 := by rw [e_es1]; exact sh_sI hs_es (p := 79) (b := 0) rfl rfl
    have hs_es20 : sh es20 := by rw [e_es20]; exact sh_sI hs_es1 (p := 79) (b := 0) rfl rfl
    have b_v2 : v2 = (gA es 80 1).toInt := by
      have h := e_v2
      rw [e_es1, gA_sI] at h
      exact h
    have b_v7 : v7 = (gA es 80 ((119 + (98 * bk)) + 1).toNat).toInt := by
      have h := e_v7
      rw [e_es1, gA_sI] at h
      exact h
    have b_v12 : v12 = (gA es 80 0).toInt := by
      have h := e_v12
      rw [e_es1, gA_sI] at h
      exact h
    exact ⟨hs_es20, trivial, _, rfl, by unfold i32 iLO iHI; omega, Or.inr (Or.inl ⟨by show (gI es20 79 0).toInt = _; rw [e_es20, gI_sI hs_es1 (p := 79) (b := 0) rfl (by decide)]; rfl, by omega, by show gA es20 80 = _; rw [e_es20, gA_sI, e_es1, gA_sI]⟩)⟩
  · have hs_es1 : sh es1 := by rw [e_es1]; exact sh_sI hs_es (p := 79) (b := 0) rfl rfl
    have hs_es22 : sh es22 := by rw [e_es22]; exact sh_sI hs_es1 (p := 79) (b := 0) rfl rfl
    have b_v2 : v2 = (gA es 80 1).toInt := by
      have h := e_v2
      rw [e_es1, gA_sI] at h
      exact h
    have b_v7 : v7 = (gA es 80 ((119 + (98 * bk)) + 1).toNat).toInt := by
      have h := e_v7
      rw [e_es1, gA_sI] at h
      exact h
    have b_v12 : v12 = (gA es 80 0).toInt := by
      have h := e_v12
      rw [e_es1, gA_sI] at h
      exact h
    exact ⟨hs_es22, trivial, _, rfl, by unfold i32 iLO iHI; omega, Or.inr (Or.inl ⟨by show (gI es22 79 0).toInt = _; rw [e_es22, gI_sI hs_es1 (p := 79) (b := 0) rfl (by decide)]; rfl, by omega, by show gA es22 80 = _; rw [e_es22, gA_sI, e_es1, gA_sI]⟩)⟩
  · have hs_es1 : sh es1 := by rw [e_es1]; exact sh_sI hs_es (p := 79) (b := 0) rfl rfl
    have hs_es24 : sh es24 := by rw [e_es24]; exact sh_sI hs_es1 (p := 79) (b := 0) rfl rfl
    have b_v2 : v2 = (gA es 80 1).toInt := by
      have h := e_v2
      rw [e_es1, gA_sI] at h
      exact h
    have b_v7 : v7 = (gA es 80 ((119 + (98 * bk)) + 1).toNat).toInt := by
      have h := e_v7
      rw [e_es1, gA_sI] at h
      exact h
    have b_v12 : v12 = (gA es 80 0).toInt := by
      have h := e_v12
      rw [e_es1, gA_sI] at h
      exact h
    exact ⟨hs_es24, trivial, _, rfl, by unfold i32 iLO iHI; omega, Or.inr (Or.inl ⟨by show (gI es24 79 0).toInt = _; rw [e_es24, gI_sI hs_es1 (p := 79) (b := 0) rfl (by decide)]; rfl, by omega, by show gA es24 80 = _; rw [e_es24, gA_sI, e_es1, gA_sI]⟩)⟩
  · have hs_es1 : sh es1 := by rw [e_es1]; exact sh_sI hs_es (p := 79) (b := 0) rfl rfl
    have hs_es26 : sh es26 := by rw [e_es26]; exact sh_sI hs_es1 (p := 79) (b := 0) rfl rfl
    have b_v2 : v2 = (gA es 80 1).toInt := by
      have h := e_v2
      rw [e_es1, gA_sI] at h
      exact h
    have b_v7 : v7 = (gA es 80 ((119 + (98 * bk)) + 1).toNat).toInt := by
      have h := e_v7
      rw [e_es1, gA_sI] at h
      exact h
    have b_v12 : v12 = (gA es 80 0).toInt := by
      have h := e_v12
      rw [e_es1, gA_sI] at h
      exact h
    exact ⟨hs_es26, trivial, _, rfl, by unfold i32 iLO iHI; omega, Or.inr (Or.inl ⟨by show (gI es26 79 0).toInt = _; rw [e_es26, gI_sI hs_es1 (p := 79) (b := 0) rfl (by decide)]; rfl, by omega, by show gA es26 80 = _; rw [e_es26, gA_sI, e_es1, gA_sI]⟩)⟩
  · have hs_es1 : sh es1 := by rw [e_es1]; exact sh_sI hs_es (p := 79) (b := 0) rfl rfl
    have hs_es28 : sh es28 := by rw [e_es28]; exact sh_sI hs_es1 (p := 79) (b := 0) rfl rfl
    have b_v2 : v2 = (gA es 80 1).toInt := by
      have h := e_v2
      rw [e_es1, gA_sI] at h
      exact h
    have b_v7 : v7 = (gA es 80 ((119 + (98 * bk)) + 1).toNat).toInt := by
      have h := e_v7
      rw [e_es1, gA_sI] at h
      exact h
    have b_v12 : v12 = (gA es 80 0).toInt := by
      have h := e_v12
      rw [e_es1, gA_sI] at h
      exact h
    exact ⟨hs_es28, trivial, _, rfl, by unfold i32 iLO iHI; omega, Or.inr (Or.inl ⟨by show (gI es28 79 0).toInt = _; rw [e_es28, gI_sI hs_es1 (p := 79) (b := 0) rfl (by decide)]; rfl, by omega, by show gA es28 80 = _; rw [e_es28, gA_sI, e_es1, gA_sI]⟩)⟩
  · have hs_es1 : sh es1 := by rw [e_es1]; exact sh_sI hs_es (p := 79) (b := 0) rfl rfl
    have hs_es31 : sh es31 := by rw [e_es31]; exact sh_sA hs_es1
    have hs_es32 : sh es32 := by rw [e_es32]; exact sh_sA hs_es31
    have hs_es33 : sh es33 := by rw [e_es33]; exact sh_sA hs_es32
    have hs_es34 : sh es34 := by rw [e_es34]; exact sh_sA hs_es33
    have b_v2 : v2 = (gA es 80 1).toInt := by
      have h := e_v2
      rw [e_es1, gA_sI] at h
      exact h
    have b_v7 : v7 = (gA es 80 ((119 + (98 * bk)) + 1).toNat).toInt := by
      have h := e_v7
      rw [e_es1, gA_sI] at h
      exact h
    have b_v12 : v12 = (gA es 80 0).toInt := by
      have h := e_v12
      rw [e_es1, gA_sI] at h
      exact h
    have b_v29 : v29 = (gA es 80 ((119 + (98 * bk)) + ((2 + (4 * nt)) + 0)).toNat).toInt := by
      have h := e_v29
      rw [e_es1, gA_sI] at h
      exact h
    exact ⟨hs_es34, trivial, _, rfl, by unfold i32 iLO iHI; omega, Or.inr (Or.inr (Or.inl ⟨by show (gI es34 79 0).toInt = _; rw [e_es34, gI_sA, e_es33, gI_sA, e_es32, gI_sA, e_es31, gI_sA, e_es1, gI_sI hs_es (p := 79) (b := 0) rfl (by decide)]; rfl, by omega, by show gA es34 80 = _; rw [e_es34, gA_sA hs_es33 (p := 80) (t := 0) (n := 2125) (sp := tS80) rfl (by decide), e_es33, gA_sA hs_es32 (p := 80) (t := 0) (n := 2125) (sp := tS80) rfl (by decide), e_es32, gA_sA hs_es31 (p := 80) (t := 0) (n := 2125) (sp := tS80) rfl (by decide), e_es31, gA_sA hs_es1 (p := 80) (t := 0) (n := 2125) (sp := tS80) rfl (by decide), e_es1, gA_sI], by omega⟩))⟩
  · have hs_es1 : sh es1 := by rw [e_es1]; exact sh_sI hs_es (p := 79) (b := 0) rfl rfl
    have hs_es37 : sh es37 := by rw [e_es37]; exact sh_sA hs_es1
    have hs_es38 : sh es38 := by rw [e_es38]; exact sh_sA hs_es37
    have hs_es39 : sh es39 := by rw [e_es39]; exact sh_sA hs_es38
    have hs_es40 : sh es40 := by rw [e_es40]; exact sh_sA hs_es39
    have b_v2 : v2 = (gA es 80 1).toInt := by
      have h := e_v2
      rw [e_es1, gA_sI] at h
      exact h
    have b_v7 : v7 = (gA es 80 ((119 + (98 * bk)) + 1).toNat).toInt := by
      have h := e_v7
      rw [e_es1, gA_sI] at h
      exact h
    have b_v12 : v12 = (gA es 80 0).toInt := by
      have h := e_v12
      rw [e_es1, gA_sI] at h
      exact h
    have b_v29 : v29 = (gA es 80 ((119 + (98 * bk)) + ((2 + (4 * nt)) + 0)).toNat).toInt := by
      have h := e_v29
      rw [e_es1, gA_sI] at h
      exact h
    have b_v35 : v35 = (gA es 80 ((119 + (98 * bk)) + ((2 + (4 * nt)) + 1)).toNat).toInt := by
      have h := e_v35
      rw [e_es1, gA_sI] at h
      exact h
    exact ⟨hs_es40, trivial, _, rfl, by unfold i32 iLO iHI; omega, Or.inr (Or.inr (Or.inl ⟨by show (gI es40 79 0).toInt = _; rw [e_es40, gI_sA, e_es39, gI_sA, e_es38, gI_sA, e_es37, gI_sA, e_es1, gI_sI hs_es (p := 79) (b := 0) rfl (by decide)]; rfl, by omega, by show gA es40 80 = _; rw [e_es40, gA_sA hs_es39 (p := 80) (t := 0) (n := 2125) (sp := tS80) rfl (by decide), e_es39, gA_sA hs_es38 (p := 80) (t := 0) (n := 2125) (sp := tS80) rfl (by decide), e_es38, gA_sA hs_es37 (p := 80) (t := 0) (n := 2125) (sp := tS80) rfl (by decide), e_es37, gA_sA hs_es1 (p := 80) (t := 0) (n := 2125) (sp := tS80) rfl (by decide), e_es1, gA_sI], by omega⟩))⟩
  · have hs_es1 : sh es1 := by rw [e_es1]; exact sh_sI hs_es (p := 79) (b := 0) rfl rfl
    have hs_es43 : sh es43 := by rw [e_es43]; exact sh_sA hs_es1
    have hs_es44 : sh es44 := by rw [e_es44]; exact sh_sA hs_es43
    have hs_es45 : sh es45 := by rw [e_es45]; exact sh_sA hs_es44
    have hs_es46 : sh es46 := by rw [e_es46]; exact sh_sA hs_es45
    have b_v2 : v2 = (gA es 80 1).toInt := by
      have h := e_v2
      rw [e_es1, gA_sI] at h
      exact h
    have b_v7 : v7 = (gA es 80 ((119 + (98 * bk)) + 1).toNat).toInt := by
      have h := e_v7
      rw [e_es1, gA_sI] at h
      exact h
    have b_v12 : v12 = (gA es 80 0).toInt := by
      have h := e_v12
      rw [e_es1, gA_sI] at h
      exact h
    have b_v29 : v29 = (gA es 80 ((119 + (98 * bk)) + ((2 + (4 * nt)) + 0)).toNat).toInt := by
      have h := e_v29
      rw [e_es1, gA_sI] at h
      exact h
    have b_v35 : v35 = (gA es 80 ((119 + (98 * bk)) + ((2 + (4 * nt)) + 1)).toNat).toInt := by
      have h := e_v35
      rw [e_es1, gA_sI] at h
      exact h
    have b_v41 : v41 = (gA es 80 ((119 + (98 * bk)) + ((2 + (4 * nt)) + 2)).toNat).toInt := by
      have h := e_v41
      rw [e_es1, gA_sI] at h
      exact h
    exact ⟨hs_es46, trivial, _, rfl, by unfold i32 iLO iHI; omega, Or.inr (Or.inr (Or.inl ⟨by show (gI es46 79 0).toInt = _; rw [e_es46, gI_sA, e_es45, gI_sA, e_es44, gI_sA, e_es43, gI_sA, e_es1, gI_sI hs_es (p := 79) (b := 0) rfl (by decide)]; rfl, by omega, by show gA es46 80 = _; rw [e_es46, gA_sA hs_es45 (p := 80) (t := 0) (n := 2125) (sp := tS80) rfl (by decide), e_es45, gA_sA hs_es44 (p := 80) (t := 0) (n := 2125) (sp := tS80) rfl (by decide), e_es44, gA_sA hs_es43 (p := 80) (t := 0) (n := 2125) (sp := tS80) rfl (by decide), e_es43, gA_sA hs_es1 (p := 80) (t := 0) (n := 2125) (sp := tS80) rfl (by decide), e_es1, gA_sI], by omega⟩))⟩
  · have hs_es1 : sh es1 := by rw [e_es1]; exact sh_sI hs_es (p := 79) (b := 0) rfl rfl
    have hs_es49 : sh es49 := by rw [e_es49]; exact sh_sA hs_es1
    have hs_es50 : sh es50 := by rw [e_es50]; exact sh_sA hs_es49
    have hs_es51 : sh es51 := by rw [e_es51]; exact sh_sA hs_es50
    have hs_es52 : sh es52 := by rw [e_es52]; exact sh_sA hs_es51
    have b_v2 : v2 = (gA es 80 1).toInt := by
      have h := e_v2
      rw [e_es1, gA_sI] at h
      exact h
    have b_v7 : v7 = (gA es 80 ((119 + (98 * bk)) + 1).toNat).toInt := by
      have h := e_v7
      rw [e_es1, gA_sI] at h
      exact h
    have b_v12 : v12 = (gA es 80 0).toInt := by
      have h := e_v12
      rw [e_es1, gA_sI] at h
      exact h
    have b_v29 : v29 = (gA es 80 ((119 + (98 * bk)) + ((2 + (4 * nt)) + 0)).toNat).toInt := by
      have h := e_v29
      rw [e_es1, gA_sI] at h
      exact h
    have b_v35 : v35 = (gA es 80 ((119 + (98 * bk)) + ((2 + (4 * nt)) + 1)).toNat).toInt := by
      have h := e_v35
      rw [e_es1, gA_sI] at h
      exact h
    have b_v41 : v41 = (gA es 80 ((119 + (98 * bk)) + ((2 + (4 * nt)) + 2)).toNat).toInt := by
      have h := e_v41
      rw [e_es1, gA_sI] at h
      exact h
    have b_v47 : v47 = (gA es 80 ((119 + (98 * bk)) + ((2 + (4 * nt)) + 3)).toNat).toInt := by
      have h := e_v47
      rw [e_es1, gA_sI] at h
      exact h
    exact ⟨hs_es52, trivial, _, rfl, by unfold i32 iLO iHI; omega, Or.inr (Or.inr (Or.inr (⟨by show (gI es52 79 0).toInt = _; rw [e_es52, gI_sA, e_es51, gI_sA, e_es50, gI_sA, e_es49, gI_sA, e_es1, gI_sI hs_es (p := 79) (b := 0) rfl (by decide)]; rfl, by omega, by show gA es52 80 = _; rw [e_es52, gA_sA hs_es51 (p := 80) (t := 0) (n := 2125) (sp := tS80) rfl (by decide), e_es51, gA_sA hs_es50 (p := 80) (t := 0) (n := 2125) (sp := tS80) rfl (by decide), e_es50, gA_sA hs_es49 (p := 80) (t := 0) (n := 2125) (sp := tS80) rfl (by decide), e_es49, gA_sA hs_es1 (p := 80) (t := 0) (n := 2125) (sp := tS80) rfl (by decide), e_es1, gA_sI], by omega⟩)))⟩
  · have hs_es1 : sh es1 := by rw [e_es1]; exact sh_sI hs_es (p := 79) (b := 0) rfl rfl
    have hs_es53 : sh es53 := by rw [e_es53]; exact sh_sA hs_es1
    have hs_es54 : sh es54 := by rw [e_es54]; exact sh_sA hs_es53
    have hs_es55 : sh es55 := by rw [e_es55]; exact sh_sA hs_es54
    have hs_es56 : sh es56 := by rw [e_es56]; exact sh_sA hs_es55
    have b_v2 : v2 = (gA es 80 1).toInt := by
      have h := e_v2
      rw [e_es1, gA_sI] at h
      exact h
    have b_v7 : v7 = (gA es 80 ((119 + (98 * bk)) + 1).toNat).toInt := by
      have h := e_v7
      rw [e_es1, gA_sI] at h
      exact h
    have b_v12 : v12 = (gA es 80 0).toInt := by
      have h := e_v12
      rw [e_es1, gA_sI] at h
      exact h
    have b_v29 : v29 = (gA es 80 ((119 + (98 * bk)) + ((2 + (4 * nt)) + 0)).toNat).toInt := by
      have h := e_v29
      rw [e_es1, gA_sI] at h
      exact h
    have b_v35 : v35 = (gA es 80 ((119 + (98 * bk)) + ((2 + (4 * nt)) + 1)).toNat).toInt := by
      have h := e_v35
      rw [e_es1, gA_sI] at h
      exact h
    have b_v41 : v41 = (gA es 80 ((119 + (98 * bk)) + ((2 + (4 * nt)) + 2)).toNat).toInt := by
      have h := e_v41
      rw [e_es1, gA_sI] at h
      exact h
    have b_v47 : v47 = (gA es 80 ((119 + (98 * bk)) + ((2 + (4 * nt)) + 3)).toNat).toInt := by
      have h := e_v47
      rw [e_es1, gA_sI] at h
      exact h
    exact ⟨hs_es56, trivial, _, rfl, by unfold i32 iLO iHI; omega, Or.inr (Or.inr (Or.inl ⟨by show (gI es56 79 0).toInt = _; rw [e_es56, gI_sA, e_es55, gI_sA, e_es54, gI_sA, e_es53, gI_sA, e_es1, gI_sI hs_es (p := 79) (b := 0) rfl (by decide)]; rfl, by omega, by show gA es56 80 = _; rw [e_es56, gA_sA hs_es55 (p := 80) (t := 0) (n := 2125) (sp := tS80) rfl (by decide), e_es55, gA_sA hs_es54 (p := 80) (t := 0) (n := 2125) (sp := tS80) rfl (by decide), e_es54, gA_sA hs_es53 (p := 80) (t := 0) (n := 2125) (sp := tS80) rfl (by decide), e_es53, gA_sA hs_es1 (p := 80) (t := 0) (n := 2125) (sp := tS80) rfl (by decide), e_es1, gA_sI], by omega⟩))⟩
