/-! THE READER of the class; printed by wip/rel/kind.py -/
theorem i_78_0 : iRow 78 0 = some (.aload_n 0, 0, 0, 0, (some (Jvm.ClassFile.FieldType.int))) := rfl
theorem i_78_1 : iRow 78 1 = some (.getfield 21, 138, 11, 1, (some (Jvm.ClassFile.FieldType.int))) := rfl
theorem i_78_4 : iRow 78 4 = some (.iconst 0, 0, 0, 0, (some (Jvm.ClassFile.FieldType.int))) := rfl
theorem i_78_5 : iRow 78 5 = some (.invokevirtual 78, 87, 79, 1, (some (Jvm.ClassFile.FieldType.int))) := rfl
theorem i_78_8 : iRow 78 8 = some (.istore_n 2, 0, 0, 0, (some (Jvm.ClassFile.FieldType.int))) := rfl
theorem i_78_9 : iRow 78 9 = some (.aload_n 0, 0, 0, 0, (some (Jvm.ClassFile.FieldType.int))) := rfl
theorem i_78_10 : iRow 78 10 = some (.invokevirtual 82, 117, 97, 1, (some (Jvm.ClassFile.FieldType.int))) := rfl
theorem i_78_13 : iRow 78 13 = some (.iload_n 2, 0, 0, 0, (some (Jvm.ClassFile.FieldType.int))) := rfl
theorem i_78_14 : iRow 78 14 = some (.ifCond .eq 13, 0, 0, 0, (some (Jvm.ClassFile.FieldType.int))) := rfl
theorem i_78_17 : iRow 78 17 = some (.iload_n 1, 0, 0, 0, (some (Jvm.ClassFile.FieldType.int))) := rfl
theorem i_78_18 : iRow 78 18 = some (.ifCond .lt 9, 0, 0, 0, (some (Jvm.ClassFile.FieldType.int))) := rfl
theorem i_78_21 : iRow 78 21 = some (.iload_n 1, 0, 0, 0, (some (Jvm.ClassFile.FieldType.int))) := rfl
theorem i_78_22 : iRow 78 22 = some (.bipush 20, 0, 0, 0, (some (Jvm.ClassFile.FieldType.int))) := rfl
theorem i_78_24 : iRow 78 24 = some (.if_icmp .le 13, 0, 0, 0, (some (Jvm.ClassFile.FieldType.int))) := rfl
theorem i_78_27 : iRow 78 27 = some (.new 85, 15, 0, 1, (some (Jvm.ClassFile.FieldType.int))) := rfl
theorem i_78_37 : iRow 78 37 = some (.aload_n 0, 0, 0, 0, (some (Jvm.ClassFile.FieldType.int))) := rfl
theorem i_78_38 : iRow 78 38 = some (.getfield 28, 139, 11, 2, (some (Jvm.ClassFile.FieldType.int))) := rfl
theorem i_78_41 : iRow 78 41 = some (.getfield 92, 20, 1, 0, (some (Jvm.ClassFile.FieldType.int))) := rfl
theorem i_78_44 : iRow 78 44 = some (.iconst 5, 0, 0, 0, (some (Jvm.ClassFile.FieldType.int))) := rfl
theorem i_78_45 : iRow 78 45 = some (.if_icmp .lt 13, 0, 0, 0, (some (Jvm.ClassFile.FieldType.int))) := rfl
theorem i_78_48 : iRow 78 48 = some (.new 95, 16, 1, 1, (some (Jvm.ClassFile.FieldType.int))) := rfl
theorem i_78_58 : iRow 78 58 = some (.aload_n 0, 0, 0, 0, (some (Jvm.ClassFile.FieldType.int))) := rfl
theorem i_78_59 : iRow 78 59 = some (.getfield 28, 139, 11, 2, (some (Jvm.ClassFile.FieldType.int))) := rfl
theorem i_78_62 : iRow 78 62 = some (.iload_n 1, 0, 0, 0, (some (Jvm.ClassFile.FieldType.int))) := rfl
theorem i_78_63 : iRow 78 63 = some (.aload_n 0, 0, 0, 0, (some (Jvm.ClassFile.FieldType.int))) := rfl
theorem i_78_64 : iRow 78 64 = some (.getfield 21, 138, 11, 1, (some (Jvm.ClassFile.FieldType.int))) := rfl
theorem i_78_67 : iRow 78 67 = some (.invokevirtual 100, 127, 98, 1, (some (Jvm.ClassFile.FieldType.int))) := rfl
theorem i_78_70 : iRow 78 70 = some (.aload_n 0, 0, 0, 0, (some (Jvm.ClassFile.FieldType.int))) := rfl
theorem i_78_71 : iRow 78 71 = some (.invokevirtual 104, 78, 73, 1, (some (Jvm.ClassFile.FieldType.int))) := rfl
theorem i_78_74 : iRow 78 74 = some (.aload_n 0, 0, 0, 0, (some (Jvm.ClassFile.FieldType.int))) := rfl
theorem i_78_75 : iRow 78 75 = some (.getfield 28, 139, 11, 2, (some (Jvm.ClassFile.FieldType.int))) := rfl
theorem i_78_78 : iRow 78 78 = some (.getfield 92, 20, 1, 0, (some (Jvm.ClassFile.FieldType.int))) := rfl
theorem i_78_81 : iRow 78 81 = some (.iconst 1, 0, 0, 0, (some (Jvm.ClassFile.FieldType.int))) := rfl
theorem i_78_82 : iRow 78 82 = some (.isub, 0, 0, 0, (some (Jvm.ClassFile.FieldType.int))) := rfl
theorem i_78_83 : iRow 78 83 = some (.ireturn, 0, 0, 0, (some (Jvm.ClassFile.FieldType.int))) := rfl
theorem i_79_0 : iRow 79 0 = some (.iload_n 1, 0, 0, 0, (some (Jvm.ClassFile.FieldType.boolean))) := rfl
theorem i_79_1 : iRow 79 1 = some (.ifCond .eq 8, 0, 0, 0, (some (Jvm.ClassFile.FieldType.boolean))) := rfl
theorem i_79_9 : iRow 79 9 = some (.bipush 6, 0, 0, 0, (some (Jvm.ClassFile.FieldType.boolean))) := rfl
theorem i_79_11 : iRow 79 11 = some (.istore_n 2, 0, 0, 0, (some (Jvm.ClassFile.FieldType.boolean))) := rfl
theorem i_79_12 : iRow 79 12 = some (.aload_n 0, 0, 0, 0, (some (Jvm.ClassFile.FieldType.boolean))) := rfl
theorem i_79_13 : iRow 79 13 = some (.iconst 0, 0, 0, 0, (some (Jvm.ClassFile.FieldType.boolean))) := rfl
theorem i_79_14 : iRow 79 14 = some (.putfield 29, 8, 2, 2, (some (Jvm.ClassFile.FieldType.boolean))) := rfl
theorem i_79_17 : iRow 79 17 = some (.aload_n 0, 0, 0, 0, (some (Jvm.ClassFile.FieldType.boolean))) := rfl
theorem i_79_18 : iRow 79 18 = some (.iconst 0, 0, 0, 0, (some (Jvm.ClassFile.FieldType.boolean))) := rfl
theorem i_79_19 : iRow 79 19 = some (.putfield 32, 10, 2, 3, (some (Jvm.ClassFile.FieldType.boolean))) := rfl
theorem i_79_22 : iRow 79 22 = some (.aload_n 0, 0, 0, 0, (some (Jvm.ClassFile.FieldType.boolean))) := rfl
theorem i_79_23 : iRow 79 23 = some (.iconst (-1), 0, 0, 0, (some (Jvm.ClassFile.FieldType.boolean))) := rfl
theorem i_79_24 : iRow 79 24 = some (.putfield 15, 13, 2, 4, (some (Jvm.ClassFile.FieldType.boolean))) := rfl
theorem i_79_27 : iRow 79 27 = some (.aload_n 0, 0, 0, 0, (some (Jvm.ClassFile.FieldType.boolean))) := rfl
theorem i_79_28 : iRow 79 28 = some (.invokevirtual 35, 88, 80, 1, (some (Jvm.ClassFile.FieldType.boolean))) := rfl
theorem i_79_31 : iRow 79 31 = some (.aload_n 0, 0, 0, 0, (some (Jvm.ClassFile.FieldType.boolean))) := rfl
theorem i_79_32 : iRow 79 32 = some (.getfield 38, 18, 2, 8, (some (Jvm.ClassFile.FieldType.boolean))) := rfl
theorem i_79_35 : iRow 79 35 = some (.sipush (-2000), 0, 0, 0, (some (Jvm.ClassFile.FieldType.boolean))) := rfl
theorem i_79_38 : iRow 79 38 = some (.if_icmp .ne 5, 0, 0, 0, (some (Jvm.ClassFile.FieldType.boolean))) := rfl
theorem i_79_41 : iRow 79 41 = some (.iconst 1, 0, 0, 0, (some (Jvm.ClassFile.FieldType.boolean))) := rfl
theorem i_79_42 : iRow 79 42 = some (.ireturn, 0, 0, 0, (some (Jvm.ClassFile.FieldType.boolean))) := rfl
theorem i_79_43 : iRow 79 43 = some (.iconst 0, 0, 0, 0, (some (Jvm.ClassFile.FieldType.boolean))) := rfl
theorem i_79_44 : iRow 79 44 = some (.istore_n 3, 0, 0, 0, (some (Jvm.ClassFile.FieldType.boolean))) := rfl
theorem i_79_45 : iRow 79 45 = some (.iload_n 3, 0, 0, 0, (some (Jvm.ClassFile.FieldType.boolean))) := rfl
theorem i_79_46 : iRow 79 46 = some (.iload_n 2, 0, 0, 0, (some (Jvm.ClassFile.FieldType.boolean))) := rfl
theorem i_79_47 : iRow 79 47 = some (.if_icmp .ge 74, 0, 0, 0, (some (Jvm.ClassFile.FieldType.boolean))) := rfl
theorem i_79_50 : iRow 79 50 = some (.iload_n 1, 0, 0, 0, (some (Jvm.ClassFile.FieldType.boolean))) := rfl
theorem i_79_51 : iRow 79 51 = some (.ifCond .eq 10, 0, 0, 0, (some (Jvm.ClassFile.FieldType.boolean))) := rfl
theorem i_79_61 : iRow 79 61 = some (.aload_n 0, 0, 0, 0, (some (Jvm.ClassFile.FieldType.boolean))) := rfl
theorem i_79_62 : iRow 79 62 = some (.invokevirtual 45, 116, 96, 1, (some (Jvm.ClassFile.FieldType.boolean))) := rfl
theorem i_79_65 : iRow 79 65 = some (.istore 4, 0, 0, 0, (some (Jvm.ClassFile.FieldType.boolean))) := rfl
theorem i_79_67 : iRow 79 67 = some (.iload 4, 0, 0, 0, (some (Jvm.ClassFile.FieldType.boolean))) := rfl
theorem i_79_69 : iRow 79 69 = some (.ifCond .ne 5, 0, 0, 0, (some (Jvm.ClassFile.FieldType.boolean))) := rfl
theorem i_79_72 : iRow 79 72 = some (.iconst 0, 0, 0, 0, (some (Jvm.ClassFile.FieldType.boolean))) := rfl
theorem i_79_73 : iRow 79 73 = some (.ireturn, 0, 0, 0, (some (Jvm.ClassFile.FieldType.boolean))) := rfl
theorem i_79_74 : iRow 79 74 = some (.aload_n 0, 0, 0, 0, (some (Jvm.ClassFile.FieldType.boolean))) := rfl
theorem i_79_75 : iRow 79 75 = some (.dup, 0, 0, 0, (some (Jvm.ClassFile.FieldType.boolean))) := rfl
theorem i_79_76 : iRow 79 76 = some (.getfield 32, 10, 2, 3, (some (Jvm.ClassFile.FieldType.boolean))) := rfl
theorem i_79_79 : iRow 79 79 = some (.iconst 1, 0, 0, 0, (some (Jvm.ClassFile.FieldType.boolean))) := rfl
theorem i_79_80 : iRow 79 80 = some (.iadd, 0, 0, 0, (some (Jvm.ClassFile.FieldType.boolean))) := rfl
theorem i_79_81 : iRow 79 81 = some (.putfield 32, 10, 2, 3, (some (Jvm.ClassFile.FieldType.boolean))) := rfl
theorem i_79_84 : iRow 79 84 = some (.aload_n 0, 0, 0, 0, (some (Jvm.ClassFile.FieldType.boolean))) := rfl
theorem i_79_85 : iRow 79 85 = some (.getfield 38, 18, 2, 8, (some (Jvm.ClassFile.FieldType.boolean))) := rfl
theorem i_79_88 : iRow 79 88 = some (.sipush (-2000), 0, 0, 0, (some (Jvm.ClassFile.FieldType.boolean))) := rfl
theorem i_79_91 : iRow 79 91 = some (.if_icmp .ne 5, 0, 0, 0, (some (Jvm.ClassFile.FieldType.boolean))) := rfl
theorem i_79_94 : iRow 79 94 = some (.iconst 1, 0, 0, 0, (some (Jvm.ClassFile.FieldType.boolean))) := rfl
theorem i_79_95 : iRow 79 95 = some (.ireturn, 0, 0, 0, (some (Jvm.ClassFile.FieldType.boolean))) := rfl
theorem i_79_96 : iRow 79 96 = some (.aload_n 0, 0, 0, 0, (some (Jvm.ClassFile.FieldType.boolean))) := rfl
theorem i_79_97 : iRow 79 97 = some (.getfield 38, 18, 2, 8, (some (Jvm.ClassFile.FieldType.boolean))) := rfl
theorem i_79_100 : iRow 79 100 = some (.sipush (-1059), 0, 0, 0, (some (Jvm.ClassFile.FieldType.boolean))) := rfl
theorem i_79_103 : iRow 79 103 = some (.if_icmp .eq 8, 0, 0, 0, (some (Jvm.ClassFile.FieldType.boolean))) := rfl
theorem i_79_106 : iRow 79 106 = some (.aload_n 0, 0, 0, 0, (some (Jvm.ClassFile.FieldType.boolean))) := rfl
theorem i_79_107 : iRow 79 107 = some (.invokevirtual 48, 108, 88, 1, (some (Jvm.ClassFile.FieldType.boolean))) := rfl
theorem i_79_110 : iRow 79 110 = some (.ireturn, 0, 0, 0, (some (Jvm.ClassFile.FieldType.boolean))) := rfl
theorem i_79_111 : iRow 79 111 = some (.aload_n 0, 0, 0, 0, (some (Jvm.ClassFile.FieldType.boolean))) := rfl
theorem i_79_112 : iRow 79 112 = some (.invokevirtual 51, 109, 89, 1, (some (Jvm.ClassFile.FieldType.boolean))) := rfl
theorem i_79_115 : iRow 79 115 = some (.iinc 3 1, 0, 0, 0, (some (Jvm.ClassFile.FieldType.boolean))) := rfl
theorem i_79_118 : iRow 79 118 = some (.goto (-73), 0, 0, 0, (some (Jvm.ClassFile.FieldType.boolean))) := rfl
theorem i_79_121 : iRow 79 121 = some (.aload_n 0, 0, 0, 0, (some (Jvm.ClassFile.FieldType.boolean))) := rfl
theorem i_79_122 : iRow 79 122 = some (.invokevirtual 48, 108, 88, 1, (some (Jvm.ClassFile.FieldType.boolean))) := rfl
theorem i_79_125 : iRow 79 125 = some (.ireturn, 0, 0, 0, (some (Jvm.ClassFile.FieldType.boolean))) := rfl
theorem i_80_0 : iRow 80 0 = some (.iconst 0, 0, 0, 0, none) := rfl
theorem i_80_1 : iRow 80 1 = some (.istore_n 1, 0, 0, 0, none) := rfl
theorem i_80_2 : iRow 80 2 = some (.iconst 0, 0, 0, 0, none) := rfl
theorem i_80_3 : iRow 80 3 = some (.istore_n 2, 0, 0, 0, none) := rfl
theorem i_80_4 : iRow 80 4 = some (.iconst 0, 0, 0, 0, none) := rfl
theorem i_80_5 : iRow 80 5 = some (.istore_n 3, 0, 0, 0, none) := rfl
theorem i_80_6 : iRow 80 6 = some (.iload_n 3, 0, 0, 0, none) := rfl
theorem i_80_7 : iRow 80 7 = some (.sipush 400, 0, 0, 0, none) := rfl
theorem i_80_10 : iRow 80 10 = some (.if_icmp .ge 79, 0, 0, 0, none) := rfl
theorem i_80_13 : iRow 80 13 = some (.iload_n 2, 0, 0, 0, none) := rfl
theorem i_80_14 : iRow 80 14 = some (.aload_n 0, 0, 0, 0, none) := rfl
theorem i_80_15 : iRow 80 15 = some (.getfield 25, 5, 2, 0, none) := rfl
theorem i_80_18 : iRow 80 18 = some (.getfield 65, 4, 8, 1, none) := rfl
theorem i_80_21 : iRow 80 21 = some (.if_icmp .ge 68, 0, 0, 0, none) := rfl
theorem i_80_24 : iRow 80 24 = some (.aload_n 0, 0, 0, 0, none) := rfl
theorem i_80_25 : iRow 80 25 = some (.getfield 25, 5, 2, 0, none) := rfl
theorem i_80_28 : iRow 80 28 = some (.getfield 68, 1, 8, 0, none) := rfl
theorem i_80_31 : iRow 80 31 = some (.iload_n 2, 0, 0, 0, none) := rfl
theorem i_80_32 : iRow 80 32 = some (.invokestatic 57, 26, 28, 3, none) := rfl
theorem i_80_35 : iRow 80 35 = some (.bipush 32, 0, 0, 0, none) := rfl
theorem i_80_37 : iRow 80 37 = some (.if_icmp .ne 9, 0, 0, 0, none) := rfl
theorem i_80_40 : iRow 80 40 = some (.iinc 2 1, 0, 0, 0, none) := rfl
theorem i_80_43 : iRow 80 43 = some (.goto 40, 0, 0, 0, none) := rfl
theorem i_80_46 : iRow 80 46 = some (.aload_n 0, 0, 0, 0, none) := rfl
theorem i_80_47 : iRow 80 47 = some (.iload_n 2, 0, 0, 0, none) := rfl
theorem i_80_48 : iRow 80 48 = some (.invokevirtual 71, 89, 81, 1, none) := rfl
theorem i_80_51 : iRow 80 51 = some (.istore 4, 0, 0, 0, none) := rfl
theorem i_80_53 : iRow 80 53 = some (.aload_n 0, 0, 0, 0, none) := rfl
theorem i_80_54 : iRow 80 54 = some (.getfield 22, 16, 2, 6, none) := rfl
theorem i_80_57 : iRow 80 57 = some (.iload_n 1, 0, 0, 0, none) := rfl
theorem i_80_58 : iRow 80 58 = some (.iload_n 2, 0, 0, 0, none) := rfl
theorem i_80_59 : iRow 80 59 = some (.invokestatic 61, 27, 14, 3, none) := rfl
theorem i_80_62 : iRow 80 62 = some (.aload_n 0, 0, 0, 0, none) := rfl
theorem i_80_63 : iRow 80 63 = some (.getfield 19, 15, 2, 5, none) := rfl
theorem i_80_66 : iRow 80 66 = some (.iload_n 1, 0, 0, 0, none) := rfl
theorem i_80_67 : iRow 80 67 = some (.aload_n 0, 0, 0, 0, none) := rfl
theorem i_80_68 : iRow 80 68 = some (.iload_n 2, 0, 0, 0, none) := rfl
theorem i_80_69 : iRow 80 69 = some (.iload 4, 0, 0, 0, none) := rfl
theorem i_80_71 : iRow 80 71 = some (.invokevirtual 75, 92, 84, 1, none) := rfl
theorem i_80_74 : iRow 80 74 = some (.invokestatic 61, 27, 14, 3, none) := rfl
theorem i_80_77 : iRow 80 77 = some (.iinc 1 1, 0, 0, 0, none) := rfl
theorem i_80_80 : iRow 80 80 = some (.iload 4, 0, 0, 0, none) := rfl
theorem i_80_82 : iRow 80 82 = some (.istore_n 2, 0, 0, 0, none) := rfl
theorem i_80_83 : iRow 80 83 = some (.iinc 3 1, 0, 0, 0, none) := rfl
theorem i_80_86 : iRow 80 86 = some (.goto (-80), 0, 0, 0, none) := rfl
theorem i_80_89 : iRow 80 89 = some (.aload_n 0, 0, 0, 0, none) := rfl
theorem i_80_90 : iRow 80 90 = some (.getfield 22, 16, 2, 6, none) := rfl
theorem i_80_93 : iRow 80 93 = some (.iload_n 1, 0, 0, 0, none) := rfl
theorem i_80_94 : iRow 80 94 = some (.aload_n 0, 0, 0, 0, none) := rfl
theorem i_80_95 : iRow 80 95 = some (.getfield 25, 5, 2, 0, none) := rfl
theorem i_80_98 : iRow 80 98 = some (.getfield 65, 4, 8, 1, none) := rfl
theorem i_80_101 : iRow 80 101 = some (.invokestatic 61, 27, 14, 3, none) := rfl
theorem i_80_104 : iRow 80 104 = some (.aload_n 0, 0, 0, 0, none) := rfl
theorem i_80_105 : iRow 80 105 = some (.getfield 19, 15, 2, 5, none) := rfl
theorem i_80_108 : iRow 80 108 = some (.iload_n 1, 0, 0, 0, none) := rfl
theorem i_80_109 : iRow 80 109 = some (.sipush (-2000), 0, 0, 0, none) := rfl
theorem i_80_112 : iRow 80 112 = some (.invokestatic 61, 27, 14, 3, none) := rfl
theorem i_80_115 : iRow 80 115 = some (.aload_n 0, 0, 0, 0, none) := rfl
theorem i_80_116 : iRow 80 116 = some (.iconst 0, 0, 0, 0, none) := rfl
theorem i_80_117 : iRow 80 117 = some (.putfield 54, 17, 2, 7, none) := rfl
theorem i_80_120 : iRow 80 120 = some (.aload_n 0, 0, 0, 0, none) := rfl
theorem i_80_121 : iRow 80 121 = some (.aload_n 0, 0, 0, 0, none) := rfl
theorem i_80_122 : iRow 80 122 = some (.getfield 19, 15, 2, 5, none) := rfl
theorem i_80_125 : iRow 80 125 = some (.iconst 0, 0, 0, 0, none) := rfl
theorem i_80_126 : iRow 80 126 = some (.invokestatic 57, 26, 28, 3, none) := rfl
theorem i_80_129 : iRow 80 129 = some (.putfield 38, 18, 2, 8, none) := rfl
theorem i_80_132 : iRow 80 132 = some (.return_, 0, 0, 0, none) := rfl
theorem i_81_0 : iRow 81 0 = some (.iload_n 1, 0, 0, 0, (some (Jvm.ClassFile.FieldType.int))) := rfl
theorem i_81_1 : iRow 81 1 = some (.iconst 1, 0, 0, 0, (some (Jvm.ClassFile.FieldType.int))) := rfl
theorem i_81_2 : iRow 81 2 = some (.iadd, 0, 0, 0, (some (Jvm.ClassFile.FieldType.int))) := rfl
theorem i_81_3 : iRow 81 3 = some (.istore_n 2, 0, 0, 0, (some (Jvm.ClassFile.FieldType.int))) := rfl
theorem i_81_4 : iRow 81 4 = some (.aload_n 0, 0, 0, 0, (some (Jvm.ClassFile.FieldType.int))) := rfl
theorem i_81_5 : iRow 81 5 = some (.iload_n 1, 0, 0, 0, (some (Jvm.ClassFile.FieldType.int))) := rfl
theorem i_81_6 : iRow 81 6 = some (.invokevirtual 79, 90, 82, 1, (some (Jvm.ClassFile.FieldType.int))) := rfl
theorem i_81_9 : iRow 81 9 = some (.ifCond .eq 28, 0, 0, 0, (some (Jvm.ClassFile.FieldType.int))) := rfl
theorem i_81_12 : iRow 81 12 = some (.iload_n 2, 0, 0, 0, (some (Jvm.ClassFile.FieldType.int))) := rfl
theorem i_81_13 : iRow 81 13 = some (.aload_n 0, 0, 0, 0, (some (Jvm.ClassFile.FieldType.int))) := rfl
theorem i_81_14 : iRow 81 14 = some (.getfield 25, 5, 2, 0, (some (Jvm.ClassFile.FieldType.int))) := rfl
theorem i_81_17 : iRow 81 17 = some (.getfield 65, 4, 8, 1, (some (Jvm.ClassFile.FieldType.int))) := rfl
theorem i_81_20 : iRow 81 20 = some (.if_icmp .ge 50, 0, 0, 0, (some (Jvm.ClassFile.FieldType.int))) := rfl
theorem i_81_23 : iRow 81 23 = some (.aload_n 0, 0, 0, 0, (some (Jvm.ClassFile.FieldType.int))) := rfl
theorem i_81_24 : iRow 81 24 = some (.iload_n 2, 0, 0, 0, (some (Jvm.ClassFile.FieldType.int))) := rfl
theorem i_81_25 : iRow 81 25 = some (.invokevirtual 79, 90, 82, 1, (some (Jvm.ClassFile.FieldType.int))) := rfl
theorem i_81_28 : iRow 81 28 = some (.ifCond .eq 42, 0, 0, 0, (some (Jvm.ClassFile.FieldType.int))) := rfl
theorem i_81_31 : iRow 81 31 = some (.iinc 2 1, 0, 0, 0, (some (Jvm.ClassFile.FieldType.int))) := rfl
theorem i_81_34 : iRow 81 34 = some (.goto (-22), 0, 0, 0, (some (Jvm.ClassFile.FieldType.int))) := rfl
theorem i_81_37 : iRow 81 37 = some (.aload_n 0, 0, 0, 0, (some (Jvm.ClassFile.FieldType.int))) := rfl
theorem i_81_38 : iRow 81 38 = some (.iload_n 1, 0, 0, 0, (some (Jvm.ClassFile.FieldType.int))) := rfl
theorem i_81_39 : iRow 81 39 = some (.invokevirtual 83, 91, 83, 1, (some (Jvm.ClassFile.FieldType.int))) := rfl
theorem i_81_42 : iRow 81 42 = some (.ifCond .eq 28, 0, 0, 0, (some (Jvm.ClassFile.FieldType.int))) := rfl
theorem i_81_45 : iRow 81 45 = some (.iload_n 2, 0, 0, 0, (some (Jvm.ClassFile.FieldType.int))) := rfl
theorem i_81_46 : iRow 81 46 = some (.aload_n 0, 0, 0, 0, (some (Jvm.ClassFile.FieldType.int))) := rfl
theorem i_81_47 : iRow 81 47 = some (.getfield 25, 5, 2, 0, (some (Jvm.ClassFile.FieldType.int))) := rfl
theorem i_81_50 : iRow 81 50 = some (.getfield 65, 4, 8, 1, (some (Jvm.ClassFile.FieldType.int))) := rfl
theorem i_81_53 : iRow 81 53 = some (.if_icmp .ge 17, 0, 0, 0, (some (Jvm.ClassFile.FieldType.int))) := rfl
theorem i_81_56 : iRow 81 56 = some (.aload_n 0, 0, 0, 0, (some (Jvm.ClassFile.FieldType.int))) := rfl
theorem i_81_57 : iRow 81 57 = some (.iload_n 2, 0, 0, 0, (some (Jvm.ClassFile.FieldType.int))) := rfl
theorem i_81_58 : iRow 81 58 = some (.invokevirtual 83, 91, 83, 1, (some (Jvm.ClassFile.FieldType.int))) := rfl
theorem i_81_61 : iRow 81 61 = some (.ifCond .eq 9, 0, 0, 0, (some (Jvm.ClassFile.FieldType.int))) := rfl
theorem i_81_64 : iRow 81 64 = some (.iinc 2 1, 0, 0, 0, (some (Jvm.ClassFile.FieldType.int))) := rfl
theorem i_81_67 : iRow 81 67 = some (.goto (-22), 0, 0, 0, (some (Jvm.ClassFile.FieldType.int))) := rfl
theorem i_81_70 : iRow 81 70 = some (.iload_n 2, 0, 0, 0, (some (Jvm.ClassFile.FieldType.int))) := rfl
theorem i_81_71 : iRow 81 71 = some (.ireturn, 0, 0, 0, (some (Jvm.ClassFile.FieldType.int))) := rfl
theorem i_82_0 : iRow 82 0 = some (.aload_n 0, 0, 0, 0, (some (Jvm.ClassFile.FieldType.boolean))) := rfl
theorem i_82_1 : iRow 82 1 = some (.getfield 25, 5, 2, 0, (some (Jvm.ClassFile.FieldType.boolean))) := rfl
theorem i_82_4 : iRow 82 4 = some (.getfield 68, 1, 8, 0, (some (Jvm.ClassFile.FieldType.boolean))) := rfl
theorem i_82_7 : iRow 82 7 = some (.iload_n 1, 0, 0, 0, (some (Jvm.ClassFile.FieldType.boolean))) := rfl
theorem i_82_8 : iRow 82 8 = some (.invokestatic 57, 26, 28, 3, (some (Jvm.ClassFile.FieldType.boolean))) := rfl
theorem i_82_11 : iRow 82 11 = some (.bipush 97, 0, 0, 0, (some (Jvm.ClassFile.FieldType.boolean))) := rfl
theorem i_82_13 : iRow 82 13 = some (.if_icmp .lt 23, 0, 0, 0, (some (Jvm.ClassFile.FieldType.boolean))) := rfl
theorem i_82_16 : iRow 82 16 = some (.aload_n 0, 0, 0, 0, (some (Jvm.ClassFile.FieldType.boolean))) := rfl
theorem i_82_17 : iRow 82 17 = some (.getfield 25, 5, 2, 0, (some (Jvm.ClassFile.FieldType.boolean))) := rfl
theorem i_82_20 : iRow 82 20 = some (.getfield 68, 1, 8, 0, (some (Jvm.ClassFile.FieldType.boolean))) := rfl
theorem i_82_23 : iRow 82 23 = some (.iload_n 1, 0, 0, 0, (some (Jvm.ClassFile.FieldType.boolean))) := rfl
theorem i_82_24 : iRow 82 24 = some (.invokestatic 57, 26, 28, 3, (some (Jvm.ClassFile.FieldType.boolean))) := rfl
theorem i_82_27 : iRow 82 27 = some (.bipush 122, 0, 0, 0, (some (Jvm.ClassFile.FieldType.boolean))) := rfl
theorem i_82_29 : iRow 82 29 = some (.if_icmp .gt 7, 0, 0, 0, (some (Jvm.ClassFile.FieldType.boolean))) := rfl
theorem i_82_32 : iRow 82 32 = some (.iconst 1, 0, 0, 0, (some (Jvm.ClassFile.FieldType.boolean))) := rfl
theorem i_82_33 : iRow 82 33 = some (.goto 4, 0, 0, 0, (some (Jvm.ClassFile.FieldType.boolean))) := rfl
theorem i_82_36 : iRow 82 36 = some (.iconst 0, 0, 0, 0, (some (Jvm.ClassFile.FieldType.boolean))) := rfl
theorem i_82_37 : iRow 82 37 = some (.ireturn, 0, 0, 0, (some (Jvm.ClassFile.FieldType.boolean))) := rfl
theorem i_83_0 : iRow 83 0 = some (.aload_n 0, 0, 0, 0, (some (Jvm.ClassFile.FieldType.boolean))) := rfl
theorem i_83_1 : iRow 83 1 = some (.getfield 25, 5, 2, 0, (some (Jvm.ClassFile.FieldType.boolean))) := rfl
theorem i_83_4 : iRow 83 4 = some (.getfield 68, 1, 8, 0, (some (Jvm.ClassFile.FieldType.boolean))) := rfl
theorem i_83_7 : iRow 83 7 = some (.iload_n 1, 0, 0, 0, (some (Jvm.ClassFile.FieldType.boolean))) := rfl
theorem i_83_8 : iRow 83 8 = some (.invokestatic 57, 26, 28, 3, (some (Jvm.ClassFile.FieldType.boolean))) := rfl
theorem i_83_11 : iRow 83 11 = some (.bipush 48, 0, 0, 0, (some (Jvm.ClassFile.FieldType.boolean))) := rfl
theorem i_83_13 : iRow 83 13 = some (.if_icmp .lt 23, 0, 0, 0, (some (Jvm.ClassFile.FieldType.boolean))) := rfl
theorem i_83_16 : iRow 83 16 = some (.aload_n 0, 0, 0, 0, (some (Jvm.ClassFile.FieldType.boolean))) := rfl
theorem i_83_17 : iRow 83 17 = some (.getfield 25, 5, 2, 0, (some (Jvm.ClassFile.FieldType.boolean))) := rfl
theorem i_83_20 : iRow 83 20 = some (.getfield 68, 1, 8, 0, (some (Jvm.ClassFile.FieldType.boolean))) := rfl
theorem i_83_23 : iRow 83 23 = some (.iload_n 1, 0, 0, 0, (some (Jvm.ClassFile.FieldType.boolean))) := rfl
theorem i_83_24 : iRow 83 24 = some (.invokestatic 57, 26, 28, 3, (some (Jvm.ClassFile.FieldType.boolean))) := rfl
theorem i_83_27 : iRow 83 27 = some (.bipush 57, 0, 0, 0, (some (Jvm.ClassFile.FieldType.boolean))) := rfl
theorem i_83_29 : iRow 83 29 = some (.if_icmp .gt 7, 0, 0, 0, (some (Jvm.ClassFile.FieldType.boolean))) := rfl
theorem i_83_32 : iRow 83 32 = some (.iconst 1, 0, 0, 0, (some (Jvm.ClassFile.FieldType.boolean))) := rfl
theorem i_83_33 : iRow 83 33 = some (.goto 4, 0, 0, 0, (some (Jvm.ClassFile.FieldType.boolean))) := rfl
theorem i_83_36 : iRow 83 36 = some (.iconst 0, 0, 0, 0, (some (Jvm.ClassFile.FieldType.boolean))) := rfl
theorem i_83_37 : iRow 83 37 = some (.ireturn, 0, 0, 0, (some (Jvm.ClassFile.FieldType.boolean))) := rfl
theorem i_84_0 : iRow 84 0 = some (.aload_n 0, 0, 0, 0, (some (Jvm.ClassFile.FieldType.int))) := rfl
theorem i_84_1 : iRow 84 1 = some (.iload_n 1, 0, 0, 0, (some (Jvm.ClassFile.FieldType.int))) := rfl
theorem i_84_2 : iRow 84 2 = some (.invokevirtual 79, 90, 82, 1, (some (Jvm.ClassFile.FieldType.int))) := rfl
theorem i_84_5 : iRow 84 5 = some (.ifCond .eq 10, 0, 0, 0, (some (Jvm.ClassFile.FieldType.int))) := rfl
theorem i_84_8 : iRow 84 8 = some (.aload_n 0, 0, 0, 0, (some (Jvm.ClassFile.FieldType.int))) := rfl
theorem i_84_9 : iRow 84 9 = some (.iload_n 1, 0, 0, 0, (some (Jvm.ClassFile.FieldType.int))) := rfl
theorem i_84_10 : iRow 84 10 = some (.iload_n 2, 0, 0, 0, (some (Jvm.ClassFile.FieldType.int))) := rfl
theorem i_84_11 : iRow 84 11 = some (.invokevirtual 86, 93, 85, 1, (some (Jvm.ClassFile.FieldType.int))) := rfl
theorem i_84_14 : iRow 84 14 = some (.ireturn, 0, 0, 0, (some (Jvm.ClassFile.FieldType.int))) := rfl
theorem i_84_15 : iRow 84 15 = some (.aload_n 0, 0, 0, 0, (some (Jvm.ClassFile.FieldType.int))) := rfl
theorem i_84_16 : iRow 84 16 = some (.iload_n 1, 0, 0, 0, (some (Jvm.ClassFile.FieldType.int))) := rfl
theorem i_84_17 : iRow 84 17 = some (.invokevirtual 83, 91, 83, 1, (some (Jvm.ClassFile.FieldType.int))) := rfl
theorem i_84_20 : iRow 84 20 = some (.ifCond .eq 12, 0, 0, 0, (some (Jvm.ClassFile.FieldType.int))) := rfl
theorem i_84_23 : iRow 84 23 = some (.aload_n 0, 0, 0, 0, (some (Jvm.ClassFile.FieldType.int))) := rfl
theorem i_84_24 : iRow 84 24 = some (.iload_n 1, 0, 0, 0, (some (Jvm.ClassFile.FieldType.int))) := rfl
theorem i_84_25 : iRow 84 25 = some (.iload_n 2, 0, 0, 0, (some (Jvm.ClassFile.FieldType.int))) := rfl
theorem i_84_26 : iRow 84 26 = some (.invokevirtual 89, 106, 86, 1, (some (Jvm.ClassFile.FieldType.int))) := rfl
theorem i_84_29 : iRow 84 29 = some (.goto 18, 0, 0, 0, (some (Jvm.ClassFile.FieldType.int))) := rfl
theorem i_84_32 : iRow 84 32 = some (.sipush (-1000), 0, 0, 0, (some (Jvm.ClassFile.FieldType.int))) := rfl
theorem i_84_35 : iRow 84 35 = some (.aload_n 0, 0, 0, 0, (some (Jvm.ClassFile.FieldType.int))) := rfl
theorem i_84_36 : iRow 84 36 = some (.getfield 25, 5, 2, 0, (some (Jvm.ClassFile.FieldType.int))) := rfl
theorem i_84_39 : iRow 84 39 = some (.getfield 68, 1, 8, 0, (some (Jvm.ClassFile.FieldType.int))) := rfl
theorem i_84_42 : iRow 84 42 = some (.iload_n 1, 0, 0, 0, (some (Jvm.ClassFile.FieldType.int))) := rfl
theorem i_84_43 : iRow 84 43 = some (.invokestatic 57, 26, 28, 3, (some (Jvm.ClassFile.FieldType.int))) := rfl
theorem i_84_46 : iRow 84 46 = some (.isub, 0, 0, 0, (some (Jvm.ClassFile.FieldType.int))) := rfl
theorem i_84_47 : iRow 84 47 = some (.ireturn, 0, 0, 0, (some (Jvm.ClassFile.FieldType.int))) := rfl
theorem i_85_0 : iRow 85 0 = some (.iconst (-1), 0, 0, 0, (some (Jvm.ClassFile.FieldType.int))) := rfl
theorem i_85_1 : iRow 85 1 = some (.istore_n 3, 0, 0, 0, (some (Jvm.ClassFile.FieldType.int))) := rfl
theorem i_85_2 : iRow 85 2 = some (.iload_n 1, 0, 0, 0, (some (Jvm.ClassFile.FieldType.int))) := rfl
theorem i_85_3 : iRow 85 3 = some (.istore 4, 0, 0, 0, (some (Jvm.ClassFile.FieldType.int))) := rfl
theorem i_85_5 : iRow 85 5 = some (.iconst 0, 0, 0, 0, (some (Jvm.ClassFile.FieldType.int))) := rfl
theorem i_85_6 : iRow 85 6 = some (.istore 5, 0, 0, 0, (some (Jvm.ClassFile.FieldType.int))) := rfl
theorem i_85_8 : iRow 85 8 = some (.iload 5, 0, 0, 0, (some (Jvm.ClassFile.FieldType.int))) := rfl
theorem i_85_10 : iRow 85 10 = some (.ldc 92, 0, 0, 1, (some (Jvm.ClassFile.FieldType.int))) := rfl
theorem i_85_12 : iRow 85 12 = some (.invokevirtual 94, 94, 0, 8, (some (Jvm.ClassFile.FieldType.int))) := rfl
theorem i_85_15 : iRow 85 15 = some (.if_icmp .ge 78, 0, 0, 0, (some (Jvm.ClassFile.FieldType.int))) := rfl
theorem i_85_18 : iRow 85 18 = some (.ldc 92, 0, 0, 1, (some (Jvm.ClassFile.FieldType.int))) := rfl
theorem i_85_20 : iRow 85 20 = some (.iload 5, 0, 0, 0, (some (Jvm.ClassFile.FieldType.int))) := rfl
theorem i_85_22 : iRow 85 22 = some (.invokevirtual 100, 96, 0, 9, (some (Jvm.ClassFile.FieldType.int))) := rfl
theorem i_85_25 : iRow 85 25 = some (.bipush 32, 0, 0, 0, (some (Jvm.ClassFile.FieldType.int))) := rfl
theorem i_85_27 : iRow 85 27 = some (.if_icmp .ne 20, 0, 0, 0, (some (Jvm.ClassFile.FieldType.int))) := rfl
theorem i_85_30 : iRow 85 30 = some (.iload 4, 0, 0, 0, (some (Jvm.ClassFile.FieldType.int))) := rfl
theorem i_85_32 : iRow 85 32 = some (.iload_n 2, 0, 0, 0, (some (Jvm.ClassFile.FieldType.int))) := rfl
theorem i_85_33 : iRow 85 33 = some (.if_icmp .ne 5, 0, 0, 0, (some (Jvm.ClassFile.FieldType.int))) := rfl
theorem i_85_36 : iRow 85 36 = some (.iload_n 3, 0, 0, 0, (some (Jvm.ClassFile.FieldType.int))) := rfl
theorem i_85_37 : iRow 85 37 = some (.ireturn, 0, 0, 0, (some (Jvm.ClassFile.FieldType.int))) := rfl
theorem i_85_38 : iRow 85 38 = some (.iinc 3 (-1), 0, 0, 0, (some (Jvm.ClassFile.FieldType.int))) := rfl
theorem i_85_41 : iRow 85 41 = some (.iload_n 1, 0, 0, 0, (some (Jvm.ClassFile.FieldType.int))) := rfl
theorem i_85_42 : iRow 85 42 = some (.istore 4, 0, 0, 0, (some (Jvm.ClassFile.FieldType.int))) := rfl
theorem i_85_44 : iRow 85 44 = some (.goto 43, 0, 0, 0, (some (Jvm.ClassFile.FieldType.int))) := rfl
theorem i_85_47 : iRow 85 47 = some (.iload 4, 0, 0, 0, (some (Jvm.ClassFile.FieldType.int))) := rfl
theorem i_85_49 : iRow 85 49 = some (.iload_n 2, 0, 0, 0, (some (Jvm.ClassFile.FieldType.int))) := rfl
theorem i_85_50 : iRow 85 50 = some (.if_icmp .ge 32, 0, 0, 0, (some (Jvm.ClassFile.FieldType.int))) := rfl
theorem i_85_53 : iRow 85 53 = some (.aload_n 0, 0, 0, 0, (some (Jvm.ClassFile.FieldType.int))) := rfl
theorem i_85_54 : iRow 85 54 = some (.getfield 25, 5, 2, 0, (some (Jvm.ClassFile.FieldType.int))) := rfl
theorem i_85_57 : iRow 85 57 = some (.getfield 68, 1, 8, 0, (some (Jvm.ClassFile.FieldType.int))) := rfl
theorem i_85_60 : iRow 85 60 = some (.iload 4, 0, 0, 0, (some (Jvm.ClassFile.FieldType.int))) := rfl
theorem i_85_62 : iRow 85 62 = some (.invokestatic 57, 26, 28, 3, (some (Jvm.ClassFile.FieldType.int))) := rfl
theorem i_85_65 : iRow 85 65 = some (.ldc 92, 0, 0, 1, (some (Jvm.ClassFile.FieldType.int))) := rfl
theorem i_85_67 : iRow 85 67 = some (.iload 5, 0, 0, 0, (some (Jvm.ClassFile.FieldType.int))) := rfl
theorem i_85_69 : iRow 85 69 = some (.invokevirtual 100, 96, 0, 9, (some (Jvm.ClassFile.FieldType.int))) := rfl
theorem i_85_72 : iRow 85 72 = some (.if_icmp .ne 10, 0, 0, 0, (some (Jvm.ClassFile.FieldType.int))) := rfl
theorem i_85_75 : iRow 85 75 = some (.iload 4, 0, 0, 0, (some (Jvm.ClassFile.FieldType.int))) := rfl
theorem i_85_77 : iRow 85 77 = some (.iconst 1, 0, 0, 0, (some (Jvm.ClassFile.FieldType.int))) := rfl
theorem i_85_78 : iRow 85 78 = some (.iadd, 0, 0, 0, (some (Jvm.ClassFile.FieldType.int))) := rfl
theorem i_85_79 : iRow 85 79 = some (.goto 6, 0, 0, 0, (some (Jvm.ClassFile.FieldType.int))) := rfl
theorem i_85_82 : iRow 85 82 = some (.iload_n 2, 0, 0, 0, (some (Jvm.ClassFile.FieldType.int))) := rfl
theorem i_85_83 : iRow 85 83 = some (.iconst 1, 0, 0, 0, (some (Jvm.ClassFile.FieldType.int))) := rfl
theorem i_85_84 : iRow 85 84 = some (.iadd, 0, 0, 0, (some (Jvm.ClassFile.FieldType.int))) := rfl
theorem i_85_85 : iRow 85 85 = some (.istore 4, 0, 0, 0, (some (Jvm.ClassFile.FieldType.int))) := rfl
theorem i_85_87 : iRow 85 87 = some (.iinc 5 1, 0, 0, 0, (some (Jvm.ClassFile.FieldType.int))) := rfl
theorem i_85_90 : iRow 85 90 = some (.goto (-82), 0, 0, 0, (some (Jvm.ClassFile.FieldType.int))) := rfl
theorem i_85_93 : iRow 85 93 = some (.sipush (-3000), 0, 0, 0, (some (Jvm.ClassFile.FieldType.int))) := rfl
theorem i_85_96 : iRow 85 96 = some (.ireturn, 0, 0, 0, (some (Jvm.ClassFile.FieldType.int))) := rfl
theorem i_86_0 : iRow 86 0 = some (.iload_n 2, 0, 0, 0, (some (Jvm.ClassFile.FieldType.int))) := rfl
theorem i_86_1 : iRow 86 1 = some (.iload_n 1, 0, 0, 0, (some (Jvm.ClassFile.FieldType.int))) := rfl
theorem i_86_2 : iRow 86 2 = some (.isub, 0, 0, 0, (some (Jvm.ClassFile.FieldType.int))) := rfl
theorem i_86_3 : iRow 86 3 = some (.iconst 3, 0, 0, 0, (some (Jvm.ClassFile.FieldType.int))) := rfl
theorem i_86_4 : iRow 86 4 = some (.if_icmp .le 7, 0, 0, 0, (some (Jvm.ClassFile.FieldType.int))) := rfl
theorem i_86_7 : iRow 86 7 = some (.sipush (-3000), 0, 0, 0, (some (Jvm.ClassFile.FieldType.int))) := rfl
theorem i_86_10 : iRow 86 10 = some (.ireturn, 0, 0, 0, (some (Jvm.ClassFile.FieldType.int))) := rfl
theorem i_86_11 : iRow 86 11 = some (.iconst 0, 0, 0, 0, (some (Jvm.ClassFile.FieldType.int))) := rfl
theorem i_86_12 : iRow 86 12 = some (.istore_n 3, 0, 0, 0, (some (Jvm.ClassFile.FieldType.int))) := rfl
theorem i_86_13 : iRow 86 13 = some (.iload_n 1, 0, 0, 0, (some (Jvm.ClassFile.FieldType.int))) := rfl
theorem i_86_14 : iRow 86 14 = some (.istore 4, 0, 0, 0, (some (Jvm.ClassFile.FieldType.int))) := rfl
theorem i_86_16 : iRow 86 16 = some (.iload 4, 0, 0, 0, (some (Jvm.ClassFile.FieldType.int))) := rfl
theorem i_86_18 : iRow 86 18 = some (.iload_n 2, 0, 0, 0, (some (Jvm.ClassFile.FieldType.int))) := rfl
theorem i_86_19 : iRow 86 19 = some (.if_icmp .ge 30, 0, 0, 0, (some (Jvm.ClassFile.FieldType.int))) := rfl
theorem i_86_22 : iRow 86 22 = some (.bipush 10, 0, 0, 0, (some (Jvm.ClassFile.FieldType.int))) := rfl
theorem i_86_24 : iRow 86 24 = some (.iload_n 3, 0, 0, 0, (some (Jvm.ClassFile.FieldType.int))) := rfl
theorem i_86_25 : iRow 86 25 = some (.imul, 0, 0, 0, (some (Jvm.ClassFile.FieldType.int))) := rfl
theorem i_86_26 : iRow 86 26 = some (.aload_n 0, 0, 0, 0, (some (Jvm.ClassFile.FieldType.int))) := rfl
theorem i_86_27 : iRow 86 27 = some (.getfield 25, 5, 2, 0, (some (Jvm.ClassFile.FieldType.int))) := rfl
theorem i_86_30 : iRow 86 30 = some (.getfield 68, 1, 8, 0, (some (Jvm.ClassFile.FieldType.int))) := rfl
theorem i_86_33 : iRow 86 33 = some (.iload 4, 0, 0, 0, (some (Jvm.ClassFile.FieldType.int))) := rfl
theorem i_86_35 : iRow 86 35 = some (.invokestatic 57, 26, 28, 3, (some (Jvm.ClassFile.FieldType.int))) := rfl
theorem i_86_38 : iRow 86 38 = some (.iadd, 0, 0, 0, (some (Jvm.ClassFile.FieldType.int))) := rfl
theorem i_86_39 : iRow 86 39 = some (.bipush 48, 0, 0, 0, (some (Jvm.ClassFile.FieldType.int))) := rfl
theorem i_86_41 : iRow 86 41 = some (.isub, 0, 0, 0, (some (Jvm.ClassFile.FieldType.int))) := rfl
theorem i_86_42 : iRow 86 42 = some (.istore_n 3, 0, 0, 0, (some (Jvm.ClassFile.FieldType.int))) := rfl
theorem i_86_43 : iRow 86 43 = some (.iinc 4 1, 0, 0, 0, (some (Jvm.ClassFile.FieldType.int))) := rfl
theorem i_86_46 : iRow 86 46 = some (.goto (-30), 0, 0, 0, (some (Jvm.ClassFile.FieldType.int))) := rfl
theorem i_86_49 : iRow 86 49 = some (.iload_n 3, 0, 0, 0, (some (Jvm.ClassFile.FieldType.int))) := rfl
theorem i_86_50 : iRow 86 50 = some (.ireturn, 0, 0, 0, (some (Jvm.ClassFile.FieldType.int))) := rfl
theorem i_88_0 : iRow 88 0 = some (.aload_n 0, 0, 0, 0, (some (Jvm.ClassFile.FieldType.boolean))) := rfl
theorem i_88_1 : iRow 88 1 = some (.aload_n 0, 0, 0, 0, (some (Jvm.ClassFile.FieldType.boolean))) := rfl
theorem i_88_2 : iRow 88 2 = some (.getfield 22, 16, 2, 6, (some (Jvm.ClassFile.FieldType.boolean))) := rfl
theorem i_88_5 : iRow 88 5 = some (.aload_n 0, 0, 0, 0, (some (Jvm.ClassFile.FieldType.boolean))) := rfl
theorem i_88_6 : iRow 88 6 = some (.getfield 54, 17, 2, 7, (some (Jvm.ClassFile.FieldType.boolean))) := rfl
theorem i_88_9 : iRow 88 9 = some (.invokestatic 57, 26, 28, 3, (some (Jvm.ClassFile.FieldType.boolean))) := rfl
theorem i_88_12 : iRow 88 12 = some (.putfield 15, 13, 2, 4, (some (Jvm.ClassFile.FieldType.boolean))) := rfl
theorem i_88_15 : iRow 88 15 = some (.iconst 0, 0, 0, 0, (some (Jvm.ClassFile.FieldType.boolean))) := rfl
theorem i_88_16 : iRow 88 16 = some (.ireturn, 0, 0, 0, (some (Jvm.ClassFile.FieldType.boolean))) := rfl
theorem i_89_0 : iRow 89 0 = some (.aload_n 0, 0, 0, 0, none) := rfl
theorem i_89_1 : iRow 89 1 = some (.dup, 0, 0, 0, none) := rfl
theorem i_89_2 : iRow 89 2 = some (.getfield 54, 17, 2, 7, none) := rfl
theorem i_89_5 : iRow 89 5 = some (.iconst 1, 0, 0, 0, none) := rfl
theorem i_89_6 : iRow 89 6 = some (.iadd, 0, 0, 0, none) := rfl
theorem i_89_7 : iRow 89 7 = some (.putfield 54, 17, 2, 7, none) := rfl
theorem i_89_10 : iRow 89 10 = some (.aload_n 0, 0, 0, 0, none) := rfl
theorem i_89_11 : iRow 89 11 = some (.aload_n 0, 0, 0, 0, none) := rfl
theorem i_89_12 : iRow 89 12 = some (.getfield 54, 17, 2, 7, none) := rfl
theorem i_89_15 : iRow 89 15 = some (.aload_n 0, 0, 0, 0, none) := rfl
theorem i_89_16 : iRow 89 16 = some (.getfield 19, 15, 2, 5, none) := rfl
theorem i_89_19 : iRow 89 19 = some (.arraylength, 0, 0, 0, none) := rfl
theorem i_89_20 : iRow 89 20 = some (.if_icmp .ge 17, 0, 0, 0, none) := rfl
theorem i_89_23 : iRow 89 23 = some (.aload_n 0, 0, 0, 0, none) := rfl
theorem i_89_24 : iRow 89 24 = some (.getfield 19, 15, 2, 5, none) := rfl
theorem i_89_27 : iRow 89 27 = some (.aload_n 0, 0, 0, 0, none) := rfl
theorem i_89_28 : iRow 89 28 = some (.getfield 54, 17, 2, 7, none) := rfl
theorem i_89_31 : iRow 89 31 = some (.invokestatic 57, 26, 28, 3, none) := rfl
theorem i_89_34 : iRow 89 34 = some (.goto 6, 0, 0, 0, none) := rfl
theorem i_89_37 : iRow 89 37 = some (.sipush (-2000), 0, 0, 0, none) := rfl
theorem i_89_40 : iRow 89 40 = some (.putfield 38, 18, 2, 8, none) := rfl
theorem i_89_43 : iRow 89 43 = some (.return_, 0, 0, 0, none) := rfl
theorem i_90_0 : iRow 90 0 = some (.aload_n 0, 0, 0, 0, none) := rfl
theorem i_90_1 : iRow 90 1 = some (.getfield 9, 6, 2, 1, none) := rfl
theorem i_90_4 : iRow 90 4 = some (.aload_n 0, 0, 0, 0, none) := rfl
theorem i_90_5 : iRow 90 5 = some (.getfield 29, 8, 2, 2, none) := rfl
theorem i_90_8 : iRow 90 8 = some (.iload_n 1, 0, 0, 0, none) := rfl
theorem i_90_9 : iRow 90 9 = some (.invokestatic 61, 27, 14, 3, none) := rfl
theorem i_90_12 : iRow 90 12 = some (.aload_n 0, 0, 0, 0, none) := rfl
theorem i_90_13 : iRow 90 13 = some (.dup, 0, 0, 0, none) := rfl
theorem i_90_14 : iRow 90 14 = some (.getfield 29, 8, 2, 2, none) := rfl
theorem i_90_17 : iRow 90 17 = some (.iconst 1, 0, 0, 0, none) := rfl
theorem i_90_18 : iRow 90 18 = some (.iadd, 0, 0, 0, none) := rfl
theorem i_90_19 : iRow 90 19 = some (.putfield 29, 8, 2, 2, none) := rfl
theorem i_90_22 : iRow 90 22 = some (.return_, 0, 0, 0, none) := rfl
theorem i_96_0 : iRow 96 0 = some (.aload_n 0, 0, 0, 0, (some (Jvm.ClassFile.FieldType.boolean))) := rfl
theorem i_96_1 : iRow 96 1 = some (.getfield 38, 18, 2, 8, (some (Jvm.ClassFile.FieldType.boolean))) := rfl
theorem i_96_4 : iRow 96 4 = some (.istore_n 1, 0, 0, 0, (some (Jvm.ClassFile.FieldType.boolean))) := rfl
theorem i_96_5 : iRow 96 5 = some (.iload_n 1, 0, 0, 0, (some (Jvm.ClassFile.FieldType.boolean))) := rfl
theorem i_96_6 : iRow 96 6 = some (.bipush (-12), 0, 0, 0, (some (Jvm.ClassFile.FieldType.boolean))) := rfl
theorem i_96_8 : iRow 96 8 = some (.if_icmp .gt 9, 0, 0, 0, (some (Jvm.ClassFile.FieldType.boolean))) := rfl
theorem i_96_11 : iRow 96 11 = some (.iload_n 1, 0, 0, 0, (some (Jvm.ClassFile.FieldType.boolean))) := rfl
theorem i_96_12 : iRow 96 12 = some (.bipush (-16), 0, 0, 0, (some (Jvm.ClassFile.FieldType.boolean))) := rfl
theorem i_96_14 : iRow 96 14 = some (.if_icmp .ge 8, 0, 0, 0, (some (Jvm.ClassFile.FieldType.boolean))) := rfl
theorem i_96_17 : iRow 96 17 = some (.aload_n 0, 0, 0, 0, (some (Jvm.ClassFile.FieldType.boolean))) := rfl
theorem i_96_18 : iRow 96 18 = some (.invokevirtual 48, 108, 88, 1, (some (Jvm.ClassFile.FieldType.boolean))) := rfl
theorem i_96_21 : iRow 96 21 = some (.ireturn, 0, 0, 0, (some (Jvm.ClassFile.FieldType.boolean))) := rfl
theorem i_96_22 : iRow 96 22 = some (.iconst 1, 0, 0, 0, (some (Jvm.ClassFile.FieldType.boolean))) := rfl
theorem i_96_23 : iRow 96 23 = some (.istore_n 2, 0, 0, 0, (some (Jvm.ClassFile.FieldType.boolean))) := rfl
theorem i_96_24 : iRow 96 24 = some (.aload_n 0, 0, 0, 0, (some (Jvm.ClassFile.FieldType.boolean))) := rfl
theorem i_96_25 : iRow 96 25 = some (.invokevirtual 51, 109, 89, 1, (some (Jvm.ClassFile.FieldType.boolean))) := rfl
theorem i_96_28 : iRow 96 28 = some (.iload_n 1, 0, 0, 0, (some (Jvm.ClassFile.FieldType.boolean))) := rfl
theorem i_96_29 : iRow 96 29 = some (.bipush (-15), 0, 0, 0, (some (Jvm.ClassFile.FieldType.boolean))) := rfl
theorem i_96_31 : iRow 96 31 = some (.if_icmp .eq 34, 0, 0, 0, (some (Jvm.ClassFile.FieldType.boolean))) := rfl
theorem i_96_34 : iRow 96 34 = some (.iload_n 1, 0, 0, 0, (some (Jvm.ClassFile.FieldType.boolean))) := rfl
theorem i_96_35 : iRow 96 35 = some (.bipush (-16), 0, 0, 0, (some (Jvm.ClassFile.FieldType.boolean))) := rfl
theorem i_96_37 : iRow 96 37 = some (.if_icmp .eq 28, 0, 0, 0, (some (Jvm.ClassFile.FieldType.boolean))) := rfl
theorem i_96_40 : iRow 96 40 = some (.aload_n 0, 0, 0, 0, (some (Jvm.ClassFile.FieldType.boolean))) := rfl
theorem i_96_41 : iRow 96 41 = some (.getfield 38, 18, 2, 8, (some (Jvm.ClassFile.FieldType.boolean))) := rfl
theorem i_96_44 : iRow 96 44 = some (.istore_n 2, 0, 0, 0, (some (Jvm.ClassFile.FieldType.boolean))) := rfl
theorem i_96_45 : iRow 96 45 = some (.iload_n 2, 0, 0, 0, (some (Jvm.ClassFile.FieldType.boolean))) := rfl
theorem i_96_46 : iRow 96 46 = some (.iconst 1, 0, 0, 0, (some (Jvm.ClassFile.FieldType.boolean))) := rfl
theorem i_96_47 : iRow 96 47 = some (.if_icmp .lt 9, 0, 0, 0, (some (Jvm.ClassFile.FieldType.boolean))) := rfl
theorem i_96_50 : iRow 96 50 = some (.iload_n 2, 0, 0, 0, (some (Jvm.ClassFile.FieldType.boolean))) := rfl
theorem i_96_51 : iRow 96 51 = some (.bipush 6, 0, 0, 0, (some (Jvm.ClassFile.FieldType.boolean))) := rfl
theorem i_96_53 : iRow 96 53 = some (.if_icmp .lt 8, 0, 0, 0, (some (Jvm.ClassFile.FieldType.boolean))) := rfl
theorem i_96_56 : iRow 96 56 = some (.aload_n 0, 0, 0, 0, (some (Jvm.ClassFile.FieldType.boolean))) := rfl
theorem i_96_57 : iRow 96 57 = some (.invokevirtual 48, 108, 88, 1, (some (Jvm.ClassFile.FieldType.boolean))) := rfl
theorem i_96_60 : iRow 96 60 = some (.ireturn, 0, 0, 0, (some (Jvm.ClassFile.FieldType.boolean))) := rfl
theorem i_96_61 : iRow 96 61 = some (.aload_n 0, 0, 0, 0, (some (Jvm.ClassFile.FieldType.boolean))) := rfl
theorem i_96_62 : iRow 96 62 = some (.invokevirtual 51, 109, 89, 1, (some (Jvm.ClassFile.FieldType.boolean))) := rfl
theorem i_96_65 : iRow 96 65 = some (.aload_n 0, 0, 0, 0, (some (Jvm.ClassFile.FieldType.boolean))) := rfl
theorem i_96_66 : iRow 96 66 = some (.iload_n 1, 0, 0, 0, (some (Jvm.ClassFile.FieldType.boolean))) := rfl
theorem i_96_67 : iRow 96 67 = some (.invokevirtual 104, 110, 90, 1, (some (Jvm.ClassFile.FieldType.boolean))) := rfl
theorem i_96_70 : iRow 96 70 = some (.aload_n 0, 0, 0, 0, (some (Jvm.ClassFile.FieldType.boolean))) := rfl
theorem i_96_71 : iRow 96 71 = some (.iload_n 2, 0, 0, 0, (some (Jvm.ClassFile.FieldType.boolean))) := rfl
theorem i_96_72 : iRow 96 72 = some (.invokevirtual 104, 110, 90, 1, (some (Jvm.ClassFile.FieldType.boolean))) := rfl
theorem i_96_75 : iRow 96 75 = some (.iconst 1, 0, 0, 0, (some (Jvm.ClassFile.FieldType.boolean))) := rfl
theorem i_96_76 : iRow 96 76 = some (.ireturn, 0, 0, 0, (some (Jvm.ClassFile.FieldType.boolean))) := rfl
theorem i_97_0 : iRow 97 0 = some (.aload_n 0, 0, 0, 0, none) := rfl
theorem i_97_1 : iRow 97 1 = some (.aload_n 0, 0, 0, 0, none) := rfl
theorem i_97_2 : iRow 97 2 = some (.getfield 21, 138, 11, 1, none) := rfl
theorem i_97_5 : iRow 97 5 = some (.getfield 116, 14, 2, 4, none) := rfl
theorem i_97_8 : iRow 97 8 = some (.putfield 63, 145, 11, 8, none) := rfl
theorem i_97_11 : iRow 97 11 = some (.aload_n 0, 0, 0, 0, none) := rfl
theorem i_97_12 : iRow 97 12 = some (.getfield 12, 137, 11, 0, none) := rfl
theorem i_97_15 : iRow 97 15 = some (.iconst 0, 0, 0, 0, none) := rfl
theorem i_97_16 : iRow 97 16 = some (.putfield 75, 3, 8, 1, none) := rfl
theorem i_97_19 : iRow 97 19 = some (.return_, 0, 0, 0, none) := rfl
theorem i_98_0 : iRow 98 0 = some (.aload_n 0, 0, 0, 0, none) := rfl
theorem i_98_1 : iRow 98 1 = some (.getfield 9, 22, 1, 1, none) := rfl
theorem i_98_4 : iRow 98 4 = some (.aload_n 0, 0, 0, 0, none) := rfl
theorem i_98_5 : iRow 98 5 = some (.getfield 46, 19, 1, 0, none) := rfl
theorem i_98_8 : iRow 98 8 = some (.iload_n 1, 0, 0, 0, none) := rfl
theorem i_98_9 : iRow 98 9 = some (.invokestatic 62, 28, 14, 3, none) := rfl
theorem i_98_12 : iRow 98 12 = some (.aload_n 0, 0, 0, 0, none) := rfl
theorem i_98_13 : iRow 98 13 = some (.getfield 15, 23, 1, 2, none) := rfl
theorem i_98_16 : iRow 98 16 = some (.aload_n 0, 0, 0, 0, none) := rfl
theorem i_98_17 : iRow 98 17 = some (.getfield 46, 19, 1, 0, none) := rfl
theorem i_98_20 : iRow 98 20 = some (.aload_n 2, 0, 0, 0, none) := rfl
theorem i_98_21 : iRow 98 21 = some (.getfield 66, 11, 2, 3, none) := rfl
theorem i_98_24 : iRow 98 24 = some (.invokestatic 62, 28, 14, 3, none) := rfl
theorem i_98_27 : iRow 98 27 = some (.iconst 0, 0, 0, 0, none) := rfl
theorem i_98_28 : iRow 98 28 = some (.istore_n 3, 0, 0, 0, none) := rfl
theorem i_98_29 : iRow 98 29 = some (.iload_n 3, 0, 0, 0, none) := rfl
theorem i_98_30 : iRow 98 30 = some (.bipush 12, 0, 0, 0, none) := rfl
theorem i_98_32 : iRow 98 32 = some (.if_icmp .ge 35, 0, 0, 0, none) := rfl
theorem i_98_35 : iRow 98 35 = some (.aload_n 0, 0, 0, 0, none) := rfl
theorem i_98_36 : iRow 98 36 = some (.getfield 18, 25, 1, 3, none) := rfl
theorem i_98_39 : iRow 98 39 = some (.aload_n 0, 0, 0, 0, none) := rfl
theorem i_98_40 : iRow 98 40 = some (.getfield 46, 19, 1, 0, none) := rfl
theorem i_98_43 : iRow 98 43 = some (.bipush 6, 0, 0, 0, none) := rfl
theorem i_98_45 : iRow 98 45 = some (.imul, 0, 0, 0, none) := rfl
theorem i_98_46 : iRow 98 46 = some (.iconst 2, 0, 0, 0, none) := rfl
theorem i_98_47 : iRow 98 47 = some (.imul, 0, 0, 0, none) := rfl
theorem i_98_48 : iRow 98 48 = some (.iload_n 3, 0, 0, 0, none) := rfl
theorem i_98_49 : iRow 98 49 = some (.iadd, 0, 0, 0, none) := rfl
theorem i_98_50 : iRow 98 50 = some (.aload_n 2, 0, 0, 0, none) := rfl
theorem i_98_51 : iRow 98 51 = some (.getfield 70, 7, 2, 1, none) := rfl
theorem i_98_54 : iRow 98 54 = some (.iload_n 3, 0, 0, 0, none) := rfl
theorem i_98_55 : iRow 98 55 = some (.invokestatic 73, 11, 28, 3, none) := rfl
theorem i_98_58 : iRow 98 58 = some (.invokestatic 62, 28, 14, 3, none) := rfl
theorem i_98_61 : iRow 98 61 = some (.iinc 3 1, 0, 0, 0, none) := rfl
theorem i_98_64 : iRow 98 64 = some (.goto (-35), 0, 0, 0, none) := rfl
theorem i_98_67 : iRow 98 67 = some (.aload_n 0, 0, 0, 0, none) := rfl
theorem i_98_68 : iRow 98 68 = some (.dup, 0, 0, 0, none) := rfl
theorem i_98_69 : iRow 98 69 = some (.getfield 46, 19, 1, 0, none) := rfl
theorem i_98_72 : iRow 98 72 = some (.iconst 1, 0, 0, 0, none) := rfl
theorem i_98_73 : iRow 98 73 = some (.iadd, 0, 0, 0, none) := rfl
theorem i_98_74 : iRow 98 74 = some (.putfield 46, 19, 1, 0, none) := rfl
theorem i_98_77 : iRow 98 77 = some (.return_, 0, 0, 0, none) := rfl
theorem i_174_0 : iRow 174 0 = some (.aload_n 0, 0, 0, 0, (some (Jvm.ClassFile.FieldType.int))) := rfl
theorem i_174_1 : iRow 174 1 = some (.iconst 0, 0, 0, 0, (some (Jvm.ClassFile.FieldType.int))) := rfl
theorem i_174_2 : iRow 174 2 = some (.putfield 3, 164, 12, 0, (some (Jvm.ClassFile.FieldType.int))) := rfl
theorem i_174_5 : iRow 174 5 = some (.aload_n 0, 0, 0, 0, (some (Jvm.ClassFile.FieldType.int))) := rfl
theorem i_174_6 : iRow 174 6 = some (.iconst 1, 0, 0, 0, (some (Jvm.ClassFile.FieldType.int))) := rfl
theorem i_174_10 : iRow 174 10 = some (.istore_n 2, 0, 0, 0, (some (Jvm.ClassFile.FieldType.int))) := rfl
theorem i_174_11 : iRow 174 11 = some (.aload_n 0, 0, 0, 0, (some (Jvm.ClassFile.FieldType.int))) := rfl
theorem i_174_12 : iRow 174 12 = some (.iload_n 2, 0, 0, 0, (some (Jvm.ClassFile.FieldType.int))) := rfl
theorem i_174_13 : iRow 174 13 = some (.ifCond .ge 10, 0, 0, 0, (some (Jvm.ClassFile.FieldType.int))) := rfl
theorem i_174_16 : iRow 174 16 = some (.aload_n 0, 0, 0, 0, (some (Jvm.ClassFile.FieldType.int))) := rfl
theorem i_174_17 : iRow 174 17 = some (.getfield 130, 172, 12, 8, (some (Jvm.ClassFile.FieldType.int))) := rfl
theorem i_174_20 : iRow 174 20 = some (.goto 4, 0, 0, 0, (some (Jvm.ClassFile.FieldType.int))) := rfl
theorem i_174_23 : iRow 174 23 = some (.iconst (-1), 0, 0, 0, (some (Jvm.ClassFile.FieldType.int))) := rfl
theorem i_174_24 : iRow 174 24 = some (.putfield 24, 174, 12, 10, (some (Jvm.ClassFile.FieldType.int))) := rfl
theorem i_174_27 : iRow 174 27 = some (.aload_n 0, 0, 0, 0, (some (Jvm.ClassFile.FieldType.int))) := rfl
theorem i_174_28 : iRow 174 28 = some (.iload_n 2, 0, 0, 0, (some (Jvm.ClassFile.FieldType.int))) := rfl
theorem i_174_29 : iRow 174 29 = some (.ifCond .lt 13, 0, 0, 0, (some (Jvm.ClassFile.FieldType.int))) := rfl
theorem i_174_32 : iRow 174 32 = some (.iload_n 1, 0, 0, 0, (some (Jvm.ClassFile.FieldType.int))) := rfl
theorem i_174_33 : iRow 174 33 = some (.iconst 0, 0, 0, 0, (some (Jvm.ClassFile.FieldType.int))) := rfl
theorem i_174_34 : iRow 174 34 = some (.bipush 20, 0, 0, 0, (some (Jvm.ClassFile.FieldType.int))) := rfl
theorem i_174_36 : iRow 174 36 = some (.invokestatic 106, 282, 193, 0, (some (Jvm.ClassFile.FieldType.int))) := rfl
theorem i_174_39 : iRow 174 39 = some (.ifCond .ne 7, 0, 0, 0, (some (Jvm.ClassFile.FieldType.int))) := rfl
theorem i_174_42 : iRow 174 42 = some (.iconst 1, 0, 0, 0, (some (Jvm.ClassFile.FieldType.int))) := rfl
theorem i_174_43 : iRow 174 43 = some (.goto 4, 0, 0, 0, (some (Jvm.ClassFile.FieldType.int))) := rfl
theorem i_174_46 : iRow 174 46 = some (.iconst 0, 0, 0, 0, (some (Jvm.ClassFile.FieldType.int))) := rfl
theorem i_174_47 : iRow 174 47 = some (.iconst 1, 0, 0, 0, (some (Jvm.ClassFile.FieldType.int))) := rfl
theorem i_174_48 : iRow 174 48 = some (.invokevirtual 235, 283, 194, 1, (some (Jvm.ClassFile.FieldType.int))) := rfl
theorem i_174_51 : iRow 174 51 = some (.ifCond .ne 26, 0, 0, 0, (some (Jvm.ClassFile.FieldType.int))) := rfl
theorem i_174_54 : iRow 174 54 = some (.aload_n 0, 0, 0, 0, (some (Jvm.ClassFile.FieldType.int))) := rfl
theorem i_174_55 : iRow 174 55 = some (.aload_n 0, 0, 0, 0, (some (Jvm.ClassFile.FieldType.int))) := rfl
theorem i_174_56 : iRow 174 56 = some (.getfield 13, 165, 12, 1, (some (Jvm.ClassFile.FieldType.int))) := rfl
theorem i_174_59 : iRow 174 59 = some (.iconst 0, 0, 0, 0, (some (Jvm.ClassFile.FieldType.int))) := rfl
theorem i_174_60 : iRow 174 60 = some (.iaload, 0, 0, 0, (some (Jvm.ClassFile.FieldType.int))) := rfl
theorem i_174_61 : iRow 174 61 = some (.iconst 5, 0, 0, 0, (some (Jvm.ClassFile.FieldType.int))) := rfl
theorem i_174_62 : iRow 174 62 = some (.if_icmp .ne 7, 0, 0, 0, (some (Jvm.ClassFile.FieldType.int))) := rfl
theorem i_174_65 : iRow 174 65 = some (.iconst 1, 0, 0, 0, (some (Jvm.ClassFile.FieldType.int))) := rfl
theorem i_174_66 : iRow 174 66 = some (.goto 4, 0, 0, 0, (some (Jvm.ClassFile.FieldType.int))) := rfl
theorem i_174_69 : iRow 174 69 = some (.iconst 0, 0, 0, 0, (some (Jvm.ClassFile.FieldType.int))) := rfl
theorem i_174_70 : iRow 174 70 = some (.iconst 2, 0, 0, 0, (some (Jvm.ClassFile.FieldType.int))) := rfl
theorem i_174_71 : iRow 174 71 = some (.invokevirtual 235, 283, 194, 1, (some (Jvm.ClassFile.FieldType.int))) := rfl
theorem i_174_74 : iRow 174 74 = some (.ifCond .eq 5, 0, 0, 0, (some (Jvm.ClassFile.FieldType.int))) := rfl
theorem i_174_77 : iRow 174 77 = some (.iconst 0, 0, 0, 0, (some (Jvm.ClassFile.FieldType.int))) := rfl
theorem i_174_78 : iRow 174 78 = some (.ireturn, 0, 0, 0, (some (Jvm.ClassFile.FieldType.int))) := rfl
theorem i_174_79 : iRow 174 79 = some (.bipush 49, 0, 0, 0, (some (Jvm.ClassFile.FieldType.int))) := rfl
theorem i_174_81 : iRow 174 81 = some (.bipush 14, 0, 0, 0, (some (Jvm.ClassFile.FieldType.int))) := rfl
theorem i_174_83 : iRow 174 83 = some (.aload_n 0, 0, 0, 0, (some (Jvm.ClassFile.FieldType.int))) := rfl
theorem i_174_84 : iRow 174 84 = some (.getfield 13, 165, 12, 1, (some (Jvm.ClassFile.FieldType.int))) := rfl
theorem i_174_87 : iRow 174 87 = some (.iconst 0, 0, 0, 0, (some (Jvm.ClassFile.FieldType.int))) := rfl
theorem i_174_88 : iRow 174 88 = some (.iaload, 0, 0, 0, (some (Jvm.ClassFile.FieldType.int))) := rfl
theorem i_174_89 : iRow 174 89 = some (.imul, 0, 0, 0, (some (Jvm.ClassFile.FieldType.int))) := rfl
theorem i_174_90 : iRow 174 90 = some (.iadd, 0, 0, 0, (some (Jvm.ClassFile.FieldType.int))) := rfl
theorem i_174_91 : iRow 174 91 = some (.istore_n 3, 0, 0, 0, (some (Jvm.ClassFile.FieldType.int))) := rfl
theorem i_174_92 : iRow 174 92 = some (.aload_n 0, 0, 0, 0, (some (Jvm.ClassFile.FieldType.int))) := rfl
theorem i_174_93 : iRow 174 93 = some (.getfield 13, 165, 12, 1, (some (Jvm.ClassFile.FieldType.int))) := rfl
theorem i_174_96 : iRow 174 96 = some (.iload_n 3, 0, 0, 0, (some (Jvm.ClassFile.FieldType.int))) := rfl
theorem i_174_97 : iRow 174 97 = some (.iload_n 1, 0, 0, 0, (some (Jvm.ClassFile.FieldType.int))) := rfl
theorem i_174_98 : iRow 174 98 = some (.iastore, 0, 0, 0, (some (Jvm.ClassFile.FieldType.int))) := rfl
theorem i_174_99 : iRow 174 99 = some (.aload_n 0, 0, 0, 0, (some (Jvm.ClassFile.FieldType.int))) := rfl
theorem i_174_100 : iRow 174 100 = some (.getfield 13, 165, 12, 1, (some (Jvm.ClassFile.FieldType.int))) := rfl
theorem i_174_103 : iRow 174 103 = some (.iload_n 3, 0, 0, 0, (some (Jvm.ClassFile.FieldType.int))) := rfl
theorem i_174_104 : iRow 174 104 = some (.iconst 1, 0, 0, 0, (some (Jvm.ClassFile.FieldType.int))) := rfl
theorem i_174_105 : iRow 174 105 = some (.iadd, 0, 0, 0, (some (Jvm.ClassFile.FieldType.int))) := rfl
theorem i_174_106 : iRow 174 106 = some (.iload_n 2, 0, 0, 0, (some (Jvm.ClassFile.FieldType.int))) := rfl
theorem i_174_107 : iRow 174 107 = some (.iastore, 0, 0, 0, (some (Jvm.ClassFile.FieldType.int))) := rfl
theorem i_174_108 : iRow 174 108 = some (.iconst 0, 0, 0, 0, (some (Jvm.ClassFile.FieldType.int))) := rfl
theorem i_174_109 : iRow 174 109 = some (.istore 4, 0, 0, 0, (some (Jvm.ClassFile.FieldType.int))) := rfl
theorem i_174_111 : iRow 174 111 = some (.iload 4, 0, 0, 0, (some (Jvm.ClassFile.FieldType.int))) := rfl
theorem i_174_113 : iRow 174 113 = some (.iconst 2, 0, 0, 0, (some (Jvm.ClassFile.FieldType.int))) := rfl
theorem i_174_114 : iRow 174 114 = some (.iload_n 2, 0, 0, 0, (some (Jvm.ClassFile.FieldType.int))) := rfl
theorem i_174_115 : iRow 174 115 = some (.imul, 0, 0, 0, (some (Jvm.ClassFile.FieldType.int))) := rfl
theorem i_174_116 : iRow 174 116 = some (.if_icmp .ge 27, 0, 0, 0, (some (Jvm.ClassFile.FieldType.int))) := rfl
theorem i_174_119 : iRow 174 119 = some (.aload_n 0, 0, 0, 0, (some (Jvm.ClassFile.FieldType.int))) := rfl
theorem i_174_120 : iRow 174 120 = some (.getfield 13, 165, 12, 1, (some (Jvm.ClassFile.FieldType.int))) := rfl
theorem i_174_123 : iRow 174 123 = some (.iload_n 3, 0, 0, 0, (some (Jvm.ClassFile.FieldType.int))) := rfl
theorem i_174_124 : iRow 174 124 = some (.iconst 2, 0, 0, 0, (some (Jvm.ClassFile.FieldType.int))) := rfl
theorem i_174_125 : iRow 174 125 = some (.iadd, 0, 0, 0, (some (Jvm.ClassFile.FieldType.int))) := rfl
theorem i_174_126 : iRow 174 126 = some (.iload 4, 0, 0, 0, (some (Jvm.ClassFile.FieldType.int))) := rfl
theorem i_174_128 : iRow 174 128 = some (.iadd, 0, 0, 0, (some (Jvm.ClassFile.FieldType.int))) := rfl
theorem i_174_129 : iRow 174 129 = some (.aload_n 0, 0, 0, 0, (some (Jvm.ClassFile.FieldType.int))) := rfl
theorem i_174_130 : iRow 174 130 = some (.getfield 30, 177, 12, 13, (some (Jvm.ClassFile.FieldType.int))) := rfl
theorem i_174_133 : iRow 174 133 = some (.iload 4, 0, 0, 0, (some (Jvm.ClassFile.FieldType.int))) := rfl
theorem i_174_135 : iRow 174 135 = some (.iaload, 0, 0, 0, (some (Jvm.ClassFile.FieldType.int))) := rfl
theorem i_174_136 : iRow 174 136 = some (.iastore, 0, 0, 0, (some (Jvm.ClassFile.FieldType.int))) := rfl
theorem i_174_137 : iRow 174 137 = some (.iinc 4 1, 0, 0, 0, (some (Jvm.ClassFile.FieldType.int))) := rfl
theorem i_174_140 : iRow 174 140 = some (.goto (-29), 0, 0, 0, (some (Jvm.ClassFile.FieldType.int))) := rfl
theorem i_174_143 : iRow 174 143 = some (.aload_n 0, 0, 0, 0, (some (Jvm.ClassFile.FieldType.int))) := rfl
theorem i_174_144 : iRow 174 144 = some (.getfield 13, 165, 12, 1, (some (Jvm.ClassFile.FieldType.int))) := rfl
theorem i_174_147 : iRow 174 147 = some (.iconst 0, 0, 0, 0, (some (Jvm.ClassFile.FieldType.int))) := rfl
theorem i_174_148 : iRow 174 148 = some (.dup2, 0, 0, 0, (some (Jvm.ClassFile.FieldType.int))) := rfl
theorem i_174_149 : iRow 174 149 = some (.iaload, 0, 0, 0, (some (Jvm.ClassFile.FieldType.int))) := rfl
theorem i_174_150 : iRow 174 150 = some (.iconst 1, 0, 0, 0, (some (Jvm.ClassFile.FieldType.int))) := rfl
theorem i_174_151 : iRow 174 151 = some (.iadd, 0, 0, 0, (some (Jvm.ClassFile.FieldType.int))) := rfl
theorem i_174_152 : iRow 174 152 = some (.iastore, 0, 0, 0, (some (Jvm.ClassFile.FieldType.int))) := rfl
theorem i_174_153 : iRow 174 153 = some (.aload_n 0, 0, 0, 0, (some (Jvm.ClassFile.FieldType.int))) := rfl
theorem i_174_154 : iRow 174 154 = some (.getfield 13, 165, 12, 1, (some (Jvm.ClassFile.FieldType.int))) := rfl
theorem i_174_157 : iRow 174 157 = some (.iconst 0, 0, 0, 0, (some (Jvm.ClassFile.FieldType.int))) := rfl
theorem i_174_158 : iRow 174 158 = some (.iaload, 0, 0, 0, (some (Jvm.ClassFile.FieldType.int))) := rfl
theorem i_174_159 : iRow 174 159 = some (.iconst 1, 0, 0, 0, (some (Jvm.ClassFile.FieldType.int))) := rfl
theorem i_174_160 : iRow 174 160 = some (.isub, 0, 0, 0, (some (Jvm.ClassFile.FieldType.int))) := rfl
theorem i_174_161 : iRow 174 161 = some (.ireturn, 0, 0, 0, (some (Jvm.ClassFile.FieldType.int))) := rfl
theorem i_277_0 : iRow 277 0 = some (.aload_n 2, 0, 0, 0, (some (Jvm.ClassFile.FieldType.int))) := rfl
theorem i_277_1 : iRow 277 1 = some (.iconst 0, 0, 0, 0, (some (Jvm.ClassFile.FieldType.int))) := rfl
theorem i_277_2 : iRow 277 2 = some (.aload_n 0, 0, 0, 0, (some (Jvm.ClassFile.FieldType.int))) := rfl
theorem i_277_3 : iRow 277 3 = some (.iload_n 1, 0, 0, 0, (some (Jvm.ClassFile.FieldType.int))) := rfl
theorem i_277_4 : iRow 277 4 = some (.invokevirtual 7, 86, 78, 1, (some (Jvm.ClassFile.FieldType.int))) := rfl
theorem i_277_7 : iRow 277 7 = some (.i2l, 0, 0, 0, (some (Jvm.ClassFile.FieldType.int))) := rfl
theorem i_277_8 : iRow 277 8 = some (.lastore, 0, 0, 0, (some (Jvm.ClassFile.FieldType.int))) := rfl
theorem i_277_9 : iRow 277 9 = some (.goto 9, 0, 0, 0, (some (Jvm.ClassFile.FieldType.int))) := rfl
theorem i_277_13 : iRow 277 13 = some (.iconst 1, 0, 0, 0, (some (Jvm.ClassFile.FieldType.int))) := rfl
theorem i_277_14 : iRow 277 14 = some (.ireturn, 0, 0, 0, (some (Jvm.ClassFile.FieldType.int))) := rfl
theorem i_277_16 : iRow 277 16 = some (.iconst 2, 0, 0, 0, (some (Jvm.ClassFile.FieldType.int))) := rfl
theorem i_277_17 : iRow 277 17 = some (.ireturn, 0, 0, 0, (some (Jvm.ClassFile.FieldType.int))) := rfl
theorem i_277_18 : iRow 277 18 = some (.iconst 0, 0, 0, 0, (some (Jvm.ClassFile.FieldType.int))) := rfl
theorem i_277_19 : iRow 277 19 = some (.ireturn, 0, 0, 0, (some (Jvm.ClassFile.FieldType.int))) := rfl
/-! THE READER of the class, by the document's tokens -/
def atP (p : Nat) (x : Int) (es : PH) (v : Int) : Prop := v = (gA es p x.toNat).toInt
def anyV (_ : Int) (_ : PH) (v : Int) : Prop := -2147483648 ≤ v ∧ v ≤ 2147483647
def stP (p : Nat) (x v : Int) (es es' : PH) : Prop := sh es' ∧ hOK tT es' ∧ es' = sA es p x.toNat (zI v)
def anyS (p : Nat) (_ _ : Int) (es es' : PH) : Prop := sh es' ∧ hOK tT es' ∧ (∀ q b, gI es' q b = gI es q b) ∧ ∀ q, q ≠ p → gA es' q = gA es q
theorem i32r (x : Int32) : -2147483648 ≤ x.toInt ∧ x.toInt ≤ 2147483647 := i32_rng x
theorem atP_rng {p : Nat} {x v : Int} {es : PH} (h : atP p x es v) : -2147483648 ≤ v ∧ v ≤ 2147483647 := by
  unfold atP at h
  rw [h]
  exact i32r _
section
variable {O : pOut} {d kc ks p n : Nat} {Q : pRes → Prop} {es : PH} {sp : Nat → Int × Int} {x v : Int}
theorem at_any (hp : tT[p]? = some (.inl (0, n, sp))) (hs : sh es) (hn : n ≤ 2000) (hx : i32 x) (K : ∀ v, anyV x es v → Q (.inl (some (.int (zI v))), es, kc, ks)) : aW O d 28 kc ks Q (0, [some (.ref (64 + p)), some (.int (zI x))], [], es) :=
  atp (sh_arr hs hp (by decide)) (by omega) hx (fun a ha => K a ha)
theorem at_sp (hp : tT[p]? = some (.inl (0, n, sp))) (hs : sh es) (h0 : 0 ≤ x) (h1 : x < (n : Int)) (hn : n ≤ 2000) (K : ∀ v, atP p x es v → Q (.inl (some (.int (zI v))), es, kc, ks)) : aW O d 28 kc ks Q (0, [some (.ref (64 + p)), some (.int (zI x))], [], es) := by
  have hx : i32 x := by unfold i32 iLO iHI; omega
  refine x0 (r := (1, [some (.ref (64 + p)), some (.int (zI x))], [.int (zI x)], es)) i_28_0 rfl ?_
  refine x_ifF i_28_1 hx rfl (by simp only [zC, cR]; omega) ?_
  refine x0 (r := (5, [some (.ref (64 + p)), some (.int (zI x))], [.int (zI x)], es)) i_28_4 rfl ?_
  refine x0 (r := (6, [some (.ref (64 + p)), some (.int (zI x))], [.ref (64 + p), .int (zI x)], es)) i_28_5 rfl ?_
  refine x_alen i_28_6 hs hp ?_
  refine x_cmpF i_28_7 hx (by unfold i32 iLO iHI; omega) rfl (by simp only [zC, cR]; omega) ?_
  refine x0 (r := (11, [some (.ref (64 + p)), some (.int (zI x))], [.ref (64 + p)], es)) i_28_10 rfl ?_
  refine x0 (r := (12, [some (.ref (64 + p)), some (.int (zI x))], [.int (zI x), .ref (64 + p)], es)) i_28_11 rfl ?_
  refine x_iald i_28_12 hs hp hx h0 h1 ?_
  refine x0 (r := (17, [some (.ref (64 + p)), some (.int (zI x))], [.int (zI (gA es p x.toNat).toInt)], es)) i_28_13 rfl ?_
  refine x_ret (v := some (.int (zI (gA es p x.toNat).toInt))) i_28_17 rfl (fun _ => rfl) rfl rfl rfl ?_
  exact K _ rfl
theorem set_sp (hp : tT[p]? = some (.inl (0, n, sp))) (hs : sh es) (hT : hOK tT es) (hb : ∀ k, (sp k).1 ≤ iLO ∧ iHI ≤ (sp k).2) (h0 : 0 ≤ x) (h1 : x < (n : Int)) (hn : n ≤ 2000) (K : ∀ es', stP p x v es es' → Q (.inl none, es', kc, ks)) : aW O d 14 kc ks Q (0, [some (.ref (64 + p)), some (.int (zI x)), some (.int (zI v))], [], es) := by
  have hx : i32 x := by unfold i32 iLO iHI; omega
  have hT' : hOK tT (sA es p x.toNat (zI v)) := hOK_sA hT hp (fun _ => by
    have h2 := hb x.toNat
    have h3 := i32_rng (zI v)
    omega)
  refine x0 (r := (1, [some (.ref (64 + p)), some (.int (zI x)), some (.int (zI v))], [.int (zI x)], es)) i_14_0 rfl ?_
  refine x_ifF i_14_1 hx rfl (by simp only [zC, cR]; omega) ?_
  refine x0 (r := (5, [some (.ref (64 + p)), some (.int (zI x)), some (.int (zI v))], [.int (zI x)], es)) i_14_4 rfl ?_
  refine x0 (r := (6, [some (.ref (64 + p)), some (.int (zI x)), some (.int (zI v))], [.ref (64 + p), .int (zI x)], es)) i_14_5 rfl ?_
  refine x_alen i_14_6 hs hp ?_
  refine x_cmpF i_14_7 hx (by unfold i32 iLO iHI; omega) rfl (by simp only [zC, cR]; omega) ?_
  refine x0 (r := (11, [some (.ref (64 + p)), some (.int (zI x)), some (.int (zI v))], [.ref (64 + p)], es)) i_14_10 rfl ?_
  refine x0 (r := (12, [some (.ref (64 + p)), some (.int (zI x)), some (.int (zI v))], [.int (zI x), .ref (64 + p)], es)) i_14_11 rfl ?_
  refine x0 (r := (13, [some (.ref (64 + p)), some (.int (zI x)), some (.int (zI v))], [.int (zI v), .int (zI x), .ref (64 + p)], es)) i_14_12 rfl ?_
  refine x_iast i_14_13 hs hp hx h0 h1 ?_
  refine x_ret (v := none) i_14_14 rfl (fun _ => rfl) rfl rfl rfl ?_
  exact K _ ⟨sh_of hT', hT', rfl⟩
theorem set_any (hp : tT[p]? = some (.inl (0, n, sp))) (hs : sh es) (hT : hOK tT es) (hb : ∀ k, (sp k).1 ≤ iLO ∧ iHI ≤ (sp k).2) (hn : n ≤ 2000) (hx : i32 x) (K : ∀ es', anyS p x v es es' → Q (.inl none, es', kc, ks)) : aW O d 14 kc ks Q (0, [some (.ref (64 + p)), some (.int (zI x)), some (.int (zI v))], [], es) := by
  by_cases h0 : 0 ≤ x ∧ x < (n : Int)
  · refine set_sp hp hs hT hb h0.1 h0.2 hn (fun es' h => K es' ⟨h.1, h.2.1, fun q b => by rw [h.2.2, gI_sA], fun q hq => by rw [h.2.2, gA_sA_ne hq]⟩)
  · have hxx := hx
    unfold i32 iLO iHI at hxx
    have k14 : aW O d 14 kc ks Q (14, [some (.ref (64 + p)), some (.int (zI x)), some (.int (zI v))], [], es) := x_ret (v := none) i_14_14 rfl (fun _ => rfl) rfl rfl rfl (K es ⟨hs, hT, fun _ _ => rfl, fun _ _ => rfl⟩)
    refine x0 (r := (1, [some (.ref (64 + p)), some (.int (zI x)), some (.int (zI v))], [.int (zI x)], es)) i_14_0 rfl ?_
    by_cases c : x < 0
    · exact x_ifT i_14_1 hx rfl (by simp only [zC, cR]; omega) k14
    · refine x_ifF i_14_1 hx rfl (by simp only [zC, cR]; omega) ?_
      refine x0 (r := (5, [some (.ref (64 + p)), some (.int (zI x)), some (.int (zI v))], [.int (zI x)], es)) i_14_4 rfl ?_
      refine x0 (r := (6, [some (.ref (64 + p)), some (.int (zI x)), some (.int (zI v))], [.ref (64 + p), .int (zI x)], es)) i_14_5 rfl ?_
      refine x_alen i_14_6 hs hp ?_
      exact x_cmpT i_14_7 hx (by unfold i32 iLO iHI; omega) rfl (by simp only [zC, cR]; omega) k14
end
/-- the class's tape holds the reference's bytes -/
def jB (R : Nat → Int32) (n : Nat) (es : PH) : Prop := (∀ k, k < 400 → (gA es 2 k).toInt = zU8 (zR R k)) ∧ (∀ k, k < 400 → -128 ≤ zR R k ∧ zR R k ≤ 127) ∧ (gI es 1 1).toInt = (n : Int) ∧ n ≤ 400
theorem jB_sA {R : Nat → Int32} {n p k : Nat} {x : Int32} {es : PH} (h : jB R n es) (hp : 2 ≠ p) : jB R n (sA es p k x) := by
  refine ⟨fun i hi => ?_, h.2.1, by rw [gI_sA]; exact h.2.2.1, h.2.2.2⟩
  rw [gA_sA_ne hp]
  exact h.1 i hi
theorem jB_sI {R : Nat → Int32} {n p b : Nat} {v : Value} {es : PH} (h : jB R n es) (hp : 1 ≠ p) : jB R n (sI es p b v) := by
  refine ⟨fun i hi => ?_, h.2.1, by rw [gI_sI_ne (Or.inl hp)]; exact h.2.2.1, h.2.2.2⟩
  rw [gA_sI]
  exact h.1 i hi
theorem jB_st {R : Nat → Int32} {n p : Nat} {x v : Int} {es es' : PH} (h : jB R n es) (hst : stP p x v es es') (hp : 2 ≠ p) : jB R n es' := by
  rw [hst.2.2]
  exact jB_sA h hp
def lrP (R : Nat → Int32) (x : Int) (_ : PH) (v : Int) : Prop := (v = 0 ∨ v = 1) ∧ (v = 1 ↔ zLe (zR R x.toNat) = true)
def dgP (R : Nat → Int32) (x : Int) (_ : PH) (v : Int) : Prop := (v = 0 ∨ v = 1) ∧ (v = 1 ↔ zDi (zR R x.toNat) = true)
def woP (R : Nat → Int32) (x y : Int) (_ : PH) (v : Int) : Prop := v = zWcod (zR R) x.toNat y.toNat
theorem woP_rng {R : Nat → Int32} {x y v : Int} {es : PH} (h : woP R x y es v) : -3000 ≤ v ∧ v ≤ -1 := by
  unfold woP at h
  rcases zWcod_bd (c := zR R) (p := x.toNat) (e := y.toNat) with h1 | h1 <;> omega
theorem s_ltr0 {O : pOut} {d kc ks : Nat} {Q : pRes → Prop} {es : PH} {R : Nat → Int32} {n0 : Nat} {i : Int} (hs_es : sh es) (hi : 0 ≤ i ∧ i ≤ 399) (hT_es : hOK tT es) (hr_es : jB R n0 es)
    (K1 : ∀ v1 : Int, atP 2 i es v1 → v1 < 97 → Q (.inl (some (.int (zI 0))), es, kc, ks))
    (K2 : ∀ v1 : Int, atP 2 i es v1 → ¬ (v1 < 97) → ∀ v3 : Int, atP 2 i es v3 → 122 < v3 → Q (.inl (some (.int (zI 0))), es, kc, ks))
    (K3 : ∀ v1 : Int, atP 2 i es v1 → ¬ (v1 < 97) → ∀ v3 : Int, atP 2 i es v3 → ¬ (122 < v3) → Q (.inl (some (.int (zI 1))), es, kc, ks)) :
    aW O (d + 1) 82 kc ks Q (0, [some (.ref 67), some (.int (zI i))], [], es) := by
  refine x0 (r := (1, [some (.ref 67), some (.int (zI i))], [.ref 67], es)) i_82_0 rfl ?_
  refine x_getr (p := 3) (k := 65) i_82_1 hs_es rfl rfl ?_
  show aW _ _ _ _ _ _ (4, [some (.ref 67), some (.int (zI i))], [.ref 65], es)
  refine x_getr (p := 1) (k := 66) i_82_4 hs_es rfl rfl ?_
  show aW _ _ _ _ _ _ (7, [some (.ref 67), some (.int (zI i))], [.ref 66], es)
  refine x0 (r := (8, [some (.ref 67), some (.int (zI i))], [.int (zI i), .ref 66], es)) i_82_7 rfl ?_
  refine x_call (vs := [.ref 66, .int (zI i)]) (rs := []) i_82_8 rfl (fun _ => rfl) rfl rfl rfl rfl rfl rfl ?_
  show aW _ _ _ _ _ _ (0, [some (.ref 66), some (.int (zI i))], [], es)
  refine at_sp (p := 2) rfl hs_es (by omega) (by omega) (by decide) (fun v1 p_v1 => ?_)
  have r_v1 := atP_rng p_v1
  show aW _ _ _ _ _ _ (11, [some (.ref 67), some (.int (zI i))], [.int (zI v1)], es)
  refine x0 (r := (13, [some (.ref 67), some (.int (zI i))], [.int (zI 97), .int (zI v1)], es)) i_82_11 (by rfl) ?_
  by_cases c2 : v1 < 97
  · refine x_cmpT i_82_13 (by unfold i32 iLO iHI; omega) (by unfold i32 iLO iHI; omega) rfl (by simp only [zC, cR]; omega) ?_
    refine x0 (r := (37, [some (.ref 67), some (.int (zI i))], [.int (zI 0)], es)) i_82_36 (by rfl) ?_
    refine x_ret (v := some (.int (zI 0))) i_82_37 rfl (fun _ => rfl) rfl rfl (pFin_b (by omega)) ?_
    exact K1 v1 p_v1 c2
  · refine x_cmpF i_82_13 (by unfold i32 iLO iHI; omega) (by unfold i32 iLO iHI; omega) rfl (by simp only [zC, cR]; omega) ?_
    refine x0 (r := (17, [some (.ref 67), some (.int (zI i))], [.ref 67], es)) i_82_16 rfl ?_
    refine x_getr (p := 3) (k := 65) i_82_17 hs_es rfl rfl ?_
    show aW _ _ _ _ _ _ (20, [some (.ref 67), some (.int (zI i))], [.ref 65], es)
    refine x_getr (p := 1) (k := 66) i_82_20 hs_es rfl rfl ?_
    show aW _ _ _ _ _ _ (23, [some (.ref 67), some (.int (zI i))], [.ref 66], es)
    refine x0 (r := (24, [some (.ref 67), some (.int (zI i))], [.int (zI i), .ref 66], es)) i_82_23 rfl ?_
    refine x_call (vs := [.ref 66, .int (zI i)]) (rs := []) i_82_24 rfl (fun _ => rfl) rfl rfl rfl rfl rfl rfl ?_
    show aW _ _ _ _ _ _ (0, [some (.ref 66), some (.int (zI i))], [], es)
    refine at_sp (p := 2) rfl hs_es (by omega) (by omega) (by decide) (fun v3 p_v3 => ?_)
    have r_v3 := atP_rng p_v3
    show aW _ _ _ _ _ _ (27, [some (.ref 67), some (.int (zI i))], [.int (zI v3)], es)
    refine x0 (r := (29, [some (.ref 67), some (.int (zI i))], [.int (zI 122), .int (zI v3)], es)) i_82_27 (by rfl) ?_
    by_cases c4 : 122 < v3
    · refine x_cmpT i_82_29 (by unfold i32 iLO iHI; omega) (by unfold i32 iLO iHI; omega) rfl (by simp only [zC, cR]; omega) ?_
      refine x0 (r := (37, [some (.ref 67), some (.int (zI i))], [.int (zI 0)], es)) i_82_36 (by rfl) ?_
      refine x_ret (v := some (.int (zI 0))) i_82_37 rfl (fun _ => rfl) rfl rfl (pFin_b (by omega)) ?_
      exact K2 v1 p_v1 c2 v3 p_v3 c4
    · refine x_cmpF i_82_29 (by unfold i32 iLO iHI; omega) (by unfold i32 iLO iHI; omega) rfl (by simp only [zC, cR]; omega) ?_
      refine x0 (r := (33, [some (.ref 67), some (.int (zI i))], [.int (zI 1)], es)) i_82_32 (by rfl) ?_
      refine x0 (r := (37, [some (.ref 67), some (.int (zI i))], [.int (zI 1)], es)) i_82_33 rfl ?_
      refine x_ret (v := some (.int (zI 1))) i_82_37 rfl (fun _ => rfl) rfl rfl (pFin_b (by omega)) ?_
      exact K3 v1 p_v1 c2 v3 p_v3 c4
theorem s_dgt0 {O : pOut} {d kc ks : Nat} {Q : pRes → Prop} {es : PH} {R : Nat → Int32} {n0 : Nat} {i : Int} (hs_es : sh es) (hi : 0 ≤ i ∧ i ≤ 399) (hT_es : hOK tT es) (hr_es : jB R n0 es)
    (K1 : ∀ v1 : Int, atP 2 i es v1 → v1 < 48 → Q (.inl (some (.int (zI 0))), es, kc, ks))
    (K2 : ∀ v1 : Int, atP 2 i es v1 → ¬ (v1 < 48) → ∀ v3 : Int, atP 2 i es v3 → 57 < v3 → Q (.inl (some (.int (zI 0))), es, kc, ks))
    (K3 : ∀ v1 : Int, atP 2 i es v1 → ¬ (v1 < 48) → ∀ v3 : Int, atP 2 i es v3 → ¬ (57 < v3) → Q (.inl (some (.int (zI 1))), es, kc, ks)) :
    aW O (d + 1) 83 kc ks Q (0, [some (.ref 67), some (.int (zI i))], [], es) := by
  refine x0 (r := (1, [some (.ref 67), some (.int (zI i))], [.ref 67], es)) i_83_0 rfl ?_
  refine x_getr (p := 3) (k := 65) i_83_1 hs_es rfl rfl ?_
  show aW _ _ _ _ _ _ (4, [some (.ref 67), some (.int (zI i))], [.ref 65], es)
  refine x_getr (p := 1) (k := 66) i_83_4 hs_es rfl rfl ?_
  show aW _ _ _ _ _ _ (7, [some (.ref 67), some (.int (zI i))], [.ref 66], es)
  refine x0 (r := (8, [some (.ref 67), some (.int (zI i))], [.int (zI i), .ref 66], es)) i_83_7 rfl ?_
  refine x_call (vs := [.ref 66, .int (zI i)]) (rs := []) i_83_8 rfl (fun _ => rfl) rfl rfl rfl rfl rfl rfl ?_
  show aW _ _ _ _ _ _ (0, [some (.ref 66), some (.int (zI i))], [], es)
  refine at_sp (p := 2) rfl hs_es (by omega) (by omega) (by decide) (fun v1 p_v1 => ?_)
  have r_v1 := atP_rng p_v1
  show aW _ _ _ _ _ _ (11, [some (.ref 67), some (.int (zI i))], [.int (zI v1)], es)
  refine x0 (r := (13, [some (.ref 67), some (.int (zI i))], [.int (zI 48), .int (zI v1)], es)) i_83_11 (by rfl) ?_
  by_cases c2 : v1 < 48
  · refine x_cmpT i_83_13 (by unfold i32 iLO iHI; omega) (by unfold i32 iLO iHI; omega) rfl (by simp only [zC, cR]; omega) ?_
    refine x0 (r := (37, [some (.ref 67), some (.int (zI i))], [.int (zI 0)], es)) i_83_36 (by rfl) ?_
    refine x_ret (v := some (.int (zI 0))) i_83_37 rfl (fun _ => rfl) rfl rfl (pFin_b (by omega)) ?_
    exact K1 v1 p_v1 c2
  · refine x_cmpF i_83_13 (by unfold i32 iLO iHI; omega) (by unfold i32 iLO iHI; omega) rfl (by simp only [zC, cR]; omega) ?_
    refine x0 (r := (17, [some (.ref 67), some (.int (zI i))], [.ref 67], es)) i_83_16 rfl ?_
    refine x_getr (p := 3) (k := 65) i_83_17 hs_es rfl rfl ?_
    show aW _ _ _ _ _ _ (20, [some (.ref 67), some (.int (zI i))], [.ref 65], es)
    refine x_getr (p := 1) (k := 66) i_83_20 hs_es rfl rfl ?_
    show aW _ _ _ _ _ _ (23, [some (.ref 67), some (.int (zI i))], [.ref 66], es)
    refine x0 (r := (24, [some (.ref 67), some (.int (zI i))], [.int (zI i), .ref 66], es)) i_83_23 rfl ?_
    refine x_call (vs := [.ref 66, .int (zI i)]) (rs := []) i_83_24 rfl (fun _ => rfl) rfl rfl rfl rfl rfl rfl ?_
    show aW _ _ _ _ _ _ (0, [some (.ref 66), some (.int (zI i))], [], es)
    refine at_sp (p := 2) rfl hs_es (by omega) (by omega) (by decide) (fun v3 p_v3 => ?_)
    have r_v3 := atP_rng p_v3
    show aW _ _ _ _ _ _ (27, [some (.ref 67), some (.int (zI i))], [.int (zI v3)], es)
    refine x0 (r := (29, [some (.ref 67), some (.int (zI i))], [.int (zI 57), .int (zI v3)], es)) i_83_27 (by rfl) ?_
    by_cases c4 : 57 < v3
    · refine x_cmpT i_83_29 (by unfold i32 iLO iHI; omega) (by unfold i32 iLO iHI; omega) rfl (by simp only [zC, cR]; omega) ?_
      refine x0 (r := (37, [some (.ref 67), some (.int (zI i))], [.int (zI 0)], es)) i_83_36 (by rfl) ?_
      refine x_ret (v := some (.int (zI 0))) i_83_37 rfl (fun _ => rfl) rfl rfl (pFin_b (by omega)) ?_
      exact K2 v1 p_v1 c2 v3 p_v3 c4
    · refine x_cmpF i_83_29 (by unfold i32 iLO iHI; omega) (by unfold i32 iLO iHI; omega) rfl (by simp only [zC, cR]; omega) ?_
      refine x0 (r := (33, [some (.ref 67), some (.int (zI i))], [.int (zI 1)], es)) i_83_32 (by rfl) ?_
      refine x0 (r := (37, [some (.ref 67), some (.int (zI i))], [.int (zI 1)], es)) i_83_33 rfl ?_
      refine x_ret (v := some (.int (zI 1))) i_83_37 rfl (fun _ => rfl) rfl rfl (pFin_b (by omega)) ?_
      exact K3 v1 p_v1 c2 v3 p_v3 c4
section
variable {O : pOut} {d kc ks : Nat} {Q : pRes → Prop} {es : PH} {R : Nat → Int32} {n : Nat}
theorem jB_at (hj : jB R n es) {x v : Int} (h0 : 0 ≤ x) (h1 : x ≤ 399) (h : atP 2 x es v) : v = zU8 (zR R x.toNat) ∧ -128 ≤ zR R x.toNat ∧ zR R x.toNat ≤ 127 := by
  have h2 := hj.1 x.toNat (by omega)
  have h3 := hj.2.1 x.toNat (by omega)
  unfold atP at h
  exact ⟨by rw [h, h2], h3.1, h3.2⟩
theorem lr_spec {i : Int} (hs : sh es) (hT : hOK tT es) (hj : jB R n es) (hi : 0 ≤ i ∧ i ≤ 399) (K : ∀ v, lrP R i es v → Q (.inl (some (.int (zI v))), es, kc, ks)) : aW O (d + 1) 82 kc ks Q (0, [some (.ref 67), some (.int (zI i))], [], es) := by
  refine s_ltr0 (d := d) hs hi hT hj (fun v1 p1 h1 => ?_) (fun v1 p1 h1 v3 p3 h3 => ?_) (fun v1 p1 h1 v3 p3 h3 => ?_)
  · obtain ⟨a1, a2, a3⟩ := jB_at hj hi.1 hi.2 p1
    have h8 := zU8_in (lo := 97) (hi := 122) a2 a3 (by omega) (by omega)
    refine K 0 ⟨Or.inl rfl, ?_⟩
    rw [zLe_iff]
    omega
  · obtain ⟨a1, a2, a3⟩ := jB_at hj hi.1 hi.2 p3
    have h8 := zU8_in (lo := 97) (hi := 122) a2 a3 (by omega) (by omega)
    refine K 0 ⟨Or.inl rfl, ?_⟩
    rw [zLe_iff]
    omega
  · obtain ⟨a1, a2, a3⟩ := jB_at hj hi.1 hi.2 p3
    obtain ⟨b1, b2, b3⟩ := jB_at hj hi.1 hi.2 p1
    have h8 := zU8_in (lo := 97) (hi := 122) a2 a3 (by omega) (by omega)
    refine K 1 ⟨Or.inr rfl, ?_⟩
    rw [zLe_iff]
    omega
theorem dg_spec {i : Int} (hs : sh es) (hT : hOK tT es) (hj : jB R n es) (hi : 0 ≤ i ∧ i ≤ 399) (K : ∀ v, dgP R i es v → Q (.inl (some (.int (zI v))), es, kc, ks)) : aW O (d + 1) 83 kc ks Q (0, [some (.ref 67), some (.int (zI i))], [], es) := by
  refine s_dgt0 (d := d) hs hi hT hj (fun v1 p1 h1 => ?_) (fun v1 p1 h1 v3 p3 h3 => ?_) (fun v1 p1 h1 v3 p3 h3 => ?_)
  · obtain ⟨a1, a2, a3⟩ := jB_at hj hi.1 hi.2 p1
    have h8 := zU8_in (lo := 48) (hi := 57) a2 a3 (by omega) (by omega)
    refine K 0 ⟨Or.inl rfl, ?_⟩
    rw [zDi_iff]
    omega
  · obtain ⟨a1, a2, a3⟩ := jB_at hj hi.1 hi.2 p3
    have h8 := zU8_in (lo := 48) (hi := 57) a2 a3 (by omega) (by omega)
    refine K 0 ⟨Or.inl rfl, ?_⟩
    rw [zDi_iff]
    omega
  · obtain ⟨a1, a2, a3⟩ := jB_at hj hi.1 hi.2 p3
    obtain ⟨b1, b2, b3⟩ := jB_at hj hi.1 hi.2 p1
    have h8 := zU8_in (lo := 48) (hi := 57) a2 a3 (by omega) (by omega)
    refine K 1 ⟨Or.inr rfl, ?_⟩
    rw [zDi_iff]
    omega
end
theorem s_bt0 {O : pOut} {d kc ks : Nat} {Q : pRes → Prop} {es : PH} {R : Nat → Int32} {n0 : Nat} {b : Int} (hs_es : sh es) (hb : 0 ≤ b ∧ b ≤ 399) (hT_es : hOK tT es) (hr_es : jB R n0 es)
    (K1 : ∀ v1 : Int, lrP R b es v1 → v1 = 0 → ∀ v3 : Int, dgP R b es v3 → v3 = 0 → Q (.inl (some (.int (zI (b + 1)))), es, kc, ks))
    (K2 : ∀ v1 : Int, lrP R b es v1 → v1 = 0 → ∀ v3 : Int, dgP R b es v3 → ¬ (v3 = 0) → aW O (d + 2) 81 kc ks Q (45, [some (.ref 67), some (.int (zI b)), some (.int (zI (b + 1)))], [], es))
    (K3 : ∀ v1 : Int, lrP R b es v1 → ¬ (v1 = 0) → aW O (d + 2) 81 kc ks Q (12, [some (.ref 67), some (.int (zI b)), some (.int (zI (b + 1)))], [], es)) :
    aW O (d + 2) 81 kc ks Q (0, [some (.ref 67), some (.int (zI b)), none], [], es) := by
  refine x0 (r := (1, [some (.ref 67), some (.int (zI b)), none], [.int (zI b)], es)) i_81_0 rfl ?_
  refine x0 (r := (2, [some (.ref 67), some (.int (zI b)), none], [.int (zI 1), .int (zI b)], es)) i_81_1 (by rfl) ?_
  refine x_iadd i_81_2 ?_
  refine x0 (r := (4, [some (.ref 67), some (.int (zI b)), some (.int (zI (b + 1)))], [], es)) i_81_3 rfl ?_
  refine x0 (r := (5, [some (.ref 67), some (.int (zI b)), some (.int (zI (b + 1)))], [.ref 67], es)) i_81_4 rfl ?_
  refine x0 (r := (6, [some (.ref 67), some (.int (zI b)), some (.int (zI (b + 1)))], [.int (zI b), .ref 67], es)) i_81_5 rfl ?_
  refine x_call (vs := [.ref 67, .int (zI b)]) (rs := []) i_81_6 rfl (fun _ => rfl) rfl rfl rfl rfl rfl (pCall_v (p := 3) hs_es rfl rfl rfl rfl rfl (by decide) rfl rfl rfl rfl rfl) ?_
  show aW _ _ _ _ _ _ (0, [some (.ref 67), some (.int (zI b))], [], es)
  refine lr_spec hs_es hT_es hr_es (by omega) (fun v1 p_v1 => ?_)
  have r_v1 := p_v1.1
  show aW _ _ _ _ _ _ (9, [some (.ref 67), some (.int (zI b)), some (.int (zI (b + 1)))], [.int (zI v1)], es)
  by_cases c2 : v1 = 0
  · refine x_ifT i_81_9 (by unfold i32 iLO iHI; omega) rfl (by simp only [zC, cR]; omega) ?_
    refine x0 (r := (38, [some (.ref 67), some (.int (zI b)), some (.int (zI (b + 1)))], [.ref 67], es)) i_81_37 rfl ?_
    refine x0 (r := (39, [some (.ref 67), some (.int (zI b)), some (.int (zI (b + 1)))], [.int (zI b), .ref 67], es)) i_81_38 rfl ?_
    refine x_call (vs := [.ref 67, .int (zI b)]) (rs := []) i_81_39 rfl (fun _ => rfl) rfl rfl rfl rfl rfl (pCall_v (p := 3) hs_es rfl rfl rfl rfl rfl (by decide) rfl rfl rfl rfl rfl) ?_
    show aW _ _ _ _ _ _ (0, [some (.ref 67), some (.int (zI b))], [], es)
    refine dg_spec hs_es hT_es hr_es (by omega) (fun v3 p_v3 => ?_)
    have r_v3 := p_v3.1
    show aW _ _ _ _ _ _ (42, [some (.ref 67), some (.int (zI b)), some (.int (zI (b + 1)))], [.int (zI v3)], es)
    by_cases c4 : v3 = 0
    · refine x_ifT i_81_42 (by unfold i32 iLO iHI; omega) rfl (by simp only [zC, cR]; omega) ?_
      refine x0 (r := (71, [some (.ref 67), some (.int (zI b)), some (.int (zI (b + 1)))], [.int (zI (b + 1))], es)) i_81_70 rfl ?_
      refine x_ret (v := some (.int (zI (b + 1)))) i_81_71 rfl (fun _ => rfl) rfl rfl rfl ?_
      exact K1 v1 p_v1 c2 v3 p_v3 c4
    · refine x_ifF i_81_42 (by unfold i32 iLO iHI; omega) rfl (by simp only [zC, cR]; omega) ?_
      exact K2 v1 p_v1 c2 v3 p_v3 c4
  · refine x_ifF i_81_9 (by unfold i32 iLO iHI; omega) rfl (by simp only [zC, cR]; omega) ?_
    exact K3 v1 p_v1 c2
theorem s_bt12 {O : pOut} {d kc ks : Nat} {Q : pRes → Prop} {es : PH} {R : Nat → Int32} {n0 : Nat} {b i : Int} (hs_es : sh es) (hi : 0 ≤ i ∧ i ≤ 400) (hz : (gI es 1 1).toInt ≤ 400) (hT_es : hOK tT es) (hr_es : jB R n0 es)
    (K1 : ∀ v1 : Int, v1 = (gI es 1 1).toInt → v1 ≤ i → Q (.inl (some (.int (zI i))), es, kc, ks))
    (K2 : ∀ v1 : Int, v1 = (gI es 1 1).toInt → ¬ (v1 ≤ i) → ∀ v3 : Int, lrP R i es v3 → v3 = 0 → Q (.inl (some (.int (zI i))), es, kc, ks))
    (K3 : ∀ v1 : Int, v1 = (gI es 1 1).toInt → ¬ (v1 ≤ i) → ∀ v3 : Int, lrP R i es v3 → ¬ (v3 = 0) → aW O (d + 2) 81 kc ks Q (12, [some (.ref 67), some (.int (zI b)), some (.int (zI (i + 1)))], [], es)) :
    aW O (d + 2) 81 kc ks Q (12, [some (.ref 67), some (.int (zI b)), some (.int (zI i))], [], es) := by
  refine x0 (r := (13, [some (.ref 67), some (.int (zI b)), some (.int (zI i))], [.int (zI i)], es)) i_81_12 rfl ?_
  refine x0 (r := (14, [some (.ref 67), some (.int (zI b)), some (.int (zI i))], [.ref 67, .int (zI i)], es)) i_81_13 rfl ?_
  refine x_getr (p := 3) (k := 65) i_81_14 hs_es rfl rfl ?_
  show aW _ _ _ _ _ _ (17, [some (.ref 67), some (.int (zI b)), some (.int (zI i))], [.ref 65, .int (zI i)], es)
  refine x_geti (p := 1) i_81_17 hs_es rfl rfl ?_
  obtain ⟨v1, e_v1⟩ : ∃ z : Int, z = (gI es 1 1).toInt := ⟨_, rfl⟩
  rw [← e_v1]
  have r_v1 : iLO ≤ v1 ∧ v1 ≤ iHI := by rw [e_v1]; exact i32_rng _
  unfold iLO iHI at r_v1
  by_cases c2 : v1 ≤ i
  · refine x_cmpT i_81_20 (by unfold i32 iLO iHI; omega) (by unfold i32 iLO iHI; omega) rfl (by simp only [zC, cR]; omega) ?_
    refine x0 (r := (71, [some (.ref 67), some (.int (zI b)), some (.int (zI i))], [.int (zI i)], es)) i_81_70 rfl ?_
    refine x_ret (v := some (.int (zI i))) i_81_71 rfl (fun _ => rfl) rfl rfl rfl ?_
    exact K1 v1 e_v1 c2
  · refine x_cmpF i_81_20 (by unfold i32 iLO iHI; omega) (by unfold i32 iLO iHI; omega) rfl (by simp only [zC, cR]; omega) ?_
    refine x0 (r := (24, [some (.ref 67), some (.int (zI b)), some (.int (zI i))], [.ref 67], es)) i_81_23 rfl ?_
    refine x0 (r := (25, [some (.ref 67), some (.int (zI b)), some (.int (zI i))], [.int (zI i), .ref 67], es)) i_81_24 rfl ?_
    refine x_call (vs := [.ref 67, .int (zI i)]) (rs := []) i_81_25 rfl (fun _ => rfl) rfl rfl rfl rfl rfl (pCall_v (p := 3) hs_es rfl rfl rfl rfl rfl (by decide) rfl rfl rfl rfl rfl) ?_
    show aW _ _ _ _ _ _ (0, [some (.ref 67), some (.int (zI i))], [], es)
    refine lr_spec hs_es hT_es hr_es (by omega) (fun v3 p_v3 => ?_)
    have r_v3 := p_v3.1
    show aW _ _ _ _ _ _ (28, [some (.ref 67), some (.int (zI b)), some (.int (zI i))], [.int (zI v3)], es)
    by_cases c4 : v3 = 0
    · refine x_ifT i_81_28 (by unfold i32 iLO iHI; omega) rfl (by simp only [zC, cR]; omega) ?_
      refine x0 (r := (71, [some (.ref 67), some (.int (zI b)), some (.int (zI i))], [.int (zI i)], es)) i_81_70 rfl ?_
      refine x_ret (v := some (.int (zI i))) i_81_71 rfl (fun _ => rfl) rfl rfl rfl ?_
      exact K2 v1 e_v1 c2 v3 p_v3 c4
    · refine x_ifF i_81_28 (by unfold i32 iLO iHI; omega) rfl (by simp only [zC, cR]; omega) ?_
      refine x_iinc (x := i) i_81_31 rfl (by show 2 < 3; decide) ?_
      show aW _ _ _ _ _ _ (34, [some (.ref 67), some (.int (zI b)), some (.int (zI (i + 1)))], [], es)
      refine x0 (r := (12, [some (.ref 67), some (.int (zI b)), some (.int (zI (i + 1)))], [], es)) i_81_34 rfl ?_
      exact K3 v1 e_v1 c2 v3 p_v3 c4
theorem s_bt45 {O : pOut} {d kc ks : Nat} {Q : pRes → Prop} {es : PH} {R : Nat → Int32} {n0 : Nat} {b i : Int} (hs_es : sh es) (hi : 0 ≤ i ∧ i ≤ 400) (hz : (gI es 1 1).toInt ≤ 400) (hT_es : hOK tT es) (hr_es : jB R n0 es)
    (K1 : ∀ v1 : Int, v1 = (gI es 1 1).toInt → v1 ≤ i → Q (.inl (some (.int (zI i))), es, kc, ks))
    (K2 : ∀ v1 : Int, v1 = (gI es 1 1).toInt → ¬ (v1 ≤ i) → ∀ v3 : Int, dgP R i es v3 → v3 = 0 → Q (.inl (some (.int (zI i))), es, kc, ks))
    (K3 : ∀ v1 : Int, v1 = (gI es 1 1).toInt → ¬ (v1 ≤ i) → ∀ v3 : Int, dgP R i es v3 → ¬ (v3 = 0) → aW O (d + 2) 81 kc ks Q (45, [some (.ref 67), some (.int (zI b)), some (.int (zI (i + 1)))], [], es)) :
    aW O (d + 2) 81 kc ks Q (45, [some (.ref 67), some (.int (zI b)), some (.int (zI i))], [], es) := by
  refine x0 (r := (46, [some (.ref 67), some (.int (zI b)), some (.int (zI i))], [.int (zI i)], es)) i_81_45 rfl ?_
  refine x0 (r := (47, [some (.ref 67), some (.int (zI b)), some (.int (zI i))], [.ref 67, .int (zI i)], es)) i_81_46 rfl ?_
  refine x_getr (p := 3) (k := 65) i_81_47 hs_es rfl rfl ?_
  show aW _ _ _ _ _ _ (50, [some (.ref 67), some (.int (zI b)), some (.int (zI i))], [.ref 65, .int (zI i)], es)
  refine x_geti (p := 1) i_81_50 hs_es rfl rfl ?_
  obtain ⟨v1, e_v1⟩ : ∃ z : Int, z = (gI es 1 1).toInt := ⟨_, rfl⟩
  rw [← e_v1]
  have r_v1 : iLO ≤ v1 ∧ v1 ≤ iHI := by rw [e_v1]; exact i32_rng _
  unfold iLO iHI at r_v1
  by_cases c2 : v1 ≤ i
  · refine x_cmpT i_81_53 (by unfold i32 iLO iHI; omega) (by unfold i32 iLO iHI; omega) rfl (by simp only [zC, cR]; omega) ?_
    refine x0 (r := (71, [some (.ref 67), some (.int (zI b)), some (.int (zI i))], [.int (zI i)], es)) i_81_70 rfl ?_
    refine x_ret (v := some (.int (zI i))) i_81_71 rfl (fun _ => rfl) rfl rfl rfl ?_
    exact K1 v1 e_v1 c2
  · refine x_cmpF i_81_53 (by unfold i32 iLO iHI; omega) (by unfold i32 iLO iHI; omega) rfl (by simp only [zC, cR]; omega) ?_
    refine x0 (r := (57, [some (.ref 67), some (.int (zI b)), some (.int (zI i))], [.ref 67], es)) i_81_56 rfl ?_
    refine x0 (r := (58, [some (.ref 67), some (.int (zI b)), some (.int (zI i))], [.int (zI i), .ref 67], es)) i_81_57 rfl ?_
    refine x_call (vs := [.ref 67, .int (zI i)]) (rs := []) i_81_58 rfl (fun _ => rfl) rfl rfl rfl rfl rfl (pCall_v (p := 3) hs_es rfl rfl rfl rfl rfl (by decide) rfl rfl rfl rfl rfl) ?_
    show aW _ _ _ _ _ _ (0, [some (.ref 67), some (.int (zI i))], [], es)
    refine dg_spec hs_es hT_es hr_es (by omega) (fun v3 p_v3 => ?_)
    have r_v3 := p_v3.1
    show aW _ _ _ _ _ _ (61, [some (.ref 67), some (.int (zI b)), some (.int (zI i))], [.int (zI v3)], es)
    by_cases c4 : v3 = 0
    · refine x_ifT i_81_61 (by unfold i32 iLO iHI; omega) rfl (by simp only [zC, cR]; omega) ?_
      refine x0 (r := (71, [some (.ref 67), some (.int (zI b)), some (.int (zI i))], [.int (zI i)], es)) i_81_70 rfl ?_
      refine x_ret (v := some (.int (zI i))) i_81_71 rfl (fun _ => rfl) rfl rfl rfl ?_
      exact K2 v1 e_v1 c2 v3 p_v3 c4
    · refine x_ifF i_81_61 (by unfold i32 iLO iHI; omega) rfl (by simp only [zC, cR]; omega) ?_
      refine x_iinc (x := i) i_81_64 rfl (by show 2 < 3; decide) ?_
      show aW _ _ _ _ _ _ (67, [some (.ref 67), some (.int (zI b)), some (.int (zI (i + 1)))], [], es)
      refine x0 (r := (45, [some (.ref 67), some (.int (zI b)), some (.int (zI (i + 1)))], [], es)) i_81_67 rfl ?_
      exact K3 v1 e_v1 c2 v3 p_v3 c4
theorem s_wo0 {O : pOut} {d kc ks : Nat} {Q : pRes → Prop} {es : PH} {R : Nat → Int32} {n0 : Nat} {b e : Int} (hs_es : sh es) (hT_es : hOK tT es) (hr_es : jB R n0 es)
    (K1 : aW O d 85 kc ks Q (8, [some (.ref 67), some (.int (zI b)), some (.int (zI e)), some (.int (zI (-1))), some (.int (zI b)), some (.int (zI 0))], [], es)) :
    aW O d 85 kc ks Q (0, [some (.ref 67), some (.int (zI b)), some (.int (zI e)), none, none, none], [], es) := by
  refine x0 (r := (1, [some (.ref 67), some (.int (zI b)), some (.int (zI e)), none, none, none], [.int (zI (-1))], es)) i_85_0 (by rfl) ?_
  refine x0 (r := (2, [some (.ref 67), some (.int (zI b)), some (.int (zI e)), some (.int (zI (-1))), none, none], [], es)) i_85_1 rfl ?_
  refine x0 (r := (3, [some (.ref 67), some (.int (zI b)), some (.int (zI e)), some (.int (zI (-1))), none, none], [.int (zI b)], es)) i_85_2 rfl ?_
  refine x0 (r := (5, [some (.ref 67), some (.int (zI b)), some (.int (zI e)), some (.int (zI (-1))), some (.int (zI b)), none], [], es)) i_85_3 rfl ?_
  refine x0 (r := (6, [some (.ref 67), some (.int (zI b)), some (.int (zI e)), some (.int (zI (-1))), some (.int (zI b)), none], [.int (zI 0)], es)) i_85_5 (by rfl) ?_
  refine x0 (r := (8, [some (.ref 67), some (.int (zI b)), some (.int (zI e)), some (.int (zI (-1))), some (.int (zI b)), some (.int (zI 0))], [], es)) i_85_6 rfl ?_
  exact K1
theorem s_wo8 {O : pOut} {d kc ks : Nat} {Q : pRes → Prop} {es : PH} {R : Nat → Int32} {n0 : Nat} {b e w i k : Int} (hs_es : sh es) (hk : 0 ≤ k ∧ k ≤ 86) (hb : 0 ≤ b ∧ b ≤ 399) (he : 0 ≤ e ∧ e ≤ 400) (hi : 0 ≤ i ∧ i ≤ 401) (hT_es : hOK tT es) (hr_es : jB R n0 es)
    (K1 : 82 ≤ k → Q (.inl (some (.int (zI (-3000)))), es, kc, ks))
    (K2 : ¬ (82 ≤ k) → ∀ v2 : Int, v2 = (((pTX.getD 0 []).getD k.toNat 0 : Nat) : Int) → v2 ≠ 32 → e ≤ i → aW O (d + 1) 85 kc ks Q (8, [some (.ref 67), some (.int (zI b)), some (.int (zI e)), some (.int (zI w)), some (.int (zI (e + 1))), some (.int (zI (k + 1)))], [], es))
    (K3 : ¬ (82 ≤ k) → ∀ v2 : Int, v2 = (((pTX.getD 0 []).getD k.toNat 0 : Nat) : Int) → v2 ≠ 32 → ¬ (e ≤ i) → ∀ v5 : Int, atP 2 i es v5 → ∀ v6 : Int, v6 = (((pTX.getD 0 []).getD k.toNat 0 : Nat) : Int) → v5 ≠ v6 → aW O (d + 1) 85 kc ks Q (8, [some (.ref 67), some (.int (zI b)), some (.int (zI e)), some (.int (zI w)), some (.int (zI (e + 1))), some (.int (zI (k + 1)))], [], es))
    (K4 : ¬ (82 ≤ k) → ∀ v2 : Int, v2 = (((pTX.getD 0 []).getD k.toNat 0 : Nat) : Int) → v2 ≠ 32 → ¬ (e ≤ i) → ∀ v5 : Int, atP 2 i es v5 → ∀ v6 : Int, v6 = (((pTX.getD 0 []).getD k.toNat 0 : Nat) : Int) → ¬ (v5 ≠ v6) → aW O (d + 1) 85 kc ks Q (8, [some (.ref 67), some (.int (zI b)), some (.int (zI e)), some (.int (zI w)), some (.int (zI (i + 1))), some (.int (zI (k + 1)))], [], es))
    (K5 : ¬ (82 ≤ k) → ∀ v2 : Int, v2 = (((pTX.getD 0 []).getD k.toNat 0 : Nat) : Int) → ¬ (v2 ≠ 32) → i ≠ e → aW O (d + 1) 85 kc ks Q (8, [some (.ref 67), some (.int (zI b)), some (.int (zI e)), some (.int (zI (w + (-1)))), some (.int (zI b)), some (.int (zI (k + 1)))], [], es))
    (K6 : ¬ (82 ≤ k) → ∀ v2 : Int, v2 = (((pTX.getD 0 []).getD k.toNat 0 : Nat) : Int) → ¬ (v2 ≠ 32) → ¬ (i ≠ e) → Q (.inl (some (.int (zI w))), es, kc, ks)) :
    aW O (d + 1) 85 kc ks Q (8, [some (.ref 67), some (.int (zI b)), some (.int (zI e)), some (.int (zI w)), some (.int (zI i)), some (.int (zI k))], [], es) := by
  refine x0 (r := (10, [some (.ref 67), some (.int (zI b)), some (.int (zI e)), some (.int (zI w)), some (.int (zI i)), some (.int (zI k))], [.int (zI k)], es)) i_85_8 rfl ?_
  refine x1 (r := (12, [some (.ref 67), some (.int (zI b)), some (.int (zI e)), some (.int (zI w)), some (.int (zI i)), some (.int (zI k))], [.ref 8, .int (zI k)], es)) i_85_10 rfl (fun _ => rfl) rfl ?_
  refine x_len i_85_12 (k := 8) (by decide) rfl (n := 82) (by decide) (Nat.le_of_ble_eq_true rfl) ?_
  by_cases c1 : 82 ≤ k
  · refine x_cmpT i_85_15 (by unfold i32 iLO iHI; omega) (by unfold i32 iLO iHI; omega) rfl (by simp only [zC, cR]; omega) ?_
    refine x0 (r := (96, [some (.ref 67), some (.int (zI b)), some (.int (zI e)), some (.int (zI w)), some (.int (zI i)), some (.int (zI k))], [.int (zI (-3000))], es)) i_85_93 (by rfl) ?_
    refine x_ret (v := some (.int (zI (-3000)))) i_85_96 rfl (fun _ => rfl) rfl rfl rfl ?_
    exact K1 c1
  · refine x_cmpF i_85_15 (by unfold i32 iLO iHI; omega) (by unfold i32 iLO iHI; omega) rfl (by simp only [zC, cR]; omega) ?_
    refine x1 (r := (20, [some (.ref 67), some (.int (zI b)), some (.int (zI e)), some (.int (zI w)), some (.int (zI i)), some (.int (zI k))], [.ref 8], es)) i_85_18 rfl (fun _ => rfl) rfl ?_
    refine x0 (r := (22, [some (.ref 67), some (.int (zI b)), some (.int (zI e)), some (.int (zI w)), some (.int (zI i)), some (.int (zI k))], [.int (zI k), .ref 8], es)) i_85_20 rfl ?_
    refine x_chr (t := (pTX.getD 0 [])) i_85_22 (k := 8) (by decide) rfl (by unfold i32 iLO iHI; omega) (by omega) (by show _ < (82 : Int); omega) (by decide) (Nat.le_of_ble_eq_true rfl) ?_
    obtain ⟨v2, e_v2⟩ : ∃ z : Int, z = (((pTX.getD 0 []).getD k.toNat 0 : Nat) : Int) := ⟨_, rfl⟩
    rw [← e_v2]
    have b_v2 : 0 ≤ v2 ∧ v2 ≤ 127 := by rw [e_v2]; exact chr_bd (by decide)
    refine x0 (r := (27, [some (.ref 67), some (.int (zI b)), some (.int (zI e)), some (.int (zI w)), some (.int (zI i)), some (.int (zI k))], [.int (zI 32), .int (zI v2)], es)) i_85_25 (by rfl) ?_
    by_cases c3 : v2 ≠ 32
    · refine x_cmpT i_85_27 (by unfold i32 iLO iHI; omega) (by unfold i32 iLO iHI; omega) rfl (by simp only [zC, cR]; omega) ?_
      refine x0 (r := (49, [some (.ref 67), some (.int (zI b)), some (.int (zI e)), some (.int (zI w)), some (.int (zI i)), some (.int (zI k))], [.int (zI i)], es)) i_85_47 rfl ?_
      refine x0 (r := (50, [some (.ref 67), some (.int (zI b)), some (.int (zI e)), some (.int (zI w)), some (.int (zI i)), some (.int (zI k))], [.int (zI e), .int (zI i)], es)) i_85_49 rfl ?_
      by_cases c4 : e ≤ i
      · refine x_cmpT i_85_50 (by unfold i32 iLO iHI; omega) (by unfold i32 iLO iHI; omega) rfl (by simp only [zC, cR]; omega) ?_
        refine x0 (r := (83, [some (.ref 67), some (.int (zI b)), some (.int (zI e)), some (.int (zI w)), some (.int (zI i)), some (.int (zI k))], [.int (zI e)], es)) i_85_82 rfl ?_
        refine x0 (r := (84, [some (.ref 67), some (.int (zI b)), some (.int (zI e)), some (.int (zI w)), some (.int (zI i)), some (.int (zI k))], [.int (zI 1), .int (zI e)], es)) i_85_83 (by rfl) ?_
        refine x_iadd i_85_84 ?_
        refine x0 (r := (87, [some (.ref 67), some (.int (zI b)), some (.int (zI e)), some (.int (zI w)), some (.int (zI (e + 1))), some (.int (zI k))], [], es)) i_85_85 rfl ?_
        refine x_iinc (x := k) i_85_87 rfl (by show 5 < 6; decide) ?_
        show aW _ _ _ _ _ _ (90, [some (.ref 67), some (.int (zI b)), some (.int (zI e)), some (.int (zI w)), some (.int (zI (e + 1))), some (.int (zI (k + 1)))], [], es)
        refine x0 (r := (8, [some (.ref 67), some (.int (zI b)), some (.int (zI e)), some (.int (zI w)), some (.int (zI (e + 1))), some (.int (zI (k + 1)))], [], es)) i_85_90 rfl ?_
        exact K2 c1 v2 e_v2 c3 c4
      · refine x_cmpF i_85_50 (by unfold i32 iLO iHI; omega) (by unfold i32 iLO iHI; omega) rfl (by simp only [zC, cR]; omega) ?_
        refine x0 (r := (54, [some (.ref 67), some (.int (zI b)), some (.int (zI e)), some (.int (zI w)), some (.int (zI i)), some (.int (zI k))], [.ref 67], es)) i_85_53 rfl ?_
        refine x_getr (p := 3) (k := 65) i_85_54 hs_es rfl rfl ?_
        show aW _ _ _ _ _ _ (57, [some (.ref 67), some (.int (zI b)), some (.int (zI e)), some (.int (zI w)), some (.int (zI i)), some (.int (zI k))], [.ref 65], es)
        refine x_getr (p := 1) (k := 66) i_85_57 hs_es rfl rfl ?_
        show aW _ _ _ _ _ _ (60, [some (.ref 67), some (.int (zI b)), some (.int (zI e)), some (.int (zI w)), some (.int (zI i)), some (.int (zI k))], [.ref 66], es)
        refine x0 (r := (62, [some (.ref 67), some (.int (zI b)), some (.int (zI e)), some (.int (zI w)), some (.int (zI i)), some (.int (zI k))], [.int (zI i), .ref 66], es)) i_85_60 rfl ?_
        refine x_call (vs := [.ref 66, .int (zI i)]) (rs := []) i_85_62 rfl (fun _ => rfl) rfl rfl rfl rfl rfl rfl ?_
        show aW _ _ _ _ _ _ (0, [some (.ref 66), some (.int (zI i))], [], es)
        refine at_sp (p := 2) rfl hs_es (by omega) (by omega) (by decide) (fun v5 p_v5 => ?_)
        have r_v5 := atP_rng p_v5
        show aW _ _ _ _ _ _ (65, [some (.ref 67), some (.int (zI b)), some (.int (zI e)), some (.int (zI w)), some (.int (zI i)), some (.int (zI k))], [.int (zI v5)], es)
        refine x1 (r := (67, [some (.ref 67), some (.int (zI b)), some (.int (zI e)), some (.int (zI w)), some (.int (zI i)), some (.int (zI k))], [.ref 8, .int (zI v5)], es)) i_85_65 rfl (fun _ => rfl) rfl ?_
        refine x0 (r := (69, [some (.ref 67), some (.int (zI b)), some (.int (zI e)), some (.int (zI w)), some (.int (zI i)), some (.int (zI k))], [.int (zI k), .ref 8, .int (zI v5)], es)) i_85_67 rfl ?_
        refine x_chr (t := (pTX.getD 0 [])) i_85_69 (k := 8) (by decide) rfl (by unfold i32 iLO iHI; omega) (by omega) (by show _ < (82 : Int); omega) (by decide) (Nat.le_of_ble_eq_true rfl) ?_
        obtain ⟨v6, e_v6⟩ : ∃ z : Int, z = (((pTX.getD 0 []).getD k.toNat 0 : Nat) : Int) := ⟨_, rfl⟩
        rw [← e_v6]
        have b_v6 : 0 ≤ v6 ∧ v6 ≤ 127 := by rw [e_v6]; exact chr_bd (by decide)
        by_cases c7 : v5 ≠ v6
        · refine x_cmpT i_85_72 (by unfold i32 iLO iHI; omega) (by unfold i32 iLO iHI; omega) rfl (by simp only [zC, cR]; omega) ?_
          refine x0 (r := (83, [some (.ref 67), some (.int (zI b)), some (.int (zI e)), some (.int (zI w)), some (.int (zI i)), some (.int (zI k))], [.int (zI e)], es)) i_85_82 rfl ?_
          refine x0 (r := (84, [some (.ref 67), some (.int (zI b)), some (.int (zI e)), some (.int (zI w)), some (.int (zI i)), some (.int (zI k))], [.int (zI 1), .int (zI e)], es)) i_85_83 (by rfl) ?_
          refine x_iadd i_85_84 ?_
          refine x0 (r := (87, [some (.ref 67), some (.int (zI b)), some (.int (zI e)), some (.int (zI w)), some (.int (zI (e + 1))), some (.int (zI k))], [], es)) i_85_85 rfl ?_
          refine x_iinc (x := k) i_85_87 rfl (by show 5 < 6; decide) ?_
          show aW _ _ _ _ _ _ (90, [some (.ref 67), some (.int (zI b)), some (.int (zI e)), some (.int (zI w)), some (.int (zI (e + 1))), some (.int (zI (k + 1)))], [], es)
          refine x0 (r := (8, [some (.ref 67), some (.int (zI b)), some (.int (zI e)), some (.int (zI w)), some (.int (zI (e + 1))), some (.int (zI (k + 1)))], [], es)) i_85_90 rfl ?_
          exact K3 c1 v2 e_v2 c3 c4 v5 p_v5 v6 e_v6 c7
        · refine x_cmpF i_85_72 (by unfold i32 iLO iHI; omega) (by unfold i32 iLO iHI; omega) rfl (by simp only [zC, cR]; omega) ?_
          refine x0 (r := (77, [some (.ref 67), some (.int (zI b)), some (.int (zI e)), some (.int (zI w)), some (.int (zI i)), some (.int (zI k))], [.int (zI i)], es)) i_85_75 rfl ?_
          refine x0 (r := (78, [some (.ref 67), some (.int (zI b)), some (.int (zI e)), some (.int (zI w)), some (.int (zI i)), some (.int (zI k))], [.int (zI 1), .int (zI i)], es)) i_85_77 (by rfl) ?_
          refine x_iadd i_85_78 ?_
          refine x0 (r := (85, [some (.ref 67), some (.int (zI b)), some (.int (zI e)), some (.int (zI w)), some (.int (zI i)), some (.int (zI k))], [.int (zI (i + 1))], es)) i_85_79 rfl ?_
          refine x0 (r := (87, [some (.ref 67), some (.int (zI b)), some (.int (zI e)), some (.int (zI w)), some (.int (zI (i + 1))), some (.int (zI k))], [], es)) i_85_85 rfl ?_
          refine x_iinc (x := k) i_85_87 rfl (by show 5 < 6; decide) ?_
          show aW _ _ _ _ _ _ (90, [some (.ref 67), some (.int (zI b)), some (.int (zI e)), some (.int (zI w)), some (.int (zI (i + 1))), some (.int (zI (k + 1)))], [], es)
          refine x0 (r := (8, [some (.ref 67), some (.int (zI b)), some (.int (zI e)), some (.int (zI w)), some (.int (zI (i + 1))), some (.int (zI (k + 1)))], [], es)) i_85_90 rfl ?_
          exact K4 c1 v2 e_v2 c3 c4 v5 p_v5 v6 e_v6 c7
    · refine x_cmpF i_85_27 (by unfold i32 iLO iHI; omega) (by unfold i32 iLO iHI; omega) rfl (by simp only [zC, cR]; omega) ?_
      refine x0 (r := (32, [some (.ref 67), some (.int (zI b)), some (.int (zI e)), some (.int (zI w)), some (.int (zI i)), some (.int (zI k))], [.int (zI i)], es)) i_85_30 rfl ?_
      refine x0 (r := (33, [some (.ref 67), some (.int (zI b)), some (.int (zI e)), some (.int (zI w)), some (.int (zI i)), some (.int (zI k))], [.int (zI e), .int (zI i)], es)) i_85_32 rfl ?_
      by_cases c8 : i ≠ e
      · refine x_cmpT i_85_33 (by unfold i32 iLO iHI; omega) (by unfold i32 iLO iHI; omega) rfl (by simp only [zC, cR]; omega) ?_
        refine x_iinc (x := w) i_85_38 rfl (by show 3 < 6; decide) ?_
        show aW _ _ _ _ _ _ (41, [some (.ref 67), some (.int (zI b)), some (.int (zI e)), some (.int (zI (w + (-1)))), some (.int (zI i)), some (.int (zI k))], [], es)
        refine x0 (r := (42, [some (.ref 67), some (.int (zI b)), some (.int (zI e)), some (.int (zI (w + (-1)))), some (.int (zI i)), some (.int (zI k))], [.int (zI b)], es)) i_85_41 rfl ?_
        refine x0 (r := (44, [some (.ref 67), some (.int (zI b)), some (.int (zI e)), some (.int (zI (w + (-1)))), some (.int (zI b)), some (.int (zI k))], [], es)) i_85_42 rfl ?_
        refine x0 (r := (87, [some (.ref 67), some (.int (zI b)), some (.int (zI e)), some (.int (zI (w + (-1)))), some (.int (zI b)), some (.int (zI k))], [], es)) i_85_44 rfl ?_
        refine x_iinc (x := k) i_85_87 rfl (by show 5 < 6; decide) ?_
        show aW _ _ _ _ _ _ (90, [some (.ref 67), some (.int (zI b)), some (.int (zI e)), some (.int (zI (w + (-1)))), some (.int (zI b)), some (.int (zI (k + 1)))], [], es)
        refine x0 (r := (8, [some (.ref 67), some (.int (zI b)), some (.int (zI e)), some (.int (zI (w + (-1)))), some (.int (zI b)), some (.int (zI (k + 1)))], [], es)) i_85_90 rfl ?_
        exact K5 c1 v2 e_v2 c3 c8
      · refine x_cmpF i_85_33 (by unfold i32 iLO iHI; omega) (by unfold i32 iLO iHI; omega) rfl (by simp only [zC, cR]; omega) ?_
        refine x0 (r := (37, [some (.ref 67), some (.int (zI b)), some (.int (zI e)), some (.int (zI w)), some (.int (zI i)), some (.int (zI k))], [.int (zI w)], es)) i_85_36 rfl ?_
        refine x_ret (v := some (.int (zI w))) i_85_37 rfl (fun _ => rfl) rfl rfl rfl ?_
        exact K6 c1 v2 e_v2 c3 c8
theorem s_no0 {O : pOut} {d kc ks : Nat} {Q : pRes → Prop} {es : PH} {R : Nat → Int32} {n0 : Nat} {b e : Int} (hs_es : sh es) (hb : 0 ≤ b ∧ b ≤ 399) (he : 0 ≤ e ∧ e ≤ 400) (hT_es : hOK tT es) (hr_es : jB R n0 es)
    (K1 : (e - b) ≤ 3 → aW O d 86 kc ks Q (16, [some (.ref 67), some (.int (zI b)), some (.int (zI e)), some (.int (zI 0)), some (.int (zI b))], [], es))
    (K2 : ¬ ((e - b) ≤ 3) → Q (.inl (some (.int (zI (-3000)))), es, kc, ks)) :
    aW O d 86 kc ks Q (0, [some (.ref 67), some (.int (zI b)), some (.int (zI e)), none, none], [], es) := by
  refine x0 (r := (1, [some (.ref 67), some (.int (zI b)), some (.int (zI e)), none, none], [.int (zI e)], es)) i_86_0 rfl ?_
  refine x0 (r := (2, [some (.ref 67), some (.int (zI b)), some (.int (zI e)), none, none], [.int (zI b), .int (zI e)], es)) i_86_1 rfl ?_
  refine x_isub i_86_2 ?_
  refine x0 (r := (4, [some (.ref 67), some (.int (zI b)), some (.int (zI e)), none, none], [.int (zI 3), .int (zI (e - b))], es)) i_86_3 (by rfl) ?_
  by_cases c1 : (e - b) ≤ 3
  · refine x_cmpT i_86_4 (by unfold i32 iLO iHI; omega) (by unfold i32 iLO iHI; omega) rfl (by simp only [zC, cR]; omega) ?_
    refine x0 (r := (12, [some (.ref 67), some (.int (zI b)), some (.int (zI e)), none, none], [.int (zI 0)], es)) i_86_11 (by rfl) ?_
    refine x0 (r := (13, [some (.ref 67), some (.int (zI b)), some (.int (zI e)), some (.int (zI 0)), none], [], es)) i_86_12 rfl ?_
    refine x0 (r := (14, [some (.ref 67), some (.int (zI b)), some (.int (zI e)), some (.int (zI 0)), none], [.int (zI b)], es)) i_86_13 rfl ?_
    refine x0 (r := (16, [some (.ref 67), some (.int (zI b)), some (.int (zI e)), some (.int (zI 0)), some (.int (zI b))], [], es)) i_86_14 rfl ?_
    exact K1 c1
  · refine x_cmpF i_86_4 (by unfold i32 iLO iHI; omega) (by unfold i32 iLO iHI; omega) rfl (by simp only [zC, cR]; omega) ?_
    refine x0 (r := (10, [some (.ref 67), some (.int (zI b)), some (.int (zI e)), none, none], [.int (zI (-3000))], es)) i_86_7 (by rfl) ?_
    refine x_ret (v := some (.int (zI (-3000)))) i_86_10 rfl (fun _ => rfl) rfl rfl rfl ?_
    exact K2 c1
theorem s_no16 {O : pOut} {d kc ks : Nat} {Q : pRes → Prop} {es : PH} {R : Nat → Int32} {n0 : Nat} {b e v i : Int} (hs_es : sh es) (he : 0 ≤ e ∧ e ≤ 400) (hi : 0 ≤ i ∧ i ≤ 400) (hT_es : hOK tT es) (hr_es : jB R n0 es)
    (K1 : e ≤ i → Q (.inl (some (.int (zI v))), es, kc, ks))
    (K2 : ¬ (e ≤ i) → ∀ v2 : Int, atP 2 i es v2 → aW O (d + 1) 86 kc ks Q (16, [some (.ref 67), some (.int (zI b)), some (.int (zI e)), some (.int (zI (((10 * v) + v2) - 48))), some (.int (zI (i + 1)))], [], es)) :
    aW O (d + 1) 86 kc ks Q (16, [some (.ref 67), some (.int (zI b)), some (.int (zI e)), some (.int (zI v)), some (.int (zI i))], [], es) := by
  refine x0 (r := (18, [some (.ref 67), some (.int (zI b)), some (.int (zI e)), some (.int (zI v)), some (.int (zI i))], [.int (zI i)], es)) i_86_16 rfl ?_
  refine x0 (r := (19, [some (.ref 67), some (.int (zI b)), some (.int (zI e)), some (.int (zI v)), some (.int (zI i))], [.int (zI e), .int (zI i)], es)) i_86_18 rfl ?_
  by_cases c1 : e ≤ i
  · refine x_cmpT i_86_19 (by unfold i32 iLO iHI; omega) (by unfold i32 iLO iHI; omega) rfl (by simp only [zC, cR]; omega) ?_
    refine x0 (r := (50, [some (.ref 67), some (.int (zI b)), some (.int (zI e)), some (.int (zI v)), some (.int (zI i))], [.int (zI v)], es)) i_86_49 rfl ?_
    refine x_ret (v := some (.int (zI v))) i_86_50 rfl (fun _ => rfl) rfl rfl rfl ?_
    exact K1 c1
  · refine x_cmpF i_86_19 (by unfold i32 iLO iHI; omega) (by unfold i32 iLO iHI; omega) rfl (by simp only [zC, cR]; omega) ?_
    refine x0 (r := (24, [some (.ref 67), some (.int (zI b)), some (.int (zI e)), some (.int (zI v)), some (.int (zI i))], [.int (zI 10)], es)) i_86_22 (by rfl) ?_
    refine x0 (r := (25, [some (.ref 67), some (.int (zI b)), some (.int (zI e)), some (.int (zI v)), some (.int (zI i))], [.int (zI v), .int (zI 10)], es)) i_86_24 rfl ?_
    refine x_imul i_86_25 ?_
    refine x0 (r := (27, [some (.ref 67), some (.int (zI b)), some (.int (zI e)), some (.int (zI v)), some (.int (zI i))], [.ref 67, .int (zI (10 * v))], es)) i_86_26 rfl ?_
    refine x_getr (p := 3) (k := 65) i_86_27 hs_es rfl rfl ?_
    show aW _ _ _ _ _ _ (30, [some (.ref 67), some (.int (zI b)), some (.int (zI e)), some (.int (zI v)), some (.int (zI i))], [.ref 65, .int (zI (10 * v))], es)
    refine x_getr (p := 1) (k := 66) i_86_30 hs_es rfl rfl ?_
    show aW _ _ _ _ _ _ (33, [some (.ref 67), some (.int (zI b)), some (.int (zI e)), some (.int (zI v)), some (.int (zI i))], [.ref 66, .int (zI (10 * v))], es)
    refine x0 (r := (35, [some (.ref 67), some (.int (zI b)), some (.int (zI e)), some (.int (zI v)), some (.int (zI i))], [.int (zI i), .ref 66, .int (zI (10 * v))], es)) i_86_33 rfl ?_
    refine x_call (vs := [.ref 66, .int (zI i)]) (rs := [.int (zI (10 * v))]) i_86_35 rfl (fun _ => rfl) rfl rfl rfl rfl rfl rfl ?_
    show aW _ _ _ _ _ _ (0, [some (.ref 66), some (.int (zI i))], [], es)
    refine at_sp (p := 2) rfl hs_es (by omega) (by omega) (by decide) (fun v2 p_v2 => ?_)
    have r_v2 := atP_rng p_v2
    show aW _ _ _ _ _ _ (38, [some (.ref 67), some (.int (zI b)), some (.int (zI e)), some (.int (zI v)), some (.int (zI i))], [.int (zI v2), .int (zI (10 * v))], es)
    refine x_iadd i_86_38 ?_
    refine x0 (r := (41, [some (.ref 67), some (.int (zI b)), some (.int (zI e)), some (.int (zI v)), some (.int (zI i))], [.int (zI 48), .int (zI ((10 * v) + v2))], es)) i_86_39 (by rfl) ?_
    refine x_isub i_86_41 ?_
    refine x0 (r := (43, [some (.ref 67), some (.int (zI b)), some (.int (zI e)), some (.int (zI (((10 * v) + v2) - 48))), some (.int (zI i))], [], es)) i_86_42 rfl ?_
    refine x_iinc (x := i) i_86_43 rfl (by show 4 < 5; decide) ?_
    show aW _ _ _ _ _ _ (46, [some (.ref 67), some (.int (zI b)), some (.int (zI e)), some (.int (zI (((10 * v) + v2) - 48))), some (.int (zI (i + 1)))], [], es)
    refine x0 (r := (16, [some (.ref 67), some (.int (zI b)), some (.int (zI e)), some (.int (zI (((10 * v) + v2) - 48))), some (.int (zI (i + 1)))], [], es)) i_86_46 rfl ?_
    exact K2 c1 v2 p_v2
def btP (R : Nat → Int32) (n : Nat) (b : Int) (_ : PH) (v : Int) : Prop := v = (zBe (zR R) n b.toNat : Nat)
theorem cs1 (k : Nat) : ((k + 1 : Nat) : Int) = (k : Int) + 1 := by omega
theorem tx0 : pTX.getD 0 [] = zTx0 := by decide +kernel
section
variable {O : pOut} {d kc ks : Nat} {Q : pRes → Prop} {es : PH} {R : Nat → Int32} {n : Nat}
theorem bt_loopL {b : Int} {q : Nat} (hT : hOK tT es) (hj : jB R n es) (hq : q ≤ n) (K : Q (.inl (some (.int (zI (zRn (zR R) n zLe q : Nat)))), es, kc, ks)) : ∀ (N : Nat) (i : Nat), n - i < N → i ≤ n → zRn (zR R) n zLe i = zRn (zR R) n zLe q → aW O (d + 2) 81 kc ks Q (12, [some (.ref 67), some (.int (zI b)), some (.int (zI (i : Int)))], [], es) := by
  have hn4 := hj.2.2.2
  have hsz := hj.2.2.1
  intro N
  induction N with
  | zero => intro i h; omega
  | succ N ih =>
    intro i hN hi hx
    have fin : (i < n → ¬ zLe (zR R i) = true) → Q (.inl (some (.int (zI (i : Int)))), es, kc, ks) := by
      intro hs
      have e : zRn (zR R) n zLe i = i := zRn_stop (fun h => Bool.eq_false_iff.mpr (hs h))
      rw [← hx, e] at K
      exact K
    refine s_bt12 (d := d) (i := (i : Int)) (sh_of hT) ⟨by omega, by omega⟩ (by omega) hT hj (fun v1 e1 h1 => fin (fun h => by omega)) (fun v1 e1 h1 v3 p3 h3 => fin (fun h hl => ?_)) (fun v1 e1 h1 v3 p3 h3 => ?_)
    · have := p3.2.mpr hl
      omega
    · have hl : zLe (zR R i) = true := p3.2.mp (by rcases p3.1 with h | h <;> omega)
      have h9 := ih (i + 1) (by omega) (by omega) (by rw [← hx]; exact (zRn_go (by omega) hl).symm)
      rw [cs1] at h9
      exact h9
theorem bt_loopD {b : Int} {q : Nat} (hT : hOK tT es) (hj : jB R n es) (hq : q ≤ n) (K : Q (.inl (some (.int (zI (zRn (zR R) n zDi q : Nat)))), es, kc, ks)) : ∀ (N : Nat) (i : Nat), n - i < N → i ≤ n → zRn (zR R) n zDi i = zRn (zR R) n zDi q → aW O (d + 2) 81 kc ks Q (45, [some (.ref 67), some (.int (zI b)), some (.int (zI (i : Int)))], [], es) := by
  have hn4 := hj.2.2.2
  have hsz := hj.2.2.1
  intro N
  induction N with
  | zero => intro i h; omega
  | succ N ih =>
    intro i hN hi hx
    have fin : (i < n → ¬ zDi (zR R i) = true) → Q (.inl (some (.int (zI (i : Int)))), es, kc, ks) := by
      intro hs
      have e : zRn (zR R) n zDi i = i := zRn_stop (fun h => Bool.eq_false_iff.mpr (hs h))
      rw [← hx, e] at K
      exact K
    refine s_bt45 (d := d) (i := (i : Int)) (sh_of hT) ⟨by omega, by omega⟩ (by omega) hT hj (fun v1 e1 h1 => fin (fun h => by omega)) (fun v1 e1 h1 v3 p3 h3 => fin (fun h hl => ?_)) (fun v1 e1 h1 v3 p3 h3 => ?_)
    · have := p3.2.mpr hl
      omega
    · have hl : zDi (zR R i) = true := p3.2.mp (by rcases p3.1 with h | h <;> omega)
      have h9 := ih (i + 1) (by omega) (by omega) (by rw [← hx]; exact (zRn_go (by omega) hl).symm)
      rw [cs1] at h9
      exact h9
theorem bt_spec {b : Nat} (hT : hOK tT es) (hj : jB R n es) (hb : b < n) (K : Q (.inl (some (.int (zI (zBe (zR R) n b : Nat)))), es, kc, ks)) : aW O (d + 2) 81 kc ks Q (0, [some (.ref 67), some (.int (zI (b : Int))), none], [], es) := by
  have hn4 := hj.2.2.2
  refine s_bt0 (d := d) (b := (b : Int)) (sh_of hT) ⟨by omega, by omega⟩ hT hj (fun v1 p1 h1 v3 p3 h3 => ?_) (fun v1 p1 h1 v3 p3 h3 => ?_) (fun v1 p1 h1 => ?_)
  · have n1 : ¬ zLe (zR R b) = true := fun h => by have := p1.2.mpr h; omega
    have n2 : ¬ zDi (zR R b) = true := fun h => by have := p3.2.mpr h; omega
    have e : zBe (zR R) n b = b + 1 := by unfold zBe; rw [if_neg n1, if_neg n2]
    rw [e, cs1] at K
    exact K
  · have n1 : ¬ zLe (zR R b) = true := fun h => by have := p1.2.mpr h; omega
    have n2 : zDi (zR R b) = true := p3.2.mp (by rcases p3.1 with h | h <;> omega)
    have e : zBe (zR R) n b = zRn (zR R) n zDi b := by unfold zBe; rw [if_neg n1, if_pos n2]
    rw [e] at K
    have h9 := bt_loopD (O := O) (d := d) (b := (b : Int)) (q := b) hT hj (by omega) K _ (b + 1) (Nat.lt_succ_self _) (by omega) (zRn_go hb n2).symm
    rw [cs1] at h9
    exact h9
  · have n1 : zLe (zR R b) = true := p1.2.mp (by rcases p1.1 with h | h <;> omega)
    have e : zBe (zR R) n b = zRn (zR R) n zLe b := by unfold zBe; rw [if_pos n1]
    rw [e] at K
    have h9 := bt_loopL (O := O) (d := d) (b := (b : Int)) (q := b) hT hj (by omega) K _ (b + 1) (Nat.lt_succ_self _) (by omega) (zRn_go hb n1).symm
    rw [cs1] at h9
    exact h9
theorem wo_loop {b e : Nat} (hT : hOK tT es) (hj : jB R n es) (hb : b ≤ 399) (he : e ≤ 400) (K : Q (.inl (some (.int (zI (zWcod (zR R) b e)))), es, kc, ks)) : ∀ (N k i : Nat) (w : Int), 82 - k < N → k ≤ 82 → i ≤ 401 → zWF (zR R) b e (zTx0.drop k) i w = zWcod (zR R) b e → aW O (d + 1) 85 kc ks Q (8, [some (.ref 67), some (.int (zI (b : Int))), some (.int (zI (e : Int))), some (.int (zI w)), some (.int (zI (i : Int))), some (.int (zI (k : Int)))], [], es) := by
  have hlen : zTx0.length = 82 := by decide
  intro N
  induction N with
  | zero => intro k i w h; omega
  | succ N ih =>
    intro k i w hN hk hi hx
    have step : k < 82 → zTx0.drop k = (pTX.getD 0 []).getD k 0 :: zTx0.drop (k + 1) := by
      intro h
      rw [tx0, List.drop_eq_getElem_cons (by omega), List.getD_eq_getElem?_getD, List.getElem?_eq_getElem (by omega)]
      rfl
    refine s_wo8 (d := d) (b := (b : Int)) (e := (e : Int)) (i := (i : Int)) (k := (k : Int)) (sh_of hT) ⟨by omega, by omega⟩ ⟨by omega, by omega⟩ ⟨by omega, by omega⟩ ⟨by omega, by omega⟩ hT hj (fun h1 => ?_) (fun h1 v2 e2 h2 h3 => ?_) (fun h1 v2 e2 h2 h3 v5 p5 v6 e6 h6 => ?_) (fun h1 v2 e2 h2 h3 v5 p5 v6 e6 h6 => ?_) (fun h1 v2 e2 h2 h3 => ?_) (fun h1 v2 e2 h2 h3 => ?_)
    · rw [List.drop_eq_nil_of_le (by omega)] at hx
      have hx' : (-3000 : Int) = zWcod (zR R) b e := hx
      rw [← hx'] at K
      exact K
    · rw [step (by omega), zWF_cons, if_neg (by intro h; rw [Int.toNat_natCast] at e2; omega), if_neg (by omega)] at hx
      have h9 := ih (k + 1) (e + 1) w (by omega) (by omega) (by omega) hx
      rw [cs1 k, cs1 e] at h9
      exact h9
    · rw [Int.toNat_natCast] at e2 e6
      obtain ⟨a1, a2, a3⟩ := jB_at hj (by omega) (by omega) p5
      rw [Int.toNat_natCast] at a1 a2 a3
      have hch := chr_bd (t := pTX.getD 0 []) (i := k) (by decide)
      have h8 := zU8_eq (y := v6) a2 a3 (by omega) (by omega)
      rw [step (by omega), zWF_cons, if_neg (by omega), if_neg (fun h => h6 (by rw [a1, h8.mpr (by rw [e6]; exact h.2)]))] at hx
      have h9 := ih (k + 1) (e + 1) w (by omega) (by omega) (by omega) hx
      rw [cs1 k, cs1 e] at h9
      exact h9
    · rw [Int.toNat_natCast] at e2 e6
      obtain ⟨a1, a2, a3⟩ := jB_at hj (by omega) (by omega) p5
      rw [Int.toNat_natCast] at a1 a2 a3
      have hch := chr_bd (t := pTX.getD 0 []) (i := k) (by decide)
      have h8 := zU8_eq (y := v6) a2 a3 (by omega) (by omega)
      have h9 : zR R i = v6 := h8.mp (by omega)
      rw [step (by omega), zWF_cons, if_neg (by omega), if_pos (by omega)] at hx
      have h10 := ih (k + 1) (i + 1) w (by omega) (by omega) (by omega) hx
      rw [cs1 k, cs1 i] at h10
      exact h10
    · rw [Int.toNat_natCast] at e2
      rw [step (by omega), zWF_cons, if_pos (by omega), if_neg (by omega), show w - 1 = w + (-1) by omega] at hx
      have h9 := ih (k + 1) b (w + (-1)) (by omega) (by omega) (by omega) hx
      rw [cs1 k] at h9
      exact h9
    · rw [Int.toNat_natCast] at e2
      rw [step (by omega), zWF_cons, if_pos (by omega), if_pos (by omega)] at hx
      rw [← hx] at K
      exact K
theorem wo_spec {x y : Int} (hs : sh es) (hT : hOK tT es) (hj : jB R n es) (hx : 0 ≤ x ∧ x ≤ 399) (hy : 0 ≤ y ∧ y ≤ 400) (K : ∀ v, woP R x y es v → Q (.inl (some (.int (zI v))), es, kc, ks)) : aW O (d + 1) 85 kc ks Q (0, [some (.ref 67), some (.int (zI x)), some (.int (zI y)), none, none, none], [], es) := by
  have ex : ((x.toNat : Nat) : Int) = x := by omega
  have ey : ((y.toNat : Nat) : Int) = y := by omega
  refine s_wo0 (d := d + 1) hs hT hj ?_
  have := wo_loop (O := O) (d := d) (kc := kc) (ks := ks) (Q := Q) (b := x.toNat) (e := y.toNat) hT hj (by omega) (by omega) (K _ rfl) 83 0 x.toNat (-1) (by omega) (by omega) (by omega) zWF_ok
  rw [ex, ey] at this
  exact this
/-- numberOf, of digits alone -/
theorem no_loop {b e : Nat} (hT : hOK tT es) (hj : jB R n es) (hb : b ≤ e) (he : e ≤ 400) (hdg : ∀ i, b ≤ i → i < e → zDi (zR R i) = true) (K : Q (.inl (some (.int (zI (zDvl (zR R) (e - b) b 0)))), es, kc, ks)) : ∀ (N i : Nat), e - i < N → b ≤ i → i ≤ e → aW O (d + 1) 86 kc ks Q (16, [some (.ref 67), some (.int (zI (b : Int))), some (.int (zI (e : Int))), some (.int (zI (zDvl (zR R) (i - b) b 0))), some (.int (zI (i : Int)))], [], es) := by
  intro N
  induction N with
  | zero => intro i h; omega
  | succ N ih =>
    intro i hN hi hie
    refine s_no16 (d := d) (b := (b : Int)) (e := (e : Int)) (i := (i : Int)) (sh_of hT) ⟨by omega, by omega⟩ ⟨by omega, by omega⟩ hT hj (fun h1 => ?_) (fun h1 v2 p2 => ?_)
    · rw [show e - b = i - b by omega] at K
      exact K
    · obtain ⟨a1, a2, a3⟩ := jB_at hj (by omega) (by omega) p2
      rw [Int.toNat_natCast] at a1 a2 a3
      have hd := zDi_iff.mp (hdg i hi (by omega))
      have h8 := (zU8_eq (y := zR R i) a2 a3 (by omega) (by omega)).mpr rfl
      have := ih (i + 1) (by omega) (by omega) (by omega)
      rw [show i + 1 - b = (i - b) + 1 by omega, zDvl_snoc, show b + (i - b) = i by omega, ← h8, ← a1, cs1] at this
      exact this
theorem no_spec {b e : Nat} (hT : hOK tT es) (hj : jB R n es) (hb : b ≤ 399) (hbe : b ≤ e) (he : e ≤ 400) (hdg : ∀ i, b ≤ i → i < e → zDi (zR R i) = true) (K : Q (.inl (some (.int (zI (zNcod (zR R) b e)))), es, kc, ks)) : aW O (d + 1) 86 kc ks Q (0, [some (.ref 67), some (.int (zI (b : Int))), some (.int (zI (e : Int))), none, none], [], es) := by
  refine s_no0 (d := d + 1) (b := (b : Int)) (e := (e : Int)) (sh_of hT) ⟨by omega, by omega⟩ ⟨by omega, by omega⟩ hT hj (fun h1 => ?_) (fun h1 => ?_)
  · have e1 : zNcod (zR R) b e = zDvl (zR R) (e - b) b 0 := by unfold zNcod; rw [if_neg (by omega)]
    rw [e1] at K
    have := no_loop (O := O) (d := d) hT hj hbe he hdg K (e - b + 1) b (by omega) (by omega) hbe
    rw [Nat.sub_self] at this
    exact this
  · have e1 : zNcod (zR R) b e = -3000 := by unfold zNcod; rw [if_pos (by omega)]
    rw [e1] at K
    exact K
end
