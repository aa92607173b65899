/-! THE READER of the class; printed by wip/rel/kind.py -/
theorem i_78_5 : iRow 78 5 = some (.invokevirtual 78, 87, 79, 1, (some (Jvm.ClassFile.FieldType.int))) := rfl
theorem i_78_67 : iRow 78 67 = some (.invokevirtual 100, 127, 98, 1, (some (Jvm.ClassFile.FieldType.int))) := rfl
theorem i_79_0 : iRow 79 0 = some (.iload_n 1, 0, 0, 0, (some (Jvm.ClassFile.FieldType.boolean))) := rfl
theorem i_79_1 : iRow 79 1 = some (.ifCond .eq 8, 0, 0, 0, (some (Jvm.ClassFile.FieldType.boolean))) := rfl
theorem i_79_4 : iRow 79 4 = some (.bipush 10, 0, 0, 0, (some (Jvm.ClassFile.FieldType.boolean))) := rfl
theorem i_79_6 : iRow 79 6 = some (.goto 5, 0, 0, 0, (some (Jvm.ClassFile.FieldType.boolean))) := rfl
theorem i_79_11 : iRow 79 11 = some (.istore_n 2, 0, 0, 0, (some (Jvm.ClassFile.FieldType.boolean))) := rfl
theorem i_79_12 : iRow 79 12 = some (.aload_n 0, 0, 0, 0, (some (Jvm.ClassFile.FieldType.boolean))) := rfl
theorem i_79_13 : iRow 79 13 = some (.iconst 0, 0, 0, 0, (some (Jvm.ClassFile.FieldType.boolean))) := rfl
theorem i_79_14 : iRow 79 14 = some (.putfield 29, 8, 2, 2, (some (Jvm.ClassFile.FieldType.boolean))) := rfl
theorem i_79_17 : iRow 79 17 = some (.aload_n 0, 0, 0, 0, (some (Jvm.ClassFile.FieldType.boolean))) := rfl
theorem i_79_18 : iRow 79 18 = some (.iconst 0, 0, 0, 0, (some (Jvm.ClassFile.FieldType.boolean))) := rfl
theorem i_79_19 : iRow 79 19 = some (.putfield 32, 10, 2, 3, (some (Jvm.ClassFile.FieldType.boolean))) := rfl
theorem i_79_22 : iRow 79 22 = some (.aload_n 0, 0, 0, 0, (some (Jvm.ClassFile.FieldType.boolean))) := rfl
theorem i_79_23 : iRow 79 23 = some (.iconst (-1), 0, 0, 0, (some (Jvm.ClassFile.FieldType.boolean))) := rfl
theorem i_79_24 : iRow 79 24 = some (.putfield 15, 13, 2, 4, (some (Jvm.ClassFile.FieldType.boolean))) := rfl
theorem i_79_27 : iRow 79 27 = some (.aload_n 0, 0, 0, 0, (some (Jvm.ClassFile.FieldType.boolean))) := rfl
theorem i_79_28 : iRow 79 28 = some (.invokevirtual 35, 88, 80, 1, (some (Jvm.ClassFile.FieldType.boolean))) := rfl
theorem i_79_31 : iRow 79 31 = some (.aload_n 0, 0, 0, 0, (some (Jvm.ClassFile.FieldType.boolean))) := rfl
theorem i_79_32 : iRow 79 32 = some (.getfield 38, 18, 2, 8, (some (Jvm.ClassFile.FieldType.boolean))) := rfl
theorem i_79_35 : iRow 79 35 = some (.sipush (-2000), 0, 0, 0, (some (Jvm.ClassFile.FieldType.boolean))) := rfl
theorem i_79_38 : iRow 79 38 = some (.if_icmp .ne 5, 0, 0, 0, (some (Jvm.ClassFile.FieldType.boolean))) := rfl
theorem i_79_41 : iRow 79 41 = some (.iconst 1, 0, 0, 0, (some (Jvm.ClassFile.FieldType.boolean))) := rfl
theorem i_79_42 : iRow 79 42 = some (.ireturn, 0, 0, 0, (some (Jvm.ClassFile.FieldType.boolean))) := rfl
theorem i_79_43 : iRow 79 43 = some (.iconst 0, 0, 0, 0, (some (Jvm.ClassFile.FieldType.boolean))) := rfl
theorem i_79_44 : iRow 79 44 = some (.istore_n 3, 0, 0, 0, (some (Jvm.ClassFile.FieldType.boolean))) := rfl
theorem i_79_45 : iRow 79 45 = some (.iload_n 3, 0, 0, 0, (some (Jvm.ClassFile.FieldType.boolean))) := rfl
theorem i_79_46 : iRow 79 46 = some (.iload_n 2, 0, 0, 0, (some (Jvm.ClassFile.FieldType.boolean))) := rfl
theorem i_79_47 : iRow 79 47 = some (.if_icmp .ge 74, 0, 0, 0, (some (Jvm.ClassFile.FieldType.boolean))) := rfl
theorem i_79_50 : iRow 79 50 = some (.iload_n 1, 0, 0, 0, (some (Jvm.ClassFile.FieldType.boolean))) := rfl
theorem i_79_51 : iRow 79 51 = some (.ifCond .eq 10, 0, 0, 0, (some (Jvm.ClassFile.FieldType.boolean))) := rfl
theorem i_79_54 : iRow 79 54 = some (.aload_n 0, 0, 0, 0, (some (Jvm.ClassFile.FieldType.boolean))) := rfl
theorem i_79_55 : iRow 79 55 = some (.invokevirtual 41, 107, 87, 1, (some (Jvm.ClassFile.FieldType.boolean))) := rfl
theorem i_79_58 : iRow 79 58 = some (.goto 7, 0, 0, 0, (some (Jvm.ClassFile.FieldType.boolean))) := rfl
theorem i_79_62 : iRow 79 62 = some (.invokevirtual 45, 116, 96, 1, (some (Jvm.ClassFile.FieldType.boolean))) := rfl
theorem i_79_65 : iRow 79 65 = some (.istore 4, 0, 0, 0, (some (Jvm.ClassFile.FieldType.boolean))) := rfl
theorem i_79_67 : iRow 79 67 = some (.iload 4, 0, 0, 0, (some (Jvm.ClassFile.FieldType.boolean))) := rfl
theorem i_79_69 : iRow 79 69 = some (.ifCond .ne 5, 0, 0, 0, (some (Jvm.ClassFile.FieldType.boolean))) := rfl
theorem i_79_72 : iRow 79 72 = some (.iconst 0, 0, 0, 0, (some (Jvm.ClassFile.FieldType.boolean))) := rfl
theorem i_79_73 : iRow 79 73 = some (.ireturn, 0, 0, 0, (some (Jvm.ClassFile.FieldType.boolean))) := rfl
theorem i_79_74 : iRow 79 74 = some (.aload_n 0, 0, 0, 0, (some (Jvm.ClassFile.FieldType.boolean))) := rfl
theorem i_79_75 : iRow 79 75 = some (.dup, 0, 0, 0, (some (Jvm.ClassFile.FieldType.boolean))) := rfl
theorem i_79_76 : iRow 79 76 = some (.getfield 32, 10, 2, 3, (some (Jvm.ClassFile.FieldType.boolean))) := rfl
theorem i_79_79 : iRow 79 79 = some (.iconst 1, 0, 0, 0, (some (Jvm.ClassFile.FieldType.boolean))) := rfl
theorem i_79_80 : iRow 79 80 = some (.iadd, 0, 0, 0, (some (Jvm.ClassFile.FieldType.boolean))) := rfl
theorem i_79_81 : iRow 79 81 = some (.putfield 32, 10, 2, 3, (some (Jvm.ClassFile.FieldType.boolean))) := rfl
theorem i_79_84 : iRow 79 84 = some (.aload_n 0, 0, 0, 0, (some (Jvm.ClassFile.FieldType.boolean))) := rfl
theorem i_79_85 : iRow 79 85 = some (.getfield 38, 18, 2, 8, (some (Jvm.ClassFile.FieldType.boolean))) := rfl
theorem i_79_88 : iRow 79 88 = some (.sipush (-2000), 0, 0, 0, (some (Jvm.ClassFile.FieldType.boolean))) := rfl
theorem i_79_91 : iRow 79 91 = some (.if_icmp .ne 5, 0, 0, 0, (some (Jvm.ClassFile.FieldType.boolean))) := rfl
theorem i_79_94 : iRow 79 94 = some (.iconst 1, 0, 0, 0, (some (Jvm.ClassFile.FieldType.boolean))) := rfl
theorem i_79_95 : iRow 79 95 = some (.ireturn, 0, 0, 0, (some (Jvm.ClassFile.FieldType.boolean))) := rfl
theorem i_79_96 : iRow 79 96 = some (.aload_n 0, 0, 0, 0, (some (Jvm.ClassFile.FieldType.boolean))) := rfl
theorem i_79_97 : iRow 79 97 = some (.getfield 38, 18, 2, 8, (some (Jvm.ClassFile.FieldType.boolean))) := rfl
theorem i_79_100 : iRow 79 100 = some (.sipush (-1059), 0, 0, 0, (some (Jvm.ClassFile.FieldType.boolean))) := rfl
theorem i_79_103 : iRow 79 103 = some (.if_icmp .eq 8, 0, 0, 0, (some (Jvm.ClassFile.FieldType.boolean))) := rfl
theorem i_79_106 : iRow 79 106 = some (.aload_n 0, 0, 0, 0, (some (Jvm.ClassFile.FieldType.boolean))) := rfl
theorem i_79_107 : iRow 79 107 = some (.invokevirtual 48, 108, 88, 1, (some (Jvm.ClassFile.FieldType.boolean))) := rfl
theorem i_79_110 : iRow 79 110 = some (.ireturn, 0, 0, 0, (some (Jvm.ClassFile.FieldType.boolean))) := rfl
theorem i_79_111 : iRow 79 111 = some (.aload_n 0, 0, 0, 0, (some (Jvm.ClassFile.FieldType.boolean))) := rfl
theorem i_79_112 : iRow 79 112 = some (.invokevirtual 51, 109, 89, 1, (some (Jvm.ClassFile.FieldType.boolean))) := rfl
theorem i_79_115 : iRow 79 115 = some (.iinc 3 1, 0, 0, 0, (some (Jvm.ClassFile.FieldType.boolean))) := rfl
theorem i_79_118 : iRow 79 118 = some (.goto (-73), 0, 0, 0, (some (Jvm.ClassFile.FieldType.boolean))) := rfl
theorem i_79_121 : iRow 79 121 = some (.aload_n 0, 0, 0, 0, (some (Jvm.ClassFile.FieldType.boolean))) := rfl
theorem i_79_122 : iRow 79 122 = some (.invokevirtual 48, 108, 88, 1, (some (Jvm.ClassFile.FieldType.boolean))) := rfl
theorem i_79_125 : iRow 79 125 = some (.ireturn, 0, 0, 0, (some (Jvm.ClassFile.FieldType.boolean))) := rfl
theorem i_80_48 : iRow 80 48 = some (.invokevirtual 71, 89, 81, 1, none) := rfl
theorem i_80_71 : iRow 80 71 = some (.invokevirtual 75, 92, 84, 1, none) := rfl
theorem i_81_0 : iRow 81 0 = some (.iload_n 1, 0, 0, 0, (some (Jvm.ClassFile.FieldType.int))) := rfl
theorem i_81_1 : iRow 81 1 = some (.iconst 1, 0, 0, 0, (some (Jvm.ClassFile.FieldType.int))) := rfl
theorem i_81_2 : iRow 81 2 = some (.iadd, 0, 0, 0, (some (Jvm.ClassFile.FieldType.int))) := rfl
theorem i_81_3 : iRow 81 3 = some (.istore_n 2, 0, 0, 0, (some (Jvm.ClassFile.FieldType.int))) := rfl
theorem i_81_4 : iRow 81 4 = some (.aload_n 0, 0, 0, 0, (some (Jvm.ClassFile.FieldType.int))) := rfl
theorem i_81_5 : iRow 81 5 = some (.iload_n 1, 0, 0, 0, (some (Jvm.ClassFile.FieldType.int))) := rfl
theorem i_81_6 : iRow 81 6 = some (.invokevirtual 79, 90, 82, 1, (some (Jvm.ClassFile.FieldType.int))) := rfl
theorem i_81_9 : iRow 81 9 = some (.ifCond .eq 28, 0, 0, 0, (some (Jvm.ClassFile.FieldType.int))) := rfl
theorem i_81_12 : iRow 81 12 = some (.iload_n 2, 0, 0, 0, (some (Jvm.ClassFile.FieldType.int))) := rfl
theorem i_81_13 : iRow 81 13 = some (.aload_n 0, 0, 0, 0, (some (Jvm.ClassFile.FieldType.int))) := rfl
theorem i_81_14 : iRow 81 14 = some (.getfield 25, 5, 2, 0, (some (Jvm.ClassFile.FieldType.int))) := rfl
theorem i_81_17 : iRow 81 17 = some (.getfield 65, 4, 8, 1, (some (Jvm.ClassFile.FieldType.int))) := rfl
theorem i_81_20 : iRow 81 20 = some (.if_icmp .ge 50, 0, 0, 0, (some (Jvm.ClassFile.FieldType.int))) := rfl
theorem i_81_23 : iRow 81 23 = some (.aload_n 0, 0, 0, 0, (some (Jvm.ClassFile.FieldType.int))) := rfl
theorem i_81_24 : iRow 81 24 = some (.iload_n 2, 0, 0, 0, (some (Jvm.ClassFile.FieldType.int))) := rfl
theorem i_81_25 : iRow 81 25 = some (.invokevirtual 79, 90, 82, 1, (some (Jvm.ClassFile.FieldType.int))) := rfl
theorem i_81_28 : iRow 81 28 = some (.ifCond .eq 42, 0, 0, 0, (some (Jvm.ClassFile.FieldType.int))) := rfl
theorem i_81_31 : iRow 81 31 = some (.iinc 2 1, 0, 0, 0, (some (Jvm.ClassFile.FieldType.int))) := rfl
theorem i_81_34 : iRow 81 34 = some (.goto (-22), 0, 0, 0, (some (Jvm.ClassFile.FieldType.int))) := rfl
theorem i_81_37 : iRow 81 37 = some (.aload_n 0, 0, 0, 0, (some (Jvm.ClassFile.FieldType.int))) := rfl
theorem i_81_38 : iRow 81 38 = some (.iload_n 1, 0, 0, 0, (some (Jvm.ClassFile.FieldType.int))) := rfl
theorem i_81_39 : iRow 81 39 = some (.invokevirtual 83, 91, 83, 1, (some (Jvm.ClassFile.FieldType.int))) := rfl
theorem i_81_42 : iRow 81 42 = some (.ifCond .eq 28, 0, 0, 0, (some (Jvm.ClassFile.FieldType.int))) := rfl
theorem i_81_45 : iRow 81 45 = some (.iload_n 2, 0, 0, 0, (some (Jvm.ClassFile.FieldType.int))) := rfl
theorem i_81_46 : iRow 81 46 = some (.aload_n 0, 0, 0, 0, (some (Jvm.ClassFile.FieldType.int))) := rfl
theorem i_81_47 : iRow 81 47 = some (.getfield 25, 5, 2, 0, (some (Jvm.ClassFile.FieldType.int))) := rfl
theorem i_81_50 : iRow 81 50 = some (.getfield 65, 4, 8, 1, (some (Jvm.ClassFile.FieldType.int))) := rfl
theorem i_81_53 : iRow 81 53 = some (.if_icmp .ge 17, 0, 0, 0, (some (Jvm.ClassFile.FieldType.int))) := rfl
theorem i_81_56 : iRow 81 56 = some (.aload_n 0, 0, 0, 0, (some (Jvm.ClassFile.FieldType.int))) := rfl
theorem i_81_57 : iRow 81 57 = some (.iload_n 2, 0, 0, 0, (some (Jvm.ClassFile.FieldType.int))) := rfl
theorem i_81_58 : iRow 81 58 = some (.invokevirtual 83, 91, 83, 1, (some (Jvm.ClassFile.FieldType.int))) := rfl
theorem i_81_61 : iRow 81 61 = some (.ifCond .eq 9, 0, 0, 0, (some (Jvm.ClassFile.FieldType.int))) := rfl
theorem i_81_64 : iRow 81 64 = some (.iinc 2 1, 0, 0, 0, (some (Jvm.ClassFile.FieldType.int))) := rfl
theorem i_81_67 : iRow 81 67 = some (.goto (-22), 0, 0, 0, (some (Jvm.ClassFile.FieldType.int))) := rfl
theorem i_81_70 : iRow 81 70 = some (.iload_n 2, 0, 0, 0, (some (Jvm.ClassFile.FieldType.int))) := rfl
theorem i_81_71 : iRow 81 71 = some (.ireturn, 0, 0, 0, (some (Jvm.ClassFile.FieldType.int))) := rfl
theorem i_82_0 : iRow 82 0 = some (.aload_n 0, 0, 0, 0, (some (Jvm.ClassFile.FieldType.boolean))) := rfl
theorem i_82_1 : iRow 82 1 = some (.getfield 25, 5, 2, 0, (some (Jvm.ClassFile.FieldType.boolean))) := rfl
theorem i_82_4 : iRow 82 4 = some (.getfield 68, 1, 8, 0, (some (Jvm.ClassFile.FieldType.boolean))) := rfl
theorem i_82_7 : iRow 82 7 = some (.iload_n 1, 0, 0, 0, (some (Jvm.ClassFile.FieldType.boolean))) := rfl
theorem i_82_8 : iRow 82 8 = some (.invokestatic 57, 26, 28, 3, (some (Jvm.ClassFile.FieldType.boolean))) := rfl
theorem i_82_11 : iRow 82 11 = some (.bipush 97, 0, 0, 0, (some (Jvm.ClassFile.FieldType.boolean))) := rfl
theorem i_82_13 : iRow 82 13 = some (.if_icmp .lt 23, 0, 0, 0, (some (Jvm.ClassFile.FieldType.boolean))) := rfl
theorem i_82_16 : iRow 82 16 = some (.aload_n 0, 0, 0, 0, (some (Jvm.ClassFile.FieldType.boolean))) := rfl
theorem i_82_17 : iRow 82 17 = some (.getfield 25, 5, 2, 0, (some (Jvm.ClassFile.FieldType.boolean))) := rfl
theorem i_82_20 : iRow 82 20 = some (.getfield 68, 1, 8, 0, (some (Jvm.ClassFile.FieldType.boolean))) := rfl
theorem i_82_23 : iRow 82 23 = some (.iload_n 1, 0, 0, 0, (some (Jvm.ClassFile.FieldType.boolean))) := rfl
theorem i_82_24 : iRow 82 24 = some (.invokestatic 57, 26, 28, 3, (some (Jvm.ClassFile.FieldType.boolean))) := rfl
theorem i_82_27 : iRow 82 27 = some (.bipush 122, 0, 0, 0, (some (Jvm.ClassFile.FieldType.boolean))) := rfl
theorem i_82_29 : iRow 82 29 = some (.if_icmp .gt 7, 0, 0, 0, (some (Jvm.ClassFile.FieldType.boolean))) := rfl
theorem i_82_32 : iRow 82 32 = some (.iconst 1, 0, 0, 0, (some (Jvm.ClassFile.FieldType.boolean))) := rfl
theorem i_82_33 : iRow 82 33 = some (.goto 4, 0, 0, 0, (some (Jvm.ClassFile.FieldType.boolean))) := rfl
theorem i_82_36 : iRow 82 36 = some (.iconst 0, 0, 0, 0, (some (Jvm.ClassFile.FieldType.boolean))) := rfl
theorem i_82_37 : iRow 82 37 = some (.ireturn, 0, 0, 0, (some (Jvm.ClassFile.FieldType.boolean))) := rfl
theorem i_83_0 : iRow 83 0 = some (.aload_n 0, 0, 0, 0, (some (Jvm.ClassFile.FieldType.boolean))) := rfl
theorem i_83_1 : iRow 83 1 = some (.getfield 25, 5, 2, 0, (some (Jvm.ClassFile.FieldType.boolean))) := rfl
theorem i_83_4 : iRow 83 4 = some (.getfield 68, 1, 8, 0, (some (Jvm.ClassFile.FieldType.boolean))) := rfl
theorem i_83_7 : iRow 83 7 = some (.iload_n 1, 0, 0, 0, (some (Jvm.ClassFile.FieldType.boolean))) := rfl
theorem i_83_8 : iRow 83 8 = some (.invokestatic 57, 26, 28, 3, (some (Jvm.ClassFile.FieldType.boolean))) := rfl
theorem i_83_11 : iRow 83 11 = some (.bipush 48, 0, 0, 0, (some (Jvm.ClassFile.FieldType.boolean))) := rfl
theorem i_83_13 : iRow 83 13 = some (.if_icmp .lt 23, 0, 0, 0, (some (Jvm.ClassFile.FieldType.boolean))) := rfl
theorem i_83_16 : iRow 83 16 = some (.aload_n 0, 0, 0, 0, (some (Jvm.ClassFile.FieldType.boolean))) := rfl
theorem i_83_17 : iRow 83 17 = some (.getfield 25, 5, 2, 0, (some (Jvm.ClassFile.FieldType.boolean))) := rfl
theorem i_83_20 : iRow 83 20 = some (.getfield 68, 1, 8, 0, (some (Jvm.ClassFile.FieldType.boolean))) := rfl
theorem i_83_23 : iRow 83 23 = some (.iload_n 1, 0, 0, 0, (some (Jvm.ClassFile.FieldType.boolean))) := rfl
theorem i_83_24 : iRow 83 24 = some (.invokestatic 57, 26, 28, 3, (some (Jvm.ClassFile.FieldType.boolean))) := rfl
theorem i_83_27 : iRow 83 27 = some (.bipush 57, 0, 0, 0, (some (Jvm.ClassFile.FieldType.boolean))) := rfl
theorem i_83_29 : iRow 83 29 = some (.if_icmp .gt 7, 0, 0, 0, (some (Jvm.ClassFile.FieldType.boolean))) := rfl
theorem i_83_32 : iRow 83 32 = some (.iconst 1, 0, 0, 0, (some (Jvm.ClassFile.FieldType.boolean))) := rfl
theorem i_83_33 : iRow 83 33 = some (.goto 4, 0, 0, 0, (some (Jvm.ClassFile.FieldType.boolean))) := rfl
theorem i_83_36 : iRow 83 36 = some (.iconst 0, 0, 0, 0, (some (Jvm.ClassFile.FieldType.boolean))) := rfl
theorem i_83_37 : iRow 83 37 = some (.ireturn, 0, 0, 0, (some (Jvm.ClassFile.FieldType.boolean))) := rfl
theorem i_84_26 : iRow 84 26 = some (.invokevirtual 89, 106, 86, 1, (some (Jvm.ClassFile.FieldType.int))) := rfl
theorem i_85_0 : iRow 85 0 = some (.iconst (-1), 0, 0, 0, (some (Jvm.ClassFile.FieldType.int))) := rfl
theorem i_85_1 : iRow 85 1 = some (.istore_n 3, 0, 0, 0, (some (Jvm.ClassFile.FieldType.int))) := rfl
theorem i_85_2 : iRow 85 2 = some (.iload_n 1, 0, 0, 0, (some (Jvm.ClassFile.FieldType.int))) := rfl
theorem i_85_3 : iRow 85 3 = some (.istore 4, 0, 0, 0, (some (Jvm.ClassFile.FieldType.int))) := rfl
theorem i_85_5 : iRow 85 5 = some (.iconst 0, 0, 0, 0, (some (Jvm.ClassFile.FieldType.int))) := rfl
theorem i_85_6 : iRow 85 6 = some (.istore 5, 0, 0, 0, (some (Jvm.ClassFile.FieldType.int))) := rfl
theorem i_85_8 : iRow 85 8 = some (.iload 5, 0, 0, 0, (some (Jvm.ClassFile.FieldType.int))) := rfl
theorem i_85_10 : iRow 85 10 = some (.ldc 92, 0, 0, 1, (some (Jvm.ClassFile.FieldType.int))) := rfl
theorem i_85_12 : iRow 85 12 = some (.invokevirtual 94, 94, 0, 8, (some (Jvm.ClassFile.FieldType.int))) := rfl
theorem i_85_15 : iRow 85 15 = some (.if_icmp .ge 78, 0, 0, 0, (some (Jvm.ClassFile.FieldType.int))) := rfl
theorem i_85_18 : iRow 85 18 = some (.ldc 92, 0, 0, 1, (some (Jvm.ClassFile.FieldType.int))) := rfl
theorem i_85_20 : iRow 85 20 = some (.iload 5, 0, 0, 0, (some (Jvm.ClassFile.FieldType.int))) := rfl
theorem i_85_22 : iRow 85 22 = some (.invokevirtual 100, 96, 0, 9, (some (Jvm.ClassFile.FieldType.int))) := rfl
theorem i_85_25 : iRow 85 25 = some (.bipush 32, 0, 0, 0, (some (Jvm.ClassFile.FieldType.int))) := rfl
theorem i_85_27 : iRow 85 27 = some (.if_icmp .ne 20, 0, 0, 0, (some (Jvm.ClassFile.FieldType.int))) := rfl
theorem i_85_30 : iRow 85 30 = some (.iload 4, 0, 0, 0, (some (Jvm.ClassFile.FieldType.int))) := rfl
theorem i_85_32 : iRow 85 32 = some (.iload_n 2, 0, 0, 0, (some (Jvm.ClassFile.FieldType.int))) := rfl
theorem i_85_33 : iRow 85 33 = some (.if_icmp .ne 5, 0, 0, 0, (some (Jvm.ClassFile.FieldType.int))) := rfl
theorem i_85_36 : iRow 85 36 = some (.iload_n 3, 0, 0, 0, (some (Jvm.ClassFile.FieldType.int))) := rfl
theorem i_85_37 : iRow 85 37 = some (.ireturn, 0, 0, 0, (some (Jvm.ClassFile.FieldType.int))) := rfl
theorem i_85_38 : iRow 85 38 = some (.iinc 3 (-1), 0, 0, 0, (some (Jvm.ClassFile.FieldType.int))) := rfl
theorem i_85_41 : iRow 85 41 = some (.iload_n 1, 0, 0, 0, (some (Jvm.ClassFile.FieldType.int))) := rfl
theorem i_85_42 : iRow 85 42 = some (.istore 4, 0, 0, 0, (some (Jvm.ClassFile.FieldType.int))) := rfl
theorem i_85_44 : iRow 85 44 = some (.goto 43, 0, 0, 0, (some (Jvm.ClassFile.FieldType.int))) := rfl
theorem i_85_47 : iRow 85 47 = some (.iload 4, 0, 0, 0, (some (Jvm.ClassFile.FieldType.int))) := rfl
theorem i_85_49 : iRow 85 49 = some (.iload_n 2, 0, 0, 0, (some (Jvm.ClassFile.FieldType.int))) := rfl
theorem i_85_50 : iRow 85 50 = some (.if_icmp .ge 32, 0, 0, 0, (some (Jvm.ClassFile.FieldType.int))) := rfl
theorem i_85_53 : iRow 85 53 = some (.aload_n 0, 0, 0, 0, (some (Jvm.ClassFile.FieldType.int))) := rfl
theorem i_85_54 : iRow 85 54 = some (.getfield 25, 5, 2, 0, (some (Jvm.ClassFile.FieldType.int))) := rfl
theorem i_85_57 : iRow 85 57 = some (.getfield 68, 1, 8, 0, (some (Jvm.ClassFile.FieldType.int))) := rfl
theorem i_85_60 : iRow 85 60 = some (.iload 4, 0, 0, 0, (some (Jvm.ClassFile.FieldType.int))) := rfl
theorem i_85_62 : iRow 85 62 = some (.invokestatic 57, 26, 28, 3, (some (Jvm.ClassFile.FieldType.int))) := rfl
theorem i_85_65 : iRow 85 65 = some (.ldc 92, 0, 0, 1, (some (Jvm.ClassFile.FieldType.int))) := rfl
theorem i_85_67 : iRow 85 67 = some (.iload 5, 0, 0, 0, (some (Jvm.ClassFile.FieldType.int))) := rfl
theorem i_85_69 : iRow 85 69 = some (.invokevirtual 100, 96, 0, 9, (some (Jvm.ClassFile.FieldType.int))) := rfl
theorem i_85_72 : iRow 85 72 = some (.if_icmp .ne 10, 0, 0, 0, (some (Jvm.ClassFile.FieldType.int))) := rfl
theorem i_85_75 : iRow 85 75 = some (.iload 4, 0, 0, 0, (some (Jvm.ClassFile.FieldType.int))) := rfl
theorem i_85_77 : iRow 85 77 = some (.iconst 1, 0, 0, 0, (some (Jvm.ClassFile.FieldType.int))) := rfl
theorem i_85_78 : iRow 85 78 = some (.iadd, 0, 0, 0, (some (Jvm.ClassFile.FieldType.int))) := rfl
theorem i_85_79 : iRow 85 79 = some (.goto 6, 0, 0, 0, (some (Jvm.ClassFile.FieldType.int))) := rfl
theorem i_85_82 : iRow 85 82 = some (.iload_n 2, 0, 0, 0, (some (Jvm.ClassFile.FieldType.int))) := rfl
theorem i_85_83 : iRow 85 83 = some (.iconst 1, 0, 0, 0, (some (Jvm.ClassFile.FieldType.int))) := rfl
theorem i_85_84 : iRow 85 84 = some (.iadd, 0, 0, 0, (some (Jvm.ClassFile.FieldType.int))) := rfl
theorem i_85_85 : iRow 85 85 = some (.istore 4, 0, 0, 0, (some (Jvm.ClassFile.FieldType.int))) := rfl
theorem i_85_87 : iRow 85 87 = some (.iinc 5 1, 0, 0, 0, (some (Jvm.ClassFile.FieldType.int))) := rfl
theorem i_85_90 : iRow 85 90 = some (.goto (-82), 0, 0, 0, (some (Jvm.ClassFile.FieldType.int))) := rfl
theorem i_85_93 : iRow 85 93 = some (.sipush (-3000), 0, 0, 0, (some (Jvm.ClassFile.FieldType.int))) := rfl
theorem i_85_96 : iRow 85 96 = some (.ireturn, 0, 0, 0, (some (Jvm.ClassFile.FieldType.int))) := rfl
theorem i_86_0 : iRow 86 0 = some (.iload_n 2, 0, 0, 0, (some (Jvm.ClassFile.FieldType.int))) := rfl
theorem i_86_1 : iRow 86 1 = some (.iload_n 1, 0, 0, 0, (some (Jvm.ClassFile.FieldType.int))) := rfl
theorem i_86_2 : iRow 86 2 = some (.isub, 0, 0, 0, (some (Jvm.ClassFile.FieldType.int))) := rfl
theorem i_86_3 : iRow 86 3 = some (.iconst 3, 0, 0, 0, (some (Jvm.ClassFile.FieldType.int))) := rfl
theorem i_86_4 : iRow 86 4 = some (.if_icmp .le 7, 0, 0, 0, (some (Jvm.ClassFile.FieldType.int))) := rfl
theorem i_86_7 : iRow 86 7 = some (.sipush (-3000), 0, 0, 0, (some (Jvm.ClassFile.FieldType.int))) := rfl
theorem i_86_10 : iRow 86 10 = some (.ireturn, 0, 0, 0, (some (Jvm.ClassFile.FieldType.int))) := rfl
theorem i_86_11 : iRow 86 11 = some (.iconst 0, 0, 0, 0, (some (Jvm.ClassFile.FieldType.int))) := rfl
theorem i_86_12 : iRow 86 12 = some (.istore_n 3, 0, 0, 0, (some (Jvm.ClassFile.FieldType.int))) := rfl
theorem i_86_13 : iRow 86 13 = some (.iload_n 1, 0, 0, 0, (some (Jvm.ClassFile.FieldType.int))) := rfl
theorem i_86_14 : iRow 86 14 = some (.istore 4, 0, 0, 0, (some (Jvm.ClassFile.FieldType.int))) := rfl
theorem i_86_16 : iRow 86 16 = some (.iload 4, 0, 0, 0, (some (Jvm.ClassFile.FieldType.int))) := rfl
theorem i_86_18 : iRow 86 18 = some (.iload_n 2, 0, 0, 0, (some (Jvm.ClassFile.FieldType.int))) := rfl
theorem i_86_19 : iRow 86 19 = some (.if_icmp .ge 30, 0, 0, 0, (some (Jvm.ClassFile.FieldType.int))) := rfl
theorem i_86_22 : iRow 86 22 = some (.bipush 10, 0, 0, 0, (some (Jvm.ClassFile.FieldType.int))) := rfl
theorem i_86_24 : iRow 86 24 = some (.iload_n 3, 0, 0, 0, (some (Jvm.ClassFile.FieldType.int))) := rfl
theorem i_86_25 : iRow 86 25 = some (.imul, 0, 0, 0, (some (Jvm.ClassFile.FieldType.int))) := rfl
theorem i_86_26 : iRow 86 26 = some (.aload_n 0, 0, 0, 0, (some (Jvm.ClassFile.FieldType.int))) := rfl
theorem i_86_27 : iRow 86 27 = some (.getfield 25, 5, 2, 0, (some (Jvm.ClassFile.FieldType.int))) := rfl
theorem i_86_30 : iRow 86 30 = some (.getfield 68, 1, 8, 0, (some (Jvm.ClassFile.FieldType.int))) := rfl
theorem i_86_33 : iRow 86 33 = some (.iload 4, 0, 0, 0, (some (Jvm.ClassFile.FieldType.int))) := rfl
theorem i_86_35 : iRow 86 35 = some (.invokestatic 57, 26, 28, 3, (some (Jvm.ClassFile.FieldType.int))) := rfl
theorem i_86_38 : iRow 86 38 = some (.iadd, 0, 0, 0, (some (Jvm.ClassFile.FieldType.int))) := rfl
theorem i_86_39 : iRow 86 39 = some (.bipush 48, 0, 0, 0, (some (Jvm.ClassFile.FieldType.int))) := rfl
theorem i_86_41 : iRow 86 41 = some (.isub, 0, 0, 0, (some (Jvm.ClassFile.FieldType.int))) := rfl
theorem i_86_42 : iRow 86 42 = some (.istore_n 3, 0, 0, 0, (some (Jvm.ClassFile.FieldType.int))) := rfl
theorem i_86_43 : iRow 86 43 = some (.iinc 4 1, 0, 0, 0, (some (Jvm.ClassFile.FieldType.int))) := rfl
theorem i_86_46 : iRow 86 46 = some (.goto (-30), 0, 0, 0, (some (Jvm.ClassFile.FieldType.int))) := rfl
theorem i_86_49 : iRow 86 49 = some (.iload_n 3, 0, 0, 0, (some (Jvm.ClassFile.FieldType.int))) := rfl
theorem i_86_50 : iRow 86 50 = some (.ireturn, 0, 0, 0, (some (Jvm.ClassFile.FieldType.int))) := rfl
theorem i_87_0 : iRow 87 0 = some (.aload_n 0, 0, 0, 0, (some (Jvm.ClassFile.FieldType.boolean))) := rfl
theorem i_87_1 : iRow 87 1 = some (.getfield 38, 18, 2, 8, (some (Jvm.ClassFile.FieldType.boolean))) := rfl
theorem i_87_4 : iRow 87 4 = some (.bipush (-10), 0, 0, 0, (some (Jvm.ClassFile.FieldType.boolean))) := rfl
theorem i_87_6 : iRow 87 6 = some (.if_icmp .eq 8, 0, 0, 0, (some (Jvm.ClassFile.FieldType.boolean))) := rfl
theorem i_87_9 : iRow 87 9 = some (.aload_n 0, 0, 0, 0, (some (Jvm.ClassFile.FieldType.boolean))) := rfl
theorem i_87_10 : iRow 87 10 = some (.invokevirtual 48, 108, 88, 1, (some (Jvm.ClassFile.FieldType.boolean))) := rfl
theorem i_87_13 : iRow 87 13 = some (.ireturn, 0, 0, 0, (some (Jvm.ClassFile.FieldType.boolean))) := rfl
theorem i_87_14 : iRow 87 14 = some (.aload_n 0, 0, 0, 0, (some (Jvm.ClassFile.FieldType.boolean))) := rfl
theorem i_87_15 : iRow 87 15 = some (.invokevirtual 51, 109, 89, 1, (some (Jvm.ClassFile.FieldType.boolean))) := rfl
theorem i_87_18 : iRow 87 18 = some (.aload_n 0, 0, 0, 0, (some (Jvm.ClassFile.FieldType.boolean))) := rfl
theorem i_87_19 : iRow 87 19 = some (.getfield 38, 18, 2, 8, (some (Jvm.ClassFile.FieldType.boolean))) := rfl
theorem i_87_22 : iRow 87 22 = some (.ifCond .ge 8, 0, 0, 0, (some (Jvm.ClassFile.FieldType.boolean))) := rfl
theorem i_87_25 : iRow 87 25 = some (.aload_n 0, 0, 0, 0, (some (Jvm.ClassFile.FieldType.boolean))) := rfl
theorem i_87_26 : iRow 87 26 = some (.invokevirtual 48, 108, 88, 1, (some (Jvm.ClassFile.FieldType.boolean))) := rfl
theorem i_87_29 : iRow 87 29 = some (.ireturn, 0, 0, 0, (some (Jvm.ClassFile.FieldType.boolean))) := rfl
theorem i_87_30 : iRow 87 30 = some (.aload_n 0, 0, 0, 0, (some (Jvm.ClassFile.FieldType.boolean))) := rfl
theorem i_87_31 : iRow 87 31 = some (.aload_n 0, 0, 0, 0, (some (Jvm.ClassFile.FieldType.boolean))) := rfl
theorem i_87_32 : iRow 87 32 = some (.getfield 38, 18, 2, 8, (some (Jvm.ClassFile.FieldType.boolean))) := rfl
theorem i_87_35 : iRow 87 35 = some (.invokevirtual 104, 110, 90, 1, (some (Jvm.ClassFile.FieldType.boolean))) := rfl
theorem i_87_38 : iRow 87 38 = some (.aload_n 0, 0, 0, 0, (some (Jvm.ClassFile.FieldType.boolean))) := rfl
theorem i_87_39 : iRow 87 39 = some (.invokevirtual 51, 109, 89, 1, (some (Jvm.ClassFile.FieldType.boolean))) := rfl
theorem i_87_42 : iRow 87 42 = some (.aload_n 0, 0, 0, 0, (some (Jvm.ClassFile.FieldType.boolean))) := rfl
theorem i_87_43 : iRow 87 43 = some (.getfield 38, 18, 2, 8, (some (Jvm.ClassFile.FieldType.boolean))) := rfl
theorem i_87_46 : iRow 87 46 = some (.sipush (-1042), 0, 0, 0, (some (Jvm.ClassFile.FieldType.boolean))) := rfl
theorem i_87_49 : iRow 87 49 = some (.if_icmp .ne 38, 0, 0, 0, (some (Jvm.ClassFile.FieldType.boolean))) := rfl
theorem i_87_52 : iRow 87 52 = some (.aload_n 0, 0, 0, 0, (some (Jvm.ClassFile.FieldType.boolean))) := rfl
theorem i_87_53 : iRow 87 53 = some (.invokevirtual 51, 109, 89, 1, (some (Jvm.ClassFile.FieldType.boolean))) := rfl
theorem i_87_56 : iRow 87 56 = some (.aload_n 0, 0, 0, 0, (some (Jvm.ClassFile.FieldType.boolean))) := rfl
theorem i_87_57 : iRow 87 57 = some (.invokevirtual 108, 111, 91, 1, (some (Jvm.ClassFile.FieldType.boolean))) := rfl
theorem i_87_60 : iRow 87 60 = some (.ifCond .ne 8, 0, 0, 0, (some (Jvm.ClassFile.FieldType.boolean))) := rfl
theorem i_87_63 : iRow 87 63 = some (.aload_n 0, 0, 0, 0, (some (Jvm.ClassFile.FieldType.boolean))) := rfl
theorem i_87_64 : iRow 87 64 = some (.invokevirtual 48, 108, 88, 1, (some (Jvm.ClassFile.FieldType.boolean))) := rfl
theorem i_87_67 : iRow 87 67 = some (.ireturn, 0, 0, 0, (some (Jvm.ClassFile.FieldType.boolean))) := rfl
theorem i_87_68 : iRow 87 68 = some (.aload_n 0, 0, 0, 0, (some (Jvm.ClassFile.FieldType.boolean))) := rfl
theorem i_87_69 : iRow 87 69 = some (.aload_n 0, 0, 0, 0, (some (Jvm.ClassFile.FieldType.boolean))) := rfl
theorem i_87_70 : iRow 87 70 = some (.getfield 38, 18, 2, 8, (some (Jvm.ClassFile.FieldType.boolean))) := rfl
theorem i_87_73 : iRow 87 73 = some (.invokevirtual 104, 110, 90, 1, (some (Jvm.ClassFile.FieldType.boolean))) := rfl
theorem i_87_76 : iRow 87 76 = some (.aload_n 0, 0, 0, 0, (some (Jvm.ClassFile.FieldType.boolean))) := rfl
theorem i_87_77 : iRow 87 77 = some (.sipush (-1042), 0, 0, 0, (some (Jvm.ClassFile.FieldType.boolean))) := rfl
theorem i_87_80 : iRow 87 80 = some (.invokevirtual 104, 110, 90, 1, (some (Jvm.ClassFile.FieldType.boolean))) := rfl
theorem i_87_83 : iRow 87 83 = some (.aload_n 0, 0, 0, 0, (some (Jvm.ClassFile.FieldType.boolean))) := rfl
theorem i_87_84 : iRow 87 84 = some (.invokevirtual 51, 109, 89, 1, (some (Jvm.ClassFile.FieldType.boolean))) := rfl
theorem i_87_87 : iRow 87 87 = some (.aload_n 0, 0, 0, 0, (some (Jvm.ClassFile.FieldType.boolean))) := rfl
theorem i_87_88 : iRow 87 88 = some (.getfield 38, 18, 2, 8, (some (Jvm.ClassFile.FieldType.boolean))) := rfl
theorem i_87_91 : iRow 87 91 = some (.bipush (-11), 0, 0, 0, (some (Jvm.ClassFile.FieldType.boolean))) := rfl
theorem i_87_93 : iRow 87 93 = some (.if_icmp .ne 23, 0, 0, 0, (some (Jvm.ClassFile.FieldType.boolean))) := rfl
theorem i_87_96 : iRow 87 96 = some (.aload_n 0, 0, 0, 0, (some (Jvm.ClassFile.FieldType.boolean))) := rfl
theorem i_87_97 : iRow 87 97 = some (.invokevirtual 51, 109, 89, 1, (some (Jvm.ClassFile.FieldType.boolean))) := rfl
theorem i_87_100 : iRow 87 100 = some (.aload_n 0, 0, 0, 0, (some (Jvm.ClassFile.FieldType.boolean))) := rfl
theorem i_87_101 : iRow 87 101 = some (.iconst 0, 0, 0, 0, (some (Jvm.ClassFile.FieldType.boolean))) := rfl
theorem i_87_102 : iRow 87 102 = some (.invokevirtual 111, 112, 92, 1, (some (Jvm.ClassFile.FieldType.boolean))) := rfl
theorem i_87_105 : iRow 87 105 = some (.ifCond .ne 5, 0, 0, 0, (some (Jvm.ClassFile.FieldType.boolean))) := rfl
theorem i_87_108 : iRow 87 108 = some (.iconst 0, 0, 0, 0, (some (Jvm.ClassFile.FieldType.boolean))) := rfl
theorem i_87_109 : iRow 87 109 = some (.ireturn, 0, 0, 0, (some (Jvm.ClassFile.FieldType.boolean))) := rfl
theorem i_87_110 : iRow 87 110 = some (.aload_n 0, 0, 0, 0, (some (Jvm.ClassFile.FieldType.boolean))) := rfl
theorem i_87_111 : iRow 87 111 = some (.bipush (-11), 0, 0, 0, (some (Jvm.ClassFile.FieldType.boolean))) := rfl
theorem i_87_113 : iRow 87 113 = some (.invokevirtual 104, 110, 90, 1, (some (Jvm.ClassFile.FieldType.boolean))) := rfl
theorem i_87_116 : iRow 87 116 = some (.aload_n 0, 0, 0, 0, (some (Jvm.ClassFile.FieldType.boolean))) := rfl
theorem i_87_117 : iRow 87 117 = some (.bipush (-10), 0, 0, 0, (some (Jvm.ClassFile.FieldType.boolean))) := rfl
theorem i_87_119 : iRow 87 119 = some (.invokevirtual 104, 110, 90, 1, (some (Jvm.ClassFile.FieldType.boolean))) := rfl
theorem i_87_122 : iRow 87 122 = some (.iconst 1, 0, 0, 0, (some (Jvm.ClassFile.FieldType.boolean))) := rfl
theorem i_87_123 : iRow 87 123 = some (.ireturn, 0, 0, 0, (some (Jvm.ClassFile.FieldType.boolean))) := rfl
theorem i_91_0 : iRow 91 0 = some (.aload_n 0, 0, 0, 0, (some (Jvm.ClassFile.FieldType.boolean))) := rfl
theorem i_91_1 : iRow 91 1 = some (.getfield 38, 18, 2, 8, (some (Jvm.ClassFile.FieldType.boolean))) := rfl
theorem i_91_4 : iRow 91 4 = some (.iconst (-1), 0, 0, 0, (some (Jvm.ClassFile.FieldType.boolean))) := rfl
theorem i_91_5 : iRow 91 5 = some (.if_icmp .gt 16, 0, 0, 0, (some (Jvm.ClassFile.FieldType.boolean))) := rfl
theorem i_91_8 : iRow 91 8 = some (.aload_n 0, 0, 0, 0, (some (Jvm.ClassFile.FieldType.boolean))) := rfl
theorem i_91_9 : iRow 91 9 = some (.getfield 38, 18, 2, 8, (some (Jvm.ClassFile.FieldType.boolean))) := rfl
theorem i_91_12 : iRow 91 12 = some (.bipush (-4), 0, 0, 0, (some (Jvm.ClassFile.FieldType.boolean))) := rfl
theorem i_91_14 : iRow 91 14 = some (.if_icmp .lt 7, 0, 0, 0, (some (Jvm.ClassFile.FieldType.boolean))) := rfl
theorem i_91_17 : iRow 91 17 = some (.iconst 1, 0, 0, 0, (some (Jvm.ClassFile.FieldType.boolean))) := rfl
theorem i_91_18 : iRow 91 18 = some (.goto 4, 0, 0, 0, (some (Jvm.ClassFile.FieldType.boolean))) := rfl
theorem i_91_21 : iRow 91 21 = some (.iconst 0, 0, 0, 0, (some (Jvm.ClassFile.FieldType.boolean))) := rfl
theorem i_91_22 : iRow 91 22 = some (.ireturn, 0, 0, 0, (some (Jvm.ClassFile.FieldType.boolean))) := rfl
theorem i_92_0 : iRow 92 0 = some (.aload_n 0, 0, 0, 0, (some (Jvm.ClassFile.FieldType.boolean))) := rfl
theorem i_92_1 : iRow 92 1 = some (.iload_n 1, 0, 0, 0, (some (Jvm.ClassFile.FieldType.boolean))) := rfl
theorem i_92_2 : iRow 92 2 = some (.invokevirtual 114, 113, 93, 1, (some (Jvm.ClassFile.FieldType.boolean))) := rfl
theorem i_92_5 : iRow 92 5 = some (.ifCond .ne 5, 0, 0, 0, (some (Jvm.ClassFile.FieldType.boolean))) := rfl
theorem i_92_8 : iRow 92 8 = some (.iconst 0, 0, 0, 0, (some (Jvm.ClassFile.FieldType.boolean))) := rfl
theorem i_92_9 : iRow 92 9 = some (.ireturn, 0, 0, 0, (some (Jvm.ClassFile.FieldType.boolean))) := rfl
theorem i_92_10 : iRow 92 10 = some (.iconst 0, 0, 0, 0, (some (Jvm.ClassFile.FieldType.boolean))) := rfl
theorem i_92_11 : iRow 92 11 = some (.istore_n 2, 0, 0, 0, (some (Jvm.ClassFile.FieldType.boolean))) := rfl
theorem i_92_12 : iRow 92 12 = some (.iconst 0, 0, 0, 0, (some (Jvm.ClassFile.FieldType.boolean))) := rfl
theorem i_92_13 : iRow 92 13 = some (.istore_n 3, 0, 0, 0, (some (Jvm.ClassFile.FieldType.boolean))) := rfl
theorem i_92_14 : iRow 92 14 = some (.iload_n 3, 0, 0, 0, (some (Jvm.ClassFile.FieldType.boolean))) := rfl
theorem i_92_15 : iRow 92 15 = some (.sipush 400, 0, 0, 0, (some (Jvm.ClassFile.FieldType.boolean))) := rfl
theorem i_92_18 : iRow 92 18 = some (.if_icmp .ge 98, 0, 0, 0, (some (Jvm.ClassFile.FieldType.boolean))) := rfl
theorem i_92_21 : iRow 92 21 = some (.aload_n 0, 0, 0, 0, (some (Jvm.ClassFile.FieldType.boolean))) := rfl
theorem i_92_22 : iRow 92 22 = some (.getfield 38, 18, 2, 8, (some (Jvm.ClassFile.FieldType.boolean))) := rfl
theorem i_92_25 : iRow 92 25 = some (.bipush (-8), 0, 0, 0, (some (Jvm.ClassFile.FieldType.boolean))) := rfl
theorem i_92_27 : iRow 92 27 = some (.if_icmp .eq 12, 0, 0, 0, (some (Jvm.ClassFile.FieldType.boolean))) := rfl
theorem i_92_30 : iRow 92 30 = some (.aload_n 0, 0, 0, 0, (some (Jvm.ClassFile.FieldType.boolean))) := rfl
theorem i_92_31 : iRow 92 31 = some (.getfield 38, 18, 2, 8, (some (Jvm.ClassFile.FieldType.boolean))) := rfl
theorem i_92_34 : iRow 92 34 = some (.bipush (-9), 0, 0, 0, (some (Jvm.ClassFile.FieldType.boolean))) := rfl
theorem i_92_36 : iRow 92 36 = some (.if_icmp .ne 80, 0, 0, 0, (some (Jvm.ClassFile.FieldType.boolean))) := rfl
theorem i_92_39 : iRow 92 39 = some (.aload_n 0, 0, 0, 0, (some (Jvm.ClassFile.FieldType.boolean))) := rfl
theorem i_92_40 : iRow 92 40 = some (.getfield 38, 18, 2, 8, (some (Jvm.ClassFile.FieldType.boolean))) := rfl
theorem i_92_43 : iRow 92 43 = some (.bipush (-8), 0, 0, 0, (some (Jvm.ClassFile.FieldType.boolean))) := rfl
theorem i_92_45 : iRow 92 45 = some (.if_icmp .ne 7, 0, 0, 0, (some (Jvm.ClassFile.FieldType.boolean))) := rfl
theorem i_92_48 : iRow 92 48 = some (.iconst 1, 0, 0, 0, (some (Jvm.ClassFile.FieldType.boolean))) := rfl
theorem i_92_49 : iRow 92 49 = some (.goto 4, 0, 0, 0, (some (Jvm.ClassFile.FieldType.boolean))) := rfl
theorem i_92_52 : iRow 92 52 = some (.iconst 0, 0, 0, 0, (some (Jvm.ClassFile.FieldType.boolean))) := rfl
theorem i_92_53 : iRow 92 53 = some (.istore 4, 0, 0, 0, (some (Jvm.ClassFile.FieldType.boolean))) := rfl
theorem i_92_55 : iRow 92 55 = some (.iload 4, 0, 0, 0, (some (Jvm.ClassFile.FieldType.boolean))) := rfl
theorem i_92_57 : iRow 92 57 = some (.ifCond .ne 13, 0, 0, 0, (some (Jvm.ClassFile.FieldType.boolean))) := rfl
theorem i_92_60 : iRow 92 60 = some (.iload_n 2, 0, 0, 0, (some (Jvm.ClassFile.FieldType.boolean))) := rfl
theorem i_92_61 : iRow 92 61 = some (.ifCond .eq 9, 0, 0, 0, (some (Jvm.ClassFile.FieldType.boolean))) := rfl
theorem i_92_64 : iRow 92 64 = some (.aload_n 0, 0, 0, 0, (some (Jvm.ClassFile.FieldType.boolean))) := rfl
theorem i_92_65 : iRow 92 65 = some (.bipush (-9), 0, 0, 0, (some (Jvm.ClassFile.FieldType.boolean))) := rfl
theorem i_92_67 : iRow 92 67 = some (.invokevirtual 104, 110, 90, 1, (some (Jvm.ClassFile.FieldType.boolean))) := rfl
theorem i_92_70 : iRow 92 70 = some (.iload_n 2, 0, 0, 0, (some (Jvm.ClassFile.FieldType.boolean))) := rfl
theorem i_92_71 : iRow 92 71 = some (.ifCond .ne 8, 0, 0, 0, (some (Jvm.ClassFile.FieldType.boolean))) := rfl
theorem i_92_74 : iRow 92 74 = some (.iload 4, 0, 0, 0, (some (Jvm.ClassFile.FieldType.boolean))) := rfl
theorem i_92_76 : iRow 92 76 = some (.ifCond .ne 7, 0, 0, 0, (some (Jvm.ClassFile.FieldType.boolean))) := rfl
theorem i_92_79 : iRow 92 79 = some (.iconst 1, 0, 0, 0, (some (Jvm.ClassFile.FieldType.boolean))) := rfl
theorem i_92_80 : iRow 92 80 = some (.goto 4, 0, 0, 0, (some (Jvm.ClassFile.FieldType.boolean))) := rfl
theorem i_92_83 : iRow 92 83 = some (.iconst 0, 0, 0, 0, (some (Jvm.ClassFile.FieldType.boolean))) := rfl
theorem i_92_84 : iRow 92 84 = some (.istore_n 2, 0, 0, 0, (some (Jvm.ClassFile.FieldType.boolean))) := rfl
theorem i_92_85 : iRow 92 85 = some (.aload_n 0, 0, 0, 0, (some (Jvm.ClassFile.FieldType.boolean))) := rfl
theorem i_92_86 : iRow 92 86 = some (.invokevirtual 51, 109, 89, 1, (some (Jvm.ClassFile.FieldType.boolean))) := rfl
theorem i_92_89 : iRow 92 89 = some (.aload_n 0, 0, 0, 0, (some (Jvm.ClassFile.FieldType.boolean))) := rfl
theorem i_92_90 : iRow 92 90 = some (.iload_n 1, 0, 0, 0, (some (Jvm.ClassFile.FieldType.boolean))) := rfl
theorem i_92_91 : iRow 92 91 = some (.invokevirtual 114, 113, 93, 1, (some (Jvm.ClassFile.FieldType.boolean))) := rfl
theorem i_92_94 : iRow 92 94 = some (.ifCond .ne 5, 0, 0, 0, (some (Jvm.ClassFile.FieldType.boolean))) := rfl
theorem i_92_97 : iRow 92 97 = some (.iconst 0, 0, 0, 0, (some (Jvm.ClassFile.FieldType.boolean))) := rfl
theorem i_92_98 : iRow 92 98 = some (.ireturn, 0, 0, 0, (some (Jvm.ClassFile.FieldType.boolean))) := rfl
theorem i_92_99 : iRow 92 99 = some (.iload 4, 0, 0, 0, (some (Jvm.ClassFile.FieldType.boolean))) := rfl
theorem i_92_101 : iRow 92 101 = some (.ifCond .eq 9, 0, 0, 0, (some (Jvm.ClassFile.FieldType.boolean))) := rfl
theorem i_92_104 : iRow 92 104 = some (.aload_n 0, 0, 0, 0, (some (Jvm.ClassFile.FieldType.boolean))) := rfl
theorem i_92_105 : iRow 92 105 = some (.bipush (-8), 0, 0, 0, (some (Jvm.ClassFile.FieldType.boolean))) := rfl
theorem i_92_107 : iRow 92 107 = some (.invokevirtual 104, 110, 90, 1, (some (Jvm.ClassFile.FieldType.boolean))) := rfl
theorem i_92_110 : iRow 92 110 = some (.iinc 3 1, 0, 0, 0, (some (Jvm.ClassFile.FieldType.boolean))) := rfl
theorem i_92_113 : iRow 92 113 = some (.goto (-99), 0, 0, 0, (some (Jvm.ClassFile.FieldType.boolean))) := rfl
theorem i_92_116 : iRow 92 116 = some (.iload_n 2, 0, 0, 0, (some (Jvm.ClassFile.FieldType.boolean))) := rfl
theorem i_92_117 : iRow 92 117 = some (.ifCond .eq 9, 0, 0, 0, (some (Jvm.ClassFile.FieldType.boolean))) := rfl
theorem i_92_120 : iRow 92 120 = some (.aload_n 0, 0, 0, 0, (some (Jvm.ClassFile.FieldType.boolean))) := rfl
theorem i_92_121 : iRow 92 121 = some (.bipush (-9), 0, 0, 0, (some (Jvm.ClassFile.FieldType.boolean))) := rfl
theorem i_92_123 : iRow 92 123 = some (.invokevirtual 104, 110, 90, 1, (some (Jvm.ClassFile.FieldType.boolean))) := rfl
theorem i_92_126 : iRow 92 126 = some (.iconst 1, 0, 0, 0, (some (Jvm.ClassFile.FieldType.boolean))) := rfl
theorem i_92_127 : iRow 92 127 = some (.ireturn, 0, 0, 0, (some (Jvm.ClassFile.FieldType.boolean))) := rfl
theorem i_93_0 : iRow 93 0 = some (.aload_n 0, 0, 0, 0, (some (Jvm.ClassFile.FieldType.boolean))) := rfl
theorem i_93_1 : iRow 93 1 = some (.getfield 38, 18, 2, 8, (some (Jvm.ClassFile.FieldType.boolean))) := rfl
theorem i_93_4 : iRow 93 4 = some (.bipush (-7), 0, 0, 0, (some (Jvm.ClassFile.FieldType.boolean))) := rfl
theorem i_93_6 : iRow 93 6 = some (.if_icmp .eq 13, 0, 0, 0, (some (Jvm.ClassFile.FieldType.boolean))) := rfl
theorem i_93_9 : iRow 93 9 = some (.aload_n 0, 0, 0, 0, (some (Jvm.ClassFile.FieldType.boolean))) := rfl
theorem i_93_10 : iRow 93 10 = some (.getfield 38, 18, 2, 8, (some (Jvm.ClassFile.FieldType.boolean))) := rfl
theorem i_93_13 : iRow 93 13 = some (.sipush (-1040), 0, 0, 0, (some (Jvm.ClassFile.FieldType.boolean))) := rfl
theorem i_93_16 : iRow 93 16 = some (.if_icmp .ne 24, 0, 0, 0, (some (Jvm.ClassFile.FieldType.boolean))) := rfl
theorem i_93_19 : iRow 93 19 = some (.iload_n 1, 0, 0, 0, (some (Jvm.ClassFile.FieldType.boolean))) := rfl
theorem i_93_20 : iRow 93 20 = some (.bipush 6, 0, 0, 0, (some (Jvm.ClassFile.FieldType.boolean))) := rfl
theorem i_93_22 : iRow 93 22 = some (.if_icmp .ge 13, 0, 0, 0, (some (Jvm.ClassFile.FieldType.boolean))) := rfl
theorem i_93_25 : iRow 93 25 = some (.aload_n 0, 0, 0, 0, (some (Jvm.ClassFile.FieldType.boolean))) := rfl
theorem i_93_26 : iRow 93 26 = some (.iload_n 1, 0, 0, 0, (some (Jvm.ClassFile.FieldType.boolean))) := rfl
theorem i_93_27 : iRow 93 27 = some (.iconst 1, 0, 0, 0, (some (Jvm.ClassFile.FieldType.boolean))) := rfl
theorem i_93_28 : iRow 93 28 = some (.iadd, 0, 0, 0, (some (Jvm.ClassFile.FieldType.boolean))) := rfl
theorem i_93_29 : iRow 93 29 = some (.invokevirtual 117, 114, 94, 1, (some (Jvm.ClassFile.FieldType.boolean))) := rfl
theorem i_93_32 : iRow 93 32 = some (.goto 7, 0, 0, 0, (some (Jvm.ClassFile.FieldType.boolean))) := rfl
theorem i_93_35 : iRow 93 35 = some (.aload_n 0, 0, 0, 0, (some (Jvm.ClassFile.FieldType.boolean))) := rfl
theorem i_93_36 : iRow 93 36 = some (.invokevirtual 48, 108, 88, 1, (some (Jvm.ClassFile.FieldType.boolean))) := rfl
theorem i_93_39 : iRow 93 39 = some (.ireturn, 0, 0, 0, (some (Jvm.ClassFile.FieldType.boolean))) := rfl
theorem i_93_40 : iRow 93 40 = some (.aload_n 0, 0, 0, 0, (some (Jvm.ClassFile.FieldType.boolean))) := rfl
theorem i_93_41 : iRow 93 41 = some (.getfield 38, 18, 2, 8, (some (Jvm.ClassFile.FieldType.boolean))) := rfl
theorem i_93_44 : iRow 93 44 = some (.bipush (-5), 0, 0, 0, (some (Jvm.ClassFile.FieldType.boolean))) := rfl
theorem i_93_46 : iRow 93 46 = some (.if_icmp .eq 12, 0, 0, 0, (some (Jvm.ClassFile.FieldType.boolean))) := rfl
theorem i_93_49 : iRow 93 49 = some (.aload_n 0, 0, 0, 0, (some (Jvm.ClassFile.FieldType.boolean))) := rfl
theorem i_93_50 : iRow 93 50 = some (.getfield 38, 18, 2, 8, (some (Jvm.ClassFile.FieldType.boolean))) := rfl
theorem i_93_53 : iRow 93 53 = some (.bipush (-6), 0, 0, 0, (some (Jvm.ClassFile.FieldType.boolean))) := rfl
theorem i_93_55 : iRow 93 55 = some (.if_icmp .ne 17, 0, 0, 0, (some (Jvm.ClassFile.FieldType.boolean))) := rfl
theorem i_93_58 : iRow 93 58 = some (.aload_n 0, 0, 0, 0, (some (Jvm.ClassFile.FieldType.boolean))) := rfl
theorem i_93_59 : iRow 93 59 = some (.aload_n 0, 0, 0, 0, (some (Jvm.ClassFile.FieldType.boolean))) := rfl
theorem i_93_60 : iRow 93 60 = some (.getfield 38, 18, 2, 8, (some (Jvm.ClassFile.FieldType.boolean))) := rfl
theorem i_93_63 : iRow 93 63 = some (.invokevirtual 104, 110, 90, 1, (some (Jvm.ClassFile.FieldType.boolean))) := rfl
theorem i_93_66 : iRow 93 66 = some (.aload_n 0, 0, 0, 0, (some (Jvm.ClassFile.FieldType.boolean))) := rfl
theorem i_93_67 : iRow 93 67 = some (.invokevirtual 51, 109, 89, 1, (some (Jvm.ClassFile.FieldType.boolean))) := rfl
theorem i_93_70 : iRow 93 70 = some (.iconst 1, 0, 0, 0, (some (Jvm.ClassFile.FieldType.boolean))) := rfl
theorem i_93_71 : iRow 93 71 = some (.ireturn, 0, 0, 0, (some (Jvm.ClassFile.FieldType.boolean))) := rfl
theorem i_93_72 : iRow 93 72 = some (.aload_n 0, 0, 0, 0, (some (Jvm.ClassFile.FieldType.boolean))) := rfl
theorem i_93_73 : iRow 93 73 = some (.invokevirtual 120, 115, 95, 1, (some (Jvm.ClassFile.FieldType.boolean))) := rfl
theorem i_93_76 : iRow 93 76 = some (.ifCond .ne 5, 0, 0, 0, (some (Jvm.ClassFile.FieldType.boolean))) := rfl
theorem i_93_79 : iRow 93 79 = some (.iconst 0, 0, 0, 0, (some (Jvm.ClassFile.FieldType.boolean))) := rfl
theorem i_93_80 : iRow 93 80 = some (.ireturn, 0, 0, 0, (some (Jvm.ClassFile.FieldType.boolean))) := rfl
theorem i_93_81 : iRow 93 81 = some (.aload_n 0, 0, 0, 0, (some (Jvm.ClassFile.FieldType.boolean))) := rfl
theorem i_93_82 : iRow 93 82 = some (.getfield 38, 18, 2, 8, (some (Jvm.ClassFile.FieldType.boolean))) := rfl
theorem i_93_85 : iRow 93 85 = some (.istore_n 2, 0, 0, 0, (some (Jvm.ClassFile.FieldType.boolean))) := rfl
theorem i_93_86 : iRow 93 86 = some (.iload_n 2, 0, 0, 0, (some (Jvm.ClassFile.FieldType.boolean))) := rfl
theorem i_93_87 : iRow 93 87 = some (.sipush (-1060), 0, 0, 0, (some (Jvm.ClassFile.FieldType.boolean))) := rfl
theorem i_93_90 : iRow 93 90 = some (.if_icmp .eq 15, 0, 0, 0, (some (Jvm.ClassFile.FieldType.boolean))) := rfl
theorem i_93_93 : iRow 93 93 = some (.iload_n 2, 0, 0, 0, (some (Jvm.ClassFile.FieldType.boolean))) := rfl
theorem i_93_94 : iRow 93 94 = some (.sipush (-1062), 0, 0, 0, (some (Jvm.ClassFile.FieldType.boolean))) := rfl
theorem i_93_97 : iRow 93 97 = some (.if_icmp .eq 8, 0, 0, 0, (some (Jvm.ClassFile.FieldType.boolean))) := rfl
theorem i_93_100 : iRow 93 100 = some (.aload_n 0, 0, 0, 0, (some (Jvm.ClassFile.FieldType.boolean))) := rfl
theorem i_93_101 : iRow 93 101 = some (.invokevirtual 48, 108, 88, 1, (some (Jvm.ClassFile.FieldType.boolean))) := rfl
theorem i_93_104 : iRow 93 104 = some (.ireturn, 0, 0, 0, (some (Jvm.ClassFile.FieldType.boolean))) := rfl
theorem i_93_105 : iRow 93 105 = some (.aload_n 0, 0, 0, 0, (some (Jvm.ClassFile.FieldType.boolean))) := rfl
theorem i_93_106 : iRow 93 106 = some (.invokevirtual 51, 109, 89, 1, (some (Jvm.ClassFile.FieldType.boolean))) := rfl
theorem i_93_109 : iRow 93 109 = some (.aload_n 0, 0, 0, 0, (some (Jvm.ClassFile.FieldType.boolean))) := rfl
theorem i_93_110 : iRow 93 110 = some (.invokevirtual 120, 115, 95, 1, (some (Jvm.ClassFile.FieldType.boolean))) := rfl
theorem i_93_113 : iRow 93 113 = some (.ifCond .ne 5, 0, 0, 0, (some (Jvm.ClassFile.FieldType.boolean))) := rfl
theorem i_93_116 : iRow 93 116 = some (.iconst 0, 0, 0, 0, (some (Jvm.ClassFile.FieldType.boolean))) := rfl
theorem i_93_117 : iRow 93 117 = some (.ireturn, 0, 0, 0, (some (Jvm.ClassFile.FieldType.boolean))) := rfl
theorem i_93_118 : iRow 93 118 = some (.aload_n 0, 0, 0, 0, (some (Jvm.ClassFile.FieldType.boolean))) := rfl
theorem i_93_119 : iRow 93 119 = some (.iload_n 2, 0, 0, 0, (some (Jvm.ClassFile.FieldType.boolean))) := rfl
theorem i_93_120 : iRow 93 120 = some (.invokevirtual 104, 110, 90, 1, (some (Jvm.ClassFile.FieldType.boolean))) := rfl
theorem i_93_123 : iRow 93 123 = some (.iconst 1, 0, 0, 0, (some (Jvm.ClassFile.FieldType.boolean))) := rfl
theorem i_93_124 : iRow 93 124 = some (.ireturn, 0, 0, 0, (some (Jvm.ClassFile.FieldType.boolean))) := rfl
theorem i_94_0 : iRow 94 0 = some (.aload_n 0, 0, 0, 0, (some (Jvm.ClassFile.FieldType.boolean))) := rfl
theorem i_94_1 : iRow 94 1 = some (.getfield 38, 18, 2, 8, (some (Jvm.ClassFile.FieldType.boolean))) := rfl
theorem i_94_4 : iRow 94 4 = some (.bipush (-7), 0, 0, 0, (some (Jvm.ClassFile.FieldType.boolean))) := rfl
theorem i_94_6 : iRow 94 6 = some (.if_icmp .ne 7, 0, 0, 0, (some (Jvm.ClassFile.FieldType.boolean))) := rfl
theorem i_94_9 : iRow 94 9 = some (.iconst 1, 0, 0, 0, (some (Jvm.ClassFile.FieldType.boolean))) := rfl
theorem i_94_10 : iRow 94 10 = some (.goto 4, 0, 0, 0, (some (Jvm.ClassFile.FieldType.boolean))) := rfl
theorem i_94_13 : iRow 94 13 = some (.iconst 0, 0, 0, 0, (some (Jvm.ClassFile.FieldType.boolean))) := rfl
theorem i_94_14 : iRow 94 14 = some (.istore_n 2, 0, 0, 0, (some (Jvm.ClassFile.FieldType.boolean))) := rfl
theorem i_94_15 : iRow 94 15 = some (.aload_n 0, 0, 0, 0, (some (Jvm.ClassFile.FieldType.boolean))) := rfl
theorem i_94_16 : iRow 94 16 = some (.invokevirtual 51, 109, 89, 1, (some (Jvm.ClassFile.FieldType.boolean))) := rfl
theorem i_94_19 : iRow 94 19 = some (.iload_n 2, 0, 0, 0, (some (Jvm.ClassFile.FieldType.boolean))) := rfl
theorem i_94_20 : iRow 94 20 = some (.ifCond .eq 14, 0, 0, 0, (some (Jvm.ClassFile.FieldType.boolean))) := rfl
theorem i_94_23 : iRow 94 23 = some (.aload_n 0, 0, 0, 0, (some (Jvm.ClassFile.FieldType.boolean))) := rfl
theorem i_94_24 : iRow 94 24 = some (.iload_n 1, 0, 0, 0, (some (Jvm.ClassFile.FieldType.boolean))) := rfl
theorem i_94_25 : iRow 94 25 = some (.invokevirtual 114, 113, 93, 1, (some (Jvm.ClassFile.FieldType.boolean))) := rfl
theorem i_94_28 : iRow 94 28 = some (.ifCond .ne 16, 0, 0, 0, (some (Jvm.ClassFile.FieldType.boolean))) := rfl
theorem i_94_31 : iRow 94 31 = some (.goto 11, 0, 0, 0, (some (Jvm.ClassFile.FieldType.boolean))) := rfl
theorem i_94_34 : iRow 94 34 = some (.aload_n 0, 0, 0, 0, (some (Jvm.ClassFile.FieldType.boolean))) := rfl
theorem i_94_35 : iRow 94 35 = some (.iload_n 1, 0, 0, 0, (some (Jvm.ClassFile.FieldType.boolean))) := rfl
theorem i_94_36 : iRow 94 36 = some (.invokevirtual 111, 112, 92, 1, (some (Jvm.ClassFile.FieldType.boolean))) := rfl
theorem i_94_39 : iRow 94 39 = some (.ifCond .ne 5, 0, 0, 0, (some (Jvm.ClassFile.FieldType.boolean))) := rfl
theorem i_94_42 : iRow 94 42 = some (.iconst 0, 0, 0, 0, (some (Jvm.ClassFile.FieldType.boolean))) := rfl
theorem i_94_43 : iRow 94 43 = some (.ireturn, 0, 0, 0, (some (Jvm.ClassFile.FieldType.boolean))) := rfl
theorem i_94_44 : iRow 94 44 = some (.iload_n 2, 0, 0, 0, (some (Jvm.ClassFile.FieldType.boolean))) := rfl
theorem i_94_45 : iRow 94 45 = some (.ifCond .eq 11, 0, 0, 0, (some (Jvm.ClassFile.FieldType.boolean))) := rfl
theorem i_94_48 : iRow 94 48 = some (.aload_n 0, 0, 0, 0, (some (Jvm.ClassFile.FieldType.boolean))) := rfl
theorem i_94_49 : iRow 94 49 = some (.bipush (-7), 0, 0, 0, (some (Jvm.ClassFile.FieldType.boolean))) := rfl
theorem i_94_51 : iRow 94 51 = some (.invokevirtual 104, 110, 90, 1, (some (Jvm.ClassFile.FieldType.boolean))) := rfl
theorem i_94_54 : iRow 94 54 = some (.iconst 1, 0, 0, 0, (some (Jvm.ClassFile.FieldType.boolean))) := rfl
theorem i_94_55 : iRow 94 55 = some (.ireturn, 0, 0, 0, (some (Jvm.ClassFile.FieldType.boolean))) := rfl
theorem i_94_56 : iRow 94 56 = some (.aload_n 0, 0, 0, 0, (some (Jvm.ClassFile.FieldType.boolean))) := rfl
theorem i_94_57 : iRow 94 57 = some (.getfield 38, 18, 2, 8, (some (Jvm.ClassFile.FieldType.boolean))) := rfl
theorem i_94_60 : iRow 94 60 = some (.sipush (-1041), 0, 0, 0, (some (Jvm.ClassFile.FieldType.boolean))) := rfl
theorem i_94_63 : iRow 94 63 = some (.if_icmp .eq 8, 0, 0, 0, (some (Jvm.ClassFile.FieldType.boolean))) := rfl
theorem i_94_66 : iRow 94 66 = some (.aload_n 0, 0, 0, 0, (some (Jvm.ClassFile.FieldType.boolean))) := rfl
theorem i_94_67 : iRow 94 67 = some (.invokevirtual 48, 108, 88, 1, (some (Jvm.ClassFile.FieldType.boolean))) := rfl
theorem i_94_70 : iRow 94 70 = some (.ireturn, 0, 0, 0, (some (Jvm.ClassFile.FieldType.boolean))) := rfl
theorem i_94_71 : iRow 94 71 = some (.aload_n 0, 0, 0, 0, (some (Jvm.ClassFile.FieldType.boolean))) := rfl
theorem i_94_72 : iRow 94 72 = some (.invokevirtual 51, 109, 89, 1, (some (Jvm.ClassFile.FieldType.boolean))) := rfl
theorem i_94_75 : iRow 94 75 = some (.iconst 1, 0, 0, 0, (some (Jvm.ClassFile.FieldType.boolean))) := rfl
theorem i_94_76 : iRow 94 76 = some (.ireturn, 0, 0, 0, (some (Jvm.ClassFile.FieldType.boolean))) := rfl
theorem i_95_0 : iRow 95 0 = some (.iconst 0, 0, 0, 0, (some (Jvm.ClassFile.FieldType.boolean))) := rfl
theorem i_95_1 : iRow 95 1 = some (.istore_n 1, 0, 0, 0, (some (Jvm.ClassFile.FieldType.boolean))) := rfl
theorem i_95_2 : iRow 95 2 = some (.iload_n 1, 0, 0, 0, (some (Jvm.ClassFile.FieldType.boolean))) := rfl
theorem i_95_3 : iRow 95 3 = some (.sipush 400, 0, 0, 0, (some (Jvm.ClassFile.FieldType.boolean))) := rfl
theorem i_95_6 : iRow 95 6 = some (.if_icmp .ge 67, 0, 0, 0, (some (Jvm.ClassFile.FieldType.boolean))) := rfl
theorem i_95_9 : iRow 95 9 = some (.aload_n 0, 0, 0, 0, (some (Jvm.ClassFile.FieldType.boolean))) := rfl
theorem i_95_10 : iRow 95 10 = some (.getfield 38, 18, 2, 8, (some (Jvm.ClassFile.FieldType.boolean))) := rfl
theorem i_95_13 : iRow 95 13 = some (.ifCond .ge 15, 0, 0, 0, (some (Jvm.ClassFile.FieldType.boolean))) := rfl
theorem i_95_16 : iRow 95 16 = some (.aload_n 0, 0, 0, 0, (some (Jvm.ClassFile.FieldType.boolean))) := rfl
theorem i_95_17 : iRow 95 17 = some (.invokevirtual 108, 111, 91, 1, (some (Jvm.ClassFile.FieldType.boolean))) := rfl
theorem i_95_20 : iRow 95 20 = some (.ifCond .ne 8, 0, 0, 0, (some (Jvm.ClassFile.FieldType.boolean))) := rfl
theorem i_95_23 : iRow 95 23 = some (.aload_n 0, 0, 0, 0, (some (Jvm.ClassFile.FieldType.boolean))) := rfl
theorem i_95_24 : iRow 95 24 = some (.invokevirtual 48, 108, 88, 1, (some (Jvm.ClassFile.FieldType.boolean))) := rfl
theorem i_95_27 : iRow 95 27 = some (.ireturn, 0, 0, 0, (some (Jvm.ClassFile.FieldType.boolean))) := rfl
theorem i_95_28 : iRow 95 28 = some (.aload_n 0, 0, 0, 0, (some (Jvm.ClassFile.FieldType.boolean))) := rfl
theorem i_95_29 : iRow 95 29 = some (.aload_n 0, 0, 0, 0, (some (Jvm.ClassFile.FieldType.boolean))) := rfl
theorem i_95_30 : iRow 95 30 = some (.getfield 38, 18, 2, 8, (some (Jvm.ClassFile.FieldType.boolean))) := rfl
theorem i_95_33 : iRow 95 33 = some (.invokevirtual 104, 110, 90, 1, (some (Jvm.ClassFile.FieldType.boolean))) := rfl
theorem i_95_36 : iRow 95 36 = some (.aload_n 0, 0, 0, 0, (some (Jvm.ClassFile.FieldType.boolean))) := rfl
theorem i_95_37 : iRow 95 37 = some (.invokevirtual 51, 109, 89, 1, (some (Jvm.ClassFile.FieldType.boolean))) := rfl
theorem i_95_40 : iRow 95 40 = some (.iload_n 1, 0, 0, 0, (some (Jvm.ClassFile.FieldType.boolean))) := rfl
theorem i_95_41 : iRow 95 41 = some (.ifCond .le 10, 0, 0, 0, (some (Jvm.ClassFile.FieldType.boolean))) := rfl
theorem i_95_44 : iRow 95 44 = some (.aload_n 0, 0, 0, 0, (some (Jvm.ClassFile.FieldType.boolean))) := rfl
theorem i_95_45 : iRow 95 45 = some (.sipush (-1043), 0, 0, 0, (some (Jvm.ClassFile.FieldType.boolean))) := rfl
theorem i_95_48 : iRow 95 48 = some (.invokevirtual 104, 110, 90, 1, (some (Jvm.ClassFile.FieldType.boolean))) := rfl
theorem i_95_51 : iRow 95 51 = some (.aload_n 0, 0, 0, 0, (some (Jvm.ClassFile.FieldType.boolean))) := rfl
theorem i_95_52 : iRow 95 52 = some (.getfield 38, 18, 2, 8, (some (Jvm.ClassFile.FieldType.boolean))) := rfl
theorem i_95_55 : iRow 95 55 = some (.sipush (-1043), 0, 0, 0, (some (Jvm.ClassFile.FieldType.boolean))) := rfl
theorem i_95_58 : iRow 95 58 = some (.if_icmp .eq 5, 0, 0, 0, (some (Jvm.ClassFile.FieldType.boolean))) := rfl
theorem i_95_61 : iRow 95 61 = some (.iconst 1, 0, 0, 0, (some (Jvm.ClassFile.FieldType.boolean))) := rfl
theorem i_95_62 : iRow 95 62 = some (.ireturn, 0, 0, 0, (some (Jvm.ClassFile.FieldType.boolean))) := rfl
theorem i_95_63 : iRow 95 63 = some (.aload_n 0, 0, 0, 0, (some (Jvm.ClassFile.FieldType.boolean))) := rfl
theorem i_95_64 : iRow 95 64 = some (.invokevirtual 51, 109, 89, 1, (some (Jvm.ClassFile.FieldType.boolean))) := rfl
theorem i_95_67 : iRow 95 67 = some (.iinc 1 1, 0, 0, 0, (some (Jvm.ClassFile.FieldType.boolean))) := rfl
theorem i_95_70 : iRow 95 70 = some (.goto (-68), 0, 0, 0, (some (Jvm.ClassFile.FieldType.boolean))) := rfl
theorem i_95_73 : iRow 95 73 = some (.aload_n 0, 0, 0, 0, (some (Jvm.ClassFile.FieldType.boolean))) := rfl
theorem i_95_74 : iRow 95 74 = some (.invokevirtual 48, 108, 88, 1, (some (Jvm.ClassFile.FieldType.boolean))) := rfl
theorem i_95_77 : iRow 95 77 = some (.ireturn, 0, 0, 0, (some (Jvm.ClassFile.FieldType.boolean))) := rfl
theorem i_96_18 : iRow 96 18 = some (.invokevirtual 48, 108, 88, 1, (some (Jvm.ClassFile.FieldType.boolean))) := rfl
theorem i_96_25 : iRow 96 25 = some (.invokevirtual 51, 109, 89, 1, (some (Jvm.ClassFile.FieldType.boolean))) := rfl
theorem i_96_57 : iRow 96 57 = some (.invokevirtual 48, 108, 88, 1, (some (Jvm.ClassFile.FieldType.boolean))) := rfl
theorem i_96_62 : iRow 96 62 = some (.invokevirtual 51, 109, 89, 1, (some (Jvm.ClassFile.FieldType.boolean))) := rfl
theorem i_96_67 : iRow 96 67 = some (.invokevirtual 104, 110, 90, 1, (some (Jvm.ClassFile.FieldType.boolean))) := rfl
theorem i_96_72 : iRow 96 72 = some (.invokevirtual 104, 110, 90, 1, (some (Jvm.ClassFile.FieldType.boolean))) := rfl
theorem i_97_0 : iRow 97 0 = some (.aload_n 0, 0, 0, 0, none) := rfl
theorem i_97_1 : iRow 97 1 = some (.aload_n 0, 0, 0, 0, none) := rfl
theorem i_97_2 : iRow 97 2 = some (.getfield 21, 138, 11, 1, none) := rfl
theorem i_97_5 : iRow 97 5 = some (.getfield 116, 14, 2, 4, none) := rfl
theorem i_97_8 : iRow 97 8 = some (.putfield 63, 145, 11, 8, none) := rfl
theorem i_97_11 : iRow 97 11 = some (.aload_n 0, 0, 0, 0, none) := rfl
theorem i_97_12 : iRow 97 12 = some (.getfield 12, 137, 11, 0, none) := rfl
theorem i_97_15 : iRow 97 15 = some (.iconst 0, 0, 0, 0, none) := rfl
theorem i_97_16 : iRow 97 16 = some (.putfield 75, 3, 8, 1, none) := rfl
theorem i_97_19 : iRow 97 19 = some (.return_, 0, 0, 0, none) := rfl
theorem i_99_0 : iRow 99 0 = some (.aload_n 0, 0, 0, 0, (some (Jvm.ClassFile.FieldType.int))) := rfl
theorem i_99_1 : iRow 99 1 = some (.getfield 21, 138, 11, 1, (some (Jvm.ClassFile.FieldType.int))) := rfl
theorem i_99_4 : iRow 99 4 = some (.iconst 1, 0, 0, 0, (some (Jvm.ClassFile.FieldType.int))) := rfl
theorem i_99_5 : iRow 99 5 = some (.invokevirtual 78, 87, 79, 1, (some (Jvm.ClassFile.FieldType.int))) := rfl
theorem i_99_8 : iRow 99 8 = some (.istore_n 1, 0, 0, 0, (some (Jvm.ClassFile.FieldType.int))) := rfl
theorem i_99_9 : iRow 99 9 = some (.aload_n 0, 0, 0, 0, (some (Jvm.ClassFile.FieldType.int))) := rfl
theorem i_99_10 : iRow 99 10 = some (.invokevirtual 82, 117, 97, 1, (some (Jvm.ClassFile.FieldType.int))) := rfl
theorem i_99_13 : iRow 99 13 = some (.iload_n 1, 0, 0, 0, (some (Jvm.ClassFile.FieldType.int))) := rfl
theorem i_99_14 : iRow 99 14 = some (.ifCond .ne 13, 0, 0, 0, (some (Jvm.ClassFile.FieldType.int))) := rfl
theorem i_99_17 : iRow 99 17 = some (.new 85, 15, 0, 1, (some (Jvm.ClassFile.FieldType.int))) := rfl
theorem i_99_27 : iRow 99 27 = some (.aload_n 0, 0, 0, 0, (some (Jvm.ClassFile.FieldType.int))) := rfl
theorem i_99_28 : iRow 99 28 = some (.getfield 28, 139, 11, 2, (some (Jvm.ClassFile.FieldType.int))) := rfl
theorem i_99_31 : iRow 99 31 = some (.aload_n 0, 0, 0, 0, (some (Jvm.ClassFile.FieldType.int))) := rfl
theorem i_99_32 : iRow 99 32 = some (.getfield 21, 138, 11, 1, (some (Jvm.ClassFile.FieldType.int))) := rfl
theorem i_99_35 : iRow 99 35 = some (.invokevirtual 109, 130, 100, 1, (some (Jvm.ClassFile.FieldType.int))) := rfl
theorem i_99_38 : iRow 99 38 = some (.aload_n 0, 0, 0, 0, (some (Jvm.ClassFile.FieldType.int))) := rfl
theorem i_99_39 : iRow 99 39 = some (.invokevirtual 104, 78, 73, 1, (some (Jvm.ClassFile.FieldType.int))) := rfl
theorem i_99_42 : iRow 99 42 = some (.aload_n 0, 0, 0, 0, (some (Jvm.ClassFile.FieldType.int))) := rfl
theorem i_99_43 : iRow 99 43 = some (.getfield 21, 138, 11, 1, (some (Jvm.ClassFile.FieldType.int))) := rfl
theorem i_99_46 : iRow 99 46 = some (.getfield 113, 12, 2, 3, (some (Jvm.ClassFile.FieldType.int))) := rfl
theorem i_99_49 : iRow 99 49 = some (.ireturn, 0, 0, 0, (some (Jvm.ClassFile.FieldType.int))) := rfl
theorem i_277_4 : iRow 277 4 = some (.invokevirtual 7, 86, 78, 1, (some (Jvm.ClassFile.FieldType.int))) := rfl
theorem i_278_0 : iRow 278 0 = some (.aload_n 1, 0, 0, 0, (some (Jvm.ClassFile.FieldType.int))) := rfl
theorem i_278_1 : iRow 278 1 = some (.iconst 0, 0, 0, 0, (some (Jvm.ClassFile.FieldType.int))) := rfl
theorem i_278_2 : iRow 278 2 = some (.aload_n 0, 0, 0, 0, (some (Jvm.ClassFile.FieldType.int))) := rfl
theorem i_278_3 : iRow 278 3 = some (.invokevirtual 17, 129, 99, 1, (some (Jvm.ClassFile.FieldType.int))) := rfl
theorem i_278_6 : iRow 278 6 = some (.i2l, 0, 0, 0, (some (Jvm.ClassFile.FieldType.int))) := rfl
theorem i_278_7 : iRow 278 7 = some (.lastore, 0, 0, 0, (some (Jvm.ClassFile.FieldType.int))) := rfl
theorem i_278_8 : iRow 278 8 = some (.goto 6, 0, 0, 0, (some (Jvm.ClassFile.FieldType.int))) := rfl
theorem i_278_12 : iRow 278 12 = some (.iconst 1, 0, 0, 0, (some (Jvm.ClassFile.FieldType.int))) := rfl
theorem i_278_13 : iRow 278 13 = some (.ireturn, 0, 0, 0, (some (Jvm.ClassFile.FieldType.int))) := rfl
theorem i_278_14 : iRow 278 14 = some (.iconst 0, 0, 0, 0, (some (Jvm.ClassFile.FieldType.int))) := rfl
theorem i_278_15 : iRow 278 15 = some (.ireturn, 0, 0, 0, (some (Jvm.ClassFile.FieldType.int))) := rfl
/-! THE READER of the class, by the document's tokens -/
def atP (p : Nat) (x : Int) (es : PH) (v : Int) : Prop := v = (gA es p x.toNat).toInt
def anyV (_ : Int) (_ : PH) (v : Int) : Prop := -2147483648 ≤ v ∧ v ≤ 2147483647
def stP (p : Nat) (x v : Int) (es es' : PH) : Prop := sh es' ∧ hOK tT es' ∧ es' = sA es p x.toNat (zI v)
def anyS (p : Nat) (_ _ : Int) (es es' : PH) : Prop := sh es' ∧ hOK tT es' ∧ (∀ q b, gI es' q b = gI es q b) ∧ ∀ q, q ≠ p → gA es' q = gA es q
theorem i32r (x : Int32) : -2147483648 ≤ x.toInt ∧ x.toInt ≤ 2147483647 := i32_rng x
theorem atP_rng {p : Nat} {x v : Int} {es : PH} (h : atP p x es v) : -2147483648 ≤ v ∧ v ≤ 2147483647 := by
  unfold atP at h
  rw [h]
  exact i32r _
section
variable {O : pOut} {d kc ks p n : Nat} {Q : pRes → Prop} {es : PH} {sp : Nat → Int × Int} {x v : Int}
theorem at_any (hp : tT[p]? = some (.inl (0, n, sp))) (hs : sh es) (hn : n ≤ 2000) (hx : i32 x) (K : ∀ v, anyV x es v → Q (.inl (some (.int (zI v))), es, kc, ks)) : aW O d 28 kc ks Q (0, [some (.ref (64 + p)), some (.int (zI x))], [], es) :=
  atp (sh_arr hs hp (by decide)) (by omega) hx (fun a ha => K a ha)
theorem at_sp (hp : tT[p]? = some (.inl (0, n, sp))) (hs : sh es) (h0 : 0 ≤ x) (h1 : x < (n : Int)) (hn : n ≤ 2000) (K : ∀ v, atP p x es v → Q (.inl (some (.int (zI v))), es, kc, ks)) : aW O d 28 kc ks Q (0, [some (.ref (64 + p)), some (.int (zI x))], [], es) := by
  have hx : i32 x := by unfold i32 iLO iHI; omega
  refine x0 (r := (1, [some (.ref (64 + p)), some (.int (zI x))], [.int (zI x)], es)) i_28_0 rfl ?_
  refine x_ifF i_28_1 hx rfl (by simp only [zC, cR]; omega) ?_
  refine x0 (r := (5, [some (.ref (64 + p)), some (.int (zI x))], [.int (zI x)], es)) i_28_4 rfl ?_
  refine x0 (r := (6, [some (.ref (64 + p)), some (.int (zI x))], [.ref (64 + p), .int (zI x)], es)) i_28_5 rfl ?_
  refine x_alen i_28_6 hs hp ?_
  refine x_cmpF i_28_7 hx (by unfold i32 iLO iHI; omega) rfl (by simp only [zC, cR]; omega) ?_
  refine x0 (r := (11, [some (.ref (64 + p)), some (.int (zI x))], [.ref (64 + p)], es)) i_28_10 rfl ?_
  refine x0 (r := (12, [some (.ref (64 + p)), some (.int (zI x))], [.int (zI x), .ref (64 + p)], es)) i_28_11 rfl ?_
  refine x_iald i_28_12 hs hp hx h0 h1 ?_
  refine x0 (r := (17, [some (.ref (64 + p)), some (.int (zI x))], [.int (zI (gA es p x.toNat).toInt)], es)) i_28_13 rfl ?_
  refine x_ret (v := some (.int (zI (gA es p x.toNat).toInt))) i_28_17 rfl (fun _ => rfl) rfl rfl rfl ?_
  exact K _ rfl
theorem set_sp (hp : tT[p]? = some (.inl (0, n, sp))) (hs : sh es) (hT : hOK tT es) (hb : ∀ k, (sp k).1 ≤ iLO ∧ iHI ≤ (sp k).2) (h0 : 0 ≤ x) (h1 : x < (n : Int)) (hn : n ≤ 2000) (K : ∀ es', stP p x v es es' → Q (.inl none, es', kc, ks)) : aW O d 14 kc ks Q (0, [some (.ref (64 + p)), some (.int (zI x)), some (.int (zI v))], [], es) := by
  have hx : i32 x := by unfold i32 iLO iHI; omega
  have hT' : hOK tT (sA es p x.toNat (zI v)) := hOK_sA hT hp (fun _ => by
    have h2 := hb x.toNat
    have h3 := i32_rng (zI v)
    omega)
  refine x0 (r := (1, [some (.ref (64 + p)), some (.int (zI x)), some (.int (zI v))], [.int (zI x)], es)) i_14_0 rfl ?_
  refine x_ifF i_14_1 hx rfl (by simp only [zC, cR]; omega) ?_
  refine x0 (r := (5, [some (.ref (64 + p)), some (.int (zI x)), some (.int (zI v))], [.int (zI x)], es)) i_14_4 rfl ?_
  refine x0 (r := (6, [some (.ref (64 + p)), some (.int (zI x)), some (.int (zI v))], [.ref (64 + p), .int (zI x)], es)) i_14_5 rfl ?_
  refine x_alen i_14_6 hs hp ?_
  refine x_cmpF i_14_7 hx (by unfold i32 iLO iHI; omega) rfl (by simp only [zC, cR]; omega) ?_
  refine x0 (r := (11, [some (.ref (64 + p)), some (.int (zI x)), some (.int (zI v))], [.ref (64 + p)], es)) i_14_10 rfl ?_
  refine x0 (r := (12, [some (.ref (64 + p)), some (.int (zI x)), some (.int (zI v))], [.int (zI x), .ref (64 + p)], es)) i_14_11 rfl ?_
  refine x0 (r := (13, [some (.ref (64 + p)), some (.int (zI x)), some (.int (zI v))], [.int (zI v), .int (zI x), .ref (64 + p)], es)) i_14_12 rfl ?_
  refine x_iast i_14_13 hs hp hx h0 h1 ?_
  refine x_ret (v := none) i_14_14 rfl (fun _ => rfl) rfl rfl rfl ?_
  exact K _ ⟨sh_of hT', hT', rfl⟩
theorem set_any (hp : tT[p]? = some (.inl (0, n, sp))) (hs : sh es) (hT : hOK tT es) (hb : ∀ k, (sp k).1 ≤ iLO ∧ iHI ≤ (sp k).2) (hn : n ≤ 2000) (hx : i32 x) (K : ∀ es', anyS p x v es es' → Q (.inl none, es', kc, ks)) : aW O d 14 kc ks Q (0, [some (.ref (64 + p)), some (.int (zI x)), some (.int (zI v))], [], es) := by
  by_cases h0 : 0 ≤ x ∧ x < (n : Int)
  · refine set_sp hp hs hT hb h0.1 h0.2 hn (fun es' h => K es' ⟨h.1, h.2.1, fun q b => by rw [h.2.2, gI_sA], fun q hq => by rw [h.2.2, gA_sA_ne hq]⟩)
  · have hxx := hx
    unfold i32 iLO iHI at hxx
    have k14 : aW O d 14 kc ks Q (14, [some (.ref (64 + p)), some (.int (zI x)), some (.int (zI v))], [], es) := x_ret (v := none) i_14_14 rfl (fun _ => rfl) rfl rfl rfl (K es ⟨hs, hT, fun _ _ => rfl, fun _ _ => rfl⟩)
    refine x0 (r := (1, [some (.ref (64 + p)), some (.int (zI x)), some (.int (zI v))], [.int (zI x)], es)) i_14_0 rfl ?_
    by_cases c : x < 0
    · exact x_ifT i_14_1 hx rfl (by simp only [zC, cR]; omega) k14
    · refine x_ifF i_14_1 hx rfl (by simp only [zC, cR]; omega) ?_
      refine x0 (r := (5, [some (.ref (64 + p)), some (.int (zI x)), some (.int (zI v))], [.int (zI x)], es)) i_14_4 rfl ?_
      refine x0 (r := (6, [some (.ref (64 + p)), some (.int (zI x)), some (.int (zI v))], [.ref (64 + p), .int (zI x)], es)) i_14_5 rfl ?_
      refine x_alen i_14_6 hs hp ?_
      exact x_cmpT i_14_7 hx (by unfold i32 iLO iHI; omega) rfl (by simp only [zC, cR]; omega) k14
end
/-- the class's tape holds the reference's bytes -/
def jB (R : Nat → Int32) (n : Nat) (es : PH) : Prop := (∀ k, k < 400 → (gA es 2 k).toInt = zU8 (zR R k)) ∧ (∀ k, k < 400 → -128 ≤ zR R k ∧ zR R k ≤ 127) ∧ (gI es 1 1).toInt = (n : Int) ∧ n ≤ 400
theorem jB_sA {R : Nat → Int32} {n p k : Nat} {x : Int32} {es : PH} (h : jB R n es) (hp : 2 ≠ p) : jB R n (sA es p k x) := by
  refine ⟨fun i hi => ?_, h.2.1, by rw [gI_sA]; exact h.2.2.1, h.2.2.2⟩
  rw [gA_sA_ne hp]
  exact h.1 i hi
theorem jB_sI {R : Nat → Int32} {n p b : Nat} {v : Value} {es : PH} (h : jB R n es) (hp : 1 ≠ p) : jB R n (sI es p b v) := by
  refine ⟨fun i hi => ?_, h.2.1, by rw [gI_sI_ne (Or.inl hp)]; exact h.2.2.1, h.2.2.2⟩
  rw [gA_sI]
  exact h.1 i hi
theorem jB_st {R : Nat → Int32} {n p : Nat} {x v : Int} {es es' : PH} (h : jB R n es) (hst : stP p x v es es') (hp : 2 ≠ p) : jB R n es' := by
  rw [hst.2.2]
  exact jB_sA h hp
def lrP (R : Nat → Int32) (x : Int) (_ : PH) (v : Int) : Prop := (v = 0 ∨ v = 1) ∧ (v = 1 ↔ zLe (zR R x.toNat) = true)
def dgP (R : Nat → Int32) (x : Int) (_ : PH) (v : Int) : Prop := (v = 0 ∨ v = 1) ∧ (v = 1 ↔ zDi (zR R x.toNat) = true)
def woP (R : Nat → Int32) (x y : Int) (_ : PH) (v : Int) : Prop := v = zWcod (zR R) x.toNat y.toNat
theorem woP_rng {R : Nat → Int32} {x y v : Int} {es : PH} (h : woP R x y es v) : -3000 ≤ v ∧ v ≤ -1 := by
  unfold woP at h
  rcases zWcod_bd (c := zR R) (p := x.toNat) (e := y.toNat) with h1 | h1 <;> omega
theorem s_ltr0 {O : pOut} {d kc ks : Nat} {Q : pRes → Prop} {es : PH} {R : Nat → Int32} {n0 : Nat} {i : Int} (hs_es : sh es) (hi : 0 ≤ i ∧ i ≤ 399) (hT_es : hOK tT es) (hr_es : jB R n0 es)
    (K1 : ∀ v1 : Int, atP 2 i es v1 → v1 < 97 → Q (.inl (some (.int (zI 0))), es, kc, ks))
    (K2 : ∀ v1 : Int, atP 2 i es v1 → ¬ (v1 < 97) → ∀ v3 : Int, atP 2 i es v3 → 122 < v3 → Q (.inl (some (.int (zI 0))), es, kc, ks))
    (K3 : ∀ v1 : Int, atP 2 i es v1 → ¬ (v1 < 97) → ∀ v3 : Int, atP 2 i es v3 → ¬ (122 < v3) → Q (.inl (some (.int (zI 1))), es, kc, ks)) :
    aW O (d + 1) 82 kc ks Q (0, [some (.ref 67), some (.int (zI i))], [], es) := by
  refine x0 (r := (1, [some (.ref 67), some (.int (zI i))], [.ref 67], es)) i_82_0 rfl ?_
  refine x_getr (p := 3) (k := 65) i_82_1 hs_es rfl rfl ?_
  show aW _ _ _ _ _ _ (4, [some (.ref 67), some (.int (zI i))], [.ref 65], es)
  refine x_getr (p := 1) (k := 66) i_82_4 hs_es rfl rfl ?_
  show aW _ _ _ _ _ _ (7, [some (.ref 67), some (.int (zI i))], [.ref 66], es)
  refine x0 (r := (8, [some (.ref 67), some (.int (zI i))], [.int (zI i), .ref 66], es)) i_82_7 rfl ?_
  refine x_call (vs := [.ref 66, .int (zI i)]) (rs := []) i_82_8 rfl (fun _ => rfl) rfl rfl rfl rfl rfl rfl ?_
  show aW _ _ _ _ _ _ (0, [some (.ref 66), some (.int (zI i))], [], es)
  refine at_sp (p := 2) rfl hs_es (by omega) (by omega) (by decide) (fun v1 p_v1 => ?_)
  have r_v1 := atP_rng p_v1
  show aW _ _ _ _ _ _ (11, [some (.ref 67), some (.int (zI i))], [.int (zI v1)], es)
  refine x0 (r := (13, [some (.ref 67), some (.int (zI i))], [.int (zI 97), .int (zI v1)], es)) i_82_11 (by rfl) ?_
  by_cases c2 : v1 < 97
  · refine x_cmpT i_82_13 (by unfold i32 iLO iHI; omega) (by unfold i32 iLO iHI; omega) rfl (by simp only [zC, cR]; omega) ?_
    refine x0 (r := (37, [some (.ref 67), some (.int (zI i))], [.int (zI 0)], es)) i_82_36 (by rfl) ?_
    refine x_ret (v := some (.int (zI 0))) i_82_37 rfl (fun _ => rfl) rfl rfl (pFin_b (by omega)) ?_
    exact K1 v1 p_v1 c2
  · refine x_cmpF i_82_13 (by unfold i32 iLO iHI; omega) (by unfold i32 iLO iHI; omega) rfl (by simp only [zC, cR]; omega) ?_
    refine x0 (r := (17, [some (.ref 67), some (.int (zI i))], [.ref 67], es)) i_82_16 rfl ?_
    refine x_getr (p := 3) (k := 65) i_82_17 hs_es rfl rfl ?_
    show aW _ _ _ _ _ _ (20, [some (.ref 67), some (.int (zI i))], [.ref 65], es)
    refine x_getr (p := 1) (k := 66) i_82_20 hs_es rfl rfl ?_
    show aW _ _ _ _ _ _ (23, [some (.ref 67), some (.int (zI i))], [.ref 66], es)
    refine x0 (r := (24, [some (.ref 67), some (.int (zI i))], [.int (zI i), .ref 66], es)) i_82_23 rfl ?_
    refine x_call (vs := [.ref 66, .int (zI i)]) (rs := []) i_82_24 rfl (fun _ => rfl) rfl rfl rfl rfl rfl rfl ?_
    show aW _ _ _ _ _ _ (0, [some (.ref 66), some (.int (zI i))], [], es)
    refine at_sp (p := 2) rfl hs_es (by omega) (by omega) (by decide) (fun v3 p_v3 => ?_)
    have r_v3 := atP_rng p_v3
    show aW _ _ _ _ _ _ (27, [some (.ref 67), some (.int (zI i))], [.int (zI v3)], es)
    refine x0 (r := (29, [some (.ref 67), some (.int (zI i))], [.int (zI 122), .int (zI v3)], es)) i_82_27 (by rfl) ?_
    by_cases c4 : 122 < v3
    · refine x_cmpT i_82_29 (by unfold i32 iLO iHI; omega) (by unfold i32 iLO iHI; omega) rfl (by simp only [zC, cR]; omega) ?_
      refine x0 (r := (37, [some (.ref 67), some (.int (zI i))], [.int (zI 0)], es)) i_82_36 (by rfl) ?_
      refine x_ret (v := some (.int (zI 0))) i_82_37 rfl (fun _ => rfl) rfl rfl (pFin_b (by omega)) ?_
      exact K2 v1 p_v1 c2 v3 p_v3 c4
    · refine x_cmpF i_82_29 (by unfold i32 iLO iHI; omega) (by unfold i32 iLO iHI; omega) rfl (by simp only [zC, cR]; omega) ?_
      refine x0 (r := (33, [some (.ref 67), some (.int (zI i))], [.int (zI 1)], es)) i_82_32 (by rfl) ?_
      refine x0 (r := (37, [some (.ref 67), some (.int (zI i))], [.int (zI 1)], es)) i_82_33 rfl ?_
      refine x_ret (v := some (.int (zI 1))) i_82_37 rfl (fun _ => rfl) rfl rfl (pFin_b (by omega)) ?_
      exact K3 v1 p_v1 c2 v3 p_v3 c4
theorem s_dgt0 {O : pOut} {d kc ks : Nat} {Q : pRes → Prop} {es : PH} {R : Nat → Int32} {n0 : Nat} {i : Int} (hs_es : sh es) (hi : 0 ≤ i ∧ i ≤ 399) (hT_es : hOK tT es) (hr_es : jB R n0 es)
    (K1 : ∀ v1 : Int, atP 2 i es v1 → v1 < 48 → Q (.inl (some (.int (zI 0))), es, kc, ks))
    (K2 : ∀ v1 : Int, atP 2 i es v1 → ¬ (v1 < 48) → ∀ v3 : Int, atP 2 i es v3 → 57 < v3 → Q (.inl (some (.int (zI 0))), es, kc, ks))
    (K3 : ∀ v1 : Int, atP 2 i es v1 → ¬ (v1 < 48) → ∀ v3 : Int, atP 2 i es v3 → ¬ (57 < v3) → Q (.inl (some (.int (zI 1))), es, kc, ks)) :
    aW O (d + 1) 83 kc ks Q (0, [some (.ref 67), some (.int (zI i))], [], es) := by
  refine x0 (r := (1, [some (.ref 67), some (.int (zI i))], [.ref 67], es)) i_83_0 rfl ?_
  refine x_getr (p := 3) (k := 65) i_83_1 hs_es rfl rfl ?_
  show aW _ _ _ _ _ _ (4, [some (.ref 67), some (.int (zI i))], [.ref 65], es)
  refine x_getr (p := 1) (k := 66) i_83_4 hs_es rfl rfl ?_
  show aW _ _ _ _ _ _ (7, [some (.ref 67), some (.int (zI i))], [.ref 66], es)
  refine x0 (r := (8, [some (.ref 67), some (.int (zI i))], [.int (zI i), .ref 66], es)) i_83_7 rfl ?_
  refine x_call (vs := [.ref 66, .int (zI i)]) (rs := []) i_83_8 rfl (fun _ => rfl) rfl rfl rfl rfl rfl rfl ?_
  show aW _ _ _ _ _ _ (0, [some (.ref 66), some (.int (zI i))], [], es)
  refine at_sp (p := 2) rfl hs_es (by omega) (by omega) (by decide) (fun v1 p_v1 => ?_)
  have r_v1 := atP_rng p_v1
  show aW _ _ _ _ _ _ (11, [some (.ref 67), some (.int (zI i))], [.int (zI v1)], es)
  refine x0 (r := (13, [some (.ref 67), some (.int (zI i))], [.int (zI 48), .int (zI v1)], es)) i_83_11 (by rfl) ?_
  by_cases c2 : v1 < 48
  · refine x_cmpT i_83_13 (by unfold i32 iLO iHI; omega) (by unfold i32 iLO iHI; omega) rfl (by simp only [zC, cR]; omega) ?_
    refine x0 (r := (37, [some (.ref 67), some (.int (zI i))], [.int (zI 0)], es)) i_83_36 (by rfl) ?_
    refine x_ret (v := some (.int (zI 0))) i_83_37 rfl (fun _ => rfl) rfl rfl (pFin_b (by omega)) ?_
    exact K1 v1 p_v1 c2
  · refine x_cmpF i_83_13 (by unfold i32 iLO iHI; omega) (by unfold i32 iLO iHI; omega) rfl (by simp only [zC, cR]; omega) ?_
    refine x0 (r := (17, [some (.ref 67), some (.int (zI i))], [.ref 67], es)) i_83_16 rfl ?_
    refine x_getr (p := 3) (k := 65) i_83_17 hs_es rfl rfl ?_
    show aW _ _ _ _ _ _ (20, [some (.ref 67), some (.int (zI i))], [.ref 65], es)
    refine x_getr (p := 1) (k := 66) i_83_20 hs_es rfl rfl ?_
    show aW _ _ _ _ _ _ (23, [some (.ref 67), some (.int (zI i))], [.ref 66], es)
    refine x0 (r := (24, [some (.ref 67), some (.int (zI i))], [.int (zI i), .ref 66], es)) i_83_23 rfl ?_
    refine x_call (vs := [.ref 66, .int (zI i)]) (rs := []) i_83_24 rfl (fun _ => rfl) rfl rfl rfl rfl rfl rfl ?_
    show aW _ _ _ _ _ _ (0, [some (.ref 66), some (.int (zI i))], [], es)
    refine at_sp (p := 2) rfl hs_es (by omega) (by omega) (by decide) (fun v3 p_v3 => ?_)
    have r_v3 := atP_rng p_v3
    show aW _ _ _ _ _ _ (27, [some (.ref 67), some (.int (zI i))], [.int (zI v3)], es)
    refine x0 (r := (29, [some (.ref 67), some (.int (zI i))], [.int (zI 57), .int (zI v3)], es)) i_83_27 (by rfl) ?_
    by_cases c4 : 57 < v3
    · refine x_cmpT i_83_29 (by unfold i32 iLO iHI; omega) (by unfold i32 iLO iHI; omega) rfl (by simp only [zC, cR]; omega) ?_
      refine x0 (r := (37, [some (.ref 67), some (.int (zI i))], [.int (zI 0)], es)) i_83_36 (by rfl) ?_
      refine x_ret (v := some (.int (zI 0))) i_83_37 rfl (fun _ => rfl) rfl rfl (pFin_b (by omega)) ?_
      exact K2 v1 p_v1 c2 v3 p_v3 c4
    · refine x_cmpF i_83_29 (by unfold i32 iLO iHI; omega) (by unfold i32 iLO iHI; omega) rfl (by simp only [zC, cR]; omega) ?_
      refine x0 (r := (33, [some (.ref 67), some (.int (zI i))], [.int (zI 1)], es)) i_83_32 (by rfl) ?_
      refine x0 (r := (37, [some (.ref 67), some (.int (zI i))], [.int (zI 1)], es)) i_83_33 rfl ?_
      refine x_ret (v := some (.int (zI 1))) i_83_37 rfl (fun _ => rfl) rfl rfl (pFin_b (by omega)) ?_
      exact K3 v1 p_v1 c2 v3 p_v3 c4
section
variable {O : pOut} {d kc ks : Nat} {Q : pRes → Prop} {es : PH} {R : Nat → Int32} {n : Nat}
theorem jB_at (hj : jB R n es) {x v : Int} (h0 : 0 ≤ x) (h1 : x ≤ 399) (h : atP 2 x es v) : v = zU8 (zR R x.toNat) ∧ -128 ≤ zR R x.toNat ∧ zR R x.toNat ≤ 127 := by
  have h2 := hj.1 x.toNat (by omega)
  have h3 := hj.2.1 x.toNat (by omega)
  unfold atP at h
  exact ⟨by rw [h, h2], h3.1, h3.2⟩
theorem lr_spec {i : Int} (hs : sh es) (hT : hOK tT es) (hj : jB R n es) (hi : 0 ≤ i ∧ i ≤ 399) (K : ∀ v, lrP R i es v → Q (.inl (some (.int (zI v))), es, kc, ks)) : aW O (d + 1) 82 kc ks Q (0, [some (.ref 67), some (.int (zI i))], [], es) := by
  refine s_ltr0 (d := d) hs hi hT hj (fun v1 p1 h1 => ?_) (fun v1 p1 h1 v3 p3 h3 => ?_) (fun v1 p1 h1 v3 p3 h3 => ?_)
  · obtain ⟨a1, a2, a3⟩ := jB_at hj hi.1 hi.2 p1
    have h8 := zU8_in (lo := 97) (hi := 122) a2 a3 (by omega) (by omega)
    refine K 0 ⟨Or.inl rfl, ?_⟩
    rw [zLe_iff]
    omega
  · obtain ⟨a1, a2, a3⟩ := jB_at hj hi.1 hi.2 p3
    have h8 := zU8_in (lo := 97) (hi := 122) a2 a3 (by omega) (by omega)
    refine K 0 ⟨Or.inl rfl, ?_⟩
    rw [zLe_iff]
    omega
  · obtain ⟨a1, a2, a3⟩ := jB_at hj hi.1 hi.2 p3
    obtain ⟨b1, b2, b3⟩ := jB_at hj hi.1 hi.2 p1
    have h8 := zU8_in (lo := 97) (hi := 122) a2 a3 (by omega) (by omega)
    refine K 1 ⟨Or.inr rfl, ?_⟩
    rw [zLe_iff]
    omega
theorem dg_spec {i : Int} (hs : sh es) (hT : hOK tT es) (hj : jB R n es) (hi : 0 ≤ i ∧ i ≤ 399) (K : ∀ v, dgP R i es v → Q (.inl (some (.int (zI v))), es, kc, ks)) : aW O (d + 1) 83 kc ks Q (0, [some (.ref 67), some (.int (zI i))], [], es) := by
  refine s_dgt0 (d := d) hs hi hT hj (fun v1 p1 h1 => ?_) (fun v1 p1 h1 v3 p3 h3 => ?_) (fun v1 p1 h1 v3 p3 h3 => ?_)
  · obtain ⟨a1, a2, a3⟩ := jB_at hj hi.1 hi.2 p1
    have h8 := zU8_in (lo := 48) (hi := 57) a2 a3 (by omega) (by omega)
    refine K 0 ⟨Or.inl rfl, ?_⟩
    rw [zDi_iff]
    omega
  · obtain ⟨a1, a2, a3⟩ := jB_at hj hi.1 hi.2 p3
    have h8 := zU8_in (lo := 48) (hi := 57) a2 a3 (by omega) (by omega)
    refine K 0 ⟨Or.inl rfl, ?_⟩
    rw [zDi_iff]
    omega
  · obtain ⟨a1, a2, a3⟩ := jB_at hj hi.1 hi.2 p3
    obtain ⟨b1, b2, b3⟩ := jB_at hj hi.1 hi.2 p1
    have h8 := zU8_in (lo := 48) (hi := 57) a2 a3 (by omega) (by omega)
    refine K 1 ⟨Or.inr rfl, ?_⟩
    rw [zDi_iff]
    omega
end
theorem s_bt0 {O : pOut} {d kc ks : Nat} {Q : pRes → Prop} {es : PH} {R : Nat → Int32} {n0 : Nat} {b : Int} (hs_es : sh es) (hb : 0 ≤ b ∧ b ≤ 399) (hT_es : hOK tT es) (hr_es : jB R n0 es)
    (K1 : ∀ v1 : Int, lrP R b es v1 → v1 = 0 → ∀ v3 : Int, dgP R b es v3 → v3 = 0 → Q (.inl (some (.int (zI (b + 1)))), es, kc, ks))
    (K2 : ∀ v1 : Int, lrP R b es v1 → v1 = 0 → ∀ v3 : Int, dgP R b es v3 → ¬ (v3 = 0) → aW O (d + 2) 81 kc ks Q (45, [some (.ref 67), some (.int (zI b)), some (.int (zI (b + 1)))], [], es))
    (K3 : ∀ v1 : Int, lrP R b es v1 → ¬ (v1 = 0) → aW O (d + 2) 81 kc ks Q (12, [some (.ref 67), some (.int (zI b)), some (.int (zI (b + 1)))], [], es)) :
    aW O (d + 2) 81 kc ks Q (0, [some (.ref 67), some (.int (zI b)), none], [], es) := by
  refine x0 (r := (1, [some (.ref 67), some (.int (zI b)), none], [.int (zI b)], es)) i_81_0 rfl ?_
  refine x0 (r := (2, [some (.ref 67), some (.int (zI b)), none], [.int (zI 1), .int (zI b)], es)) i_81_1 (by rfl) ?_
  refine x_iadd i_81_2 ?_
  refine x0 (r := (4, [some (.ref 67), some (.int (zI b)), some (.int (zI (b + 1)))], [], es)) i_81_3 rfl ?_
  refine x0 (r := (5, [some (.ref 67), some (.int (zI b)), some (.int (zI (b + 1)))], [.ref 67], es)) i_81_4 rfl ?_
  refine x0 (r := (6, [some (.ref 67), some (.int (zI b)), some (.int (zI (b + 1)))], [.int (zI b), .ref 67], es)) i_81_5 rfl ?_
  refine x_call (vs := [.ref 67, .int (zI b)]) (rs := []) i_81_6 rfl (fun _ => rfl) rfl rfl rfl rfl rfl (pCall_v (p := 3) hs_es rfl rfl rfl rfl rfl (by decide) rfl rfl rfl rfl rfl) ?_
  show aW _ _ _ _ _ _ (0, [some (.ref 67), some (.int (zI b))], [], es)
  refine lr_spec hs_es hT_es hr_es (by omega) (fun v1 p_v1 => ?_)
  have r_v1 := p_v1.1
  show aW _ _ _ _ _ _ (9, [some (.ref 67), some (.int (zI b)), some (.int (zI (b + 1)))], [.int (zI v1)], es)
  by_cases c2 : v1 = 0
  · refine x_ifT i_81_9 (by unfold i32 iLO iHI; omega) rfl (by simp only [zC, cR]; omega) ?_
    refine x0 (r := (38, [some (.ref 67), some (.int (zI b)), some (.int (zI (b + 1)))], [.ref 67], es)) i_81_37 rfl ?_
    refine x0 (r := (39, [some (.ref 67), some (.int (zI b)), some (.int (zI (b + 1)))], [.int (zI b), .ref 67], es)) i_81_38 rfl ?_
    refine x_call (vs := [.ref 67, .int (zI b)]) (rs := []) i_81_39 rfl (fun _ => rfl) rfl rfl rfl rfl rfl (pCall_v (p := 3) hs_es rfl rfl rfl rfl rfl (by decide) rfl rfl rfl rfl rfl) ?_
    show aW _ _ _ _ _ _ (0, [some (.ref 67), some (.int (zI b))], [], es)
    refine dg_spec hs_es hT_es hr_es (by omega) (fun v3 p_v3 => ?_)
    have r_v3 := p_v3.1
    show aW _ _ _ _ _ _ (42, [some (.ref 67), some (.int (zI b)), some (.int (zI (b + 1)))], [.int (zI v3)], es)
    by_cases c4 : v3 = 0
    · refine x_ifT i_81_42 (by unfold i32 iLO iHI; omega) rfl (by simp only [zC, cR]; omega) ?_
      refine x0 (r := (71, [some (.ref 67), some (.int (zI b)), some (.int (zI (b + 1)))], [.int (zI (b + 1))], es)) i_81_70 rfl ?_
      refine x_ret (v := some (.int (zI (b + 1)))) i_81_71 rfl (fun _ => rfl) rfl rfl rfl ?_
      exact K1 v1 p_v1 c2 v3 p_v3 c4
    · refine x_ifF i_81_42 (by unfold i32 iLO iHI; omega) rfl (by simp only [zC, cR]; omega) ?_
      exact K2 v1 p_v1 c2 v3 p_v3 c4
  · refine x_ifF i_81_9 (by unfold i32 iLO iHI; omega) rfl (by simp only [zC, cR]; omega) ?_
    exact K3 v1 p_v1 c2
theorem s_bt12 {O : pOut} {d kc ks : Nat} {Q : pRes → Prop} {es : PH} {R : Nat → Int32} {n0 : Nat} {b i : Int} (hs_es : sh es) (hi : 0 ≤ i ∧ i ≤ 400) (hz : (gI es 1 1).toInt ≤ 400) (hT_es : hOK tT es) (hr_es : jB R n0 es)
    (K1 : ∀ v1 : Int, v1 = (gI es 1 1).toInt → v1 ≤ i → Q (.inl (some (.int (zI i))), es, kc, ks))
    (K2 : ∀ v1 : Int, v1 = (gI es 1 1).toInt → ¬ (v1 ≤ i) → ∀ v3 : Int, lrP R i es v3 → v3 = 0 → Q (.inl (some (.int (zI i))), es, kc, ks))
    (K3 : ∀ v1 : Int, v1 = (gI es 1 1).toInt → ¬ (v1 ≤ i) → ∀ v3 : Int, lrP R i es v3 → ¬ (v3 = 0) → aW O (d + 2) 81 kc ks Q (12, [some (.ref 67), some (.int (zI b)), some (.int (zI (i + 1)))], [], es)) :
    aW O (d + 2) 81 kc ks Q (12, [some (.ref 67), some (.int (zI b)), some (.int (zI i))], [], es) := by
  refine x0 (r := (13, [some (.ref 67), some (.int (zI b)), some (.int (zI i))], [.int (zI i)], es)) i_81_12 rfl ?_
  refine x0 (r := (14, [some (.ref 67), some (.int (zI b)), some (.int (zI i))], [.ref 67, .int (zI i)], es)) i_81_13 rfl ?_
  refine x_getr (p := 3) (k := 65) i_81_14 hs_es rfl rfl ?_
  show aW _ _ _ _ _ _ (17, [some (.ref 67), some (.int (zI b)), some (.int (zI i))], [.ref 65, .int (zI i)], es)
  refine x_geti (p := 1) i_81_17 hs_es rfl rfl ?_
  obtain ⟨v1, e_v1⟩ : ∃ z : Int, z = (gI es 1 1).toInt := ⟨_, rfl⟩
  rw [← e_v1]
  have r_v1 : iLO ≤ v1 ∧ v1 ≤ iHI := by rw [e_v1]; exact i32_rng _
  unfold iLO iHI at r_v1
  by_cases c2 : v1 ≤ i
  · refine x_cmpT i_81_20 (by unfold i32 iLO iHI; omega) (by unfold i32 iLO iHI; omega) rfl (by simp only [zC, cR]; omega) ?_
    refine x0 (r := (71, [some (.ref 67), some (.int (zI b)), some (.int (zI i))], [.int (zI i)], es)) i_81_70 rfl ?_
    refine x_ret (v := some (.int (zI i))) i_81_71 rfl (fun _ => rfl) rfl rfl rfl ?_
    exact K1 v1 e_v1 c2
  · refine x_cmpF i_81_20 (by unfold i32 iLO iHI; omega) (by unfold i32 iLO iHI; omega) rfl (by simp only [zC, cR]; omega) ?_
    refine x0 (r := (24, [some (.ref 67), some (.int (zI b)), some (.int (zI i))], [.ref 67], es)) i_81_23 rfl ?_
    refine x0 (r := (25, [some (.ref 67), some (.int (zI b)), some (.int (zI i))], [.int (zI i), .ref 67], es)) i_81_24 rfl ?_
    refine x_call (vs := [.ref 67, .int (zI i)]) (rs := []) i_81_25 rfl (fun _ => rfl) rfl rfl rfl rfl rfl (pCall_v (p := 3) hs_es rfl rfl rfl rfl rfl (by decide) rfl rfl rfl rfl rfl) ?_
    show aW _ _ _ _ _ _ (0, [some (.ref 67), some (.int (zI i))], [], es)
    refine lr_spec hs_es hT_es hr_es (by omega) (fun v3 p_v3 => ?_)
    have r_v3 := p_v3.1
    show aW _ _ _ _ _ _ (28, [some (.ref 67), some (.int (zI b)), some (.int (zI i))], [.int (zI v3)], es)
    by_cases c4 : v3 = 0
    · refine x_ifT i_81_28 (by unfold i32 iLO iHI; omega) rfl (by simp only [zC, cR]; omega) ?_
      refine x0 (r := (71, [some (.ref 67), some (.int (zI b)), some (.int (zI i))], [.int (zI i)], es)) i_81_70 rfl ?_
      refine x_ret (v := some (.int (zI i))) i_81_71 rfl (fun _ => rfl) rfl rfl rfl ?_
      exact K2 v1 e_v1 c2 v3 p_v3 c4
    · refine x_ifF i_81_28 (by unfold i32 iLO iHI; omega) rfl (by simp only [zC, cR]; omega) ?_
      refine x_iinc (x := i) i_81_31 rfl (by show 2 < 3; decide) ?_
      show aW _ _ _ _ _ _ (34, [some (.ref 67), some (.int (zI b)), some (.int (zI (i + 1)))], [], es)
      refine x0 (r := (12, [some (.ref 67), some (.int (zI b)), some (.int (zI (i + 1)))], [], es)) i_81_34 rfl ?_
      exact K3 v1 e_v1 c2 v3 p_v3 c4
theorem s_bt45 {O : pOut} {d kc ks : Nat} {Q : pRes → Prop} {es : PH} {R : Nat → Int32} {n0 : Nat} {b i : Int} (hs_es : sh es) (hi : 0 ≤ i ∧ i ≤ 400) (hz : (gI es 1 1).toInt ≤ 400) (hT_es : hOK tT es) (hr_es : jB R n0 es)
    (K1 : ∀ v1 : Int, v1 = (gI es 1 1).toInt → v1 ≤ i → Q (.inl (some (.int (zI i))), es, kc, ks))
    (K2 : ∀ v1 : Int, v1 = (gI es 1 1).toInt → ¬ (v1 ≤ i) → ∀ v3 : Int, dgP R i es v3 → v3 = 0 → Q (.inl (some (.int (zI i))), es, kc, ks))
    (K3 : ∀ v1 : Int, v1 = (gI es 1 1).toInt → ¬ (v1 ≤ i) → ∀ v3 : Int, dgP R i es v3 → ¬ (v3 = 0) → aW O (d + 2) 81 kc ks Q (45, [some (.ref 67), some (.int (zI b)), some (.int (zI (i + 1)))], [], es)) :
    aW O (d + 2) 81 kc ks Q (45, [some (.ref 67), some (.int (zI b)), some (.int (zI i))], [], es) := by
  refine x0 (r := (46, [some (.ref 67), some (.int (zI b)), some (.int (zI i))], [.int (zI i)], es)) i_81_45 rfl ?_
  refine x0 (r := (47, [some (.ref 67), some (.int (zI b)), some (.int (zI i))], [.ref 67, .int (zI i)], es)) i_81_46 rfl ?_
  refine x_getr (p := 3) (k := 65) i_81_47 hs_es rfl rfl ?_
  show aW _ _ _ _ _ _ (50, [some (.ref 67), some (.int (zI b)), some (.int (zI i))], [.ref 65, .int (zI i)], es)
  refine x_geti (p := 1) i_81_50 hs_es rfl rfl ?_
  obtain ⟨v1, e_v1⟩ : ∃ z : Int, z = (gI es 1 1).toInt := ⟨_, rfl⟩
  rw [← e_v1]
  have r_v1 : iLO ≤ v1 ∧ v1 ≤ iHI := by rw [e_v1]; exact i32_rng _
  unfold iLO iHI at r_v1
  by_cases c2 : v1 ≤ i
  · refine x_cmpT i_81_53 (by unfold i32 iLO iHI; omega) (by unfold i32 iLO iHI; omega) rfl (by simp only [zC, cR]; omega) ?_
    refine x0 (r := (71, [some (.ref 67), some (.int (zI b)), some (.int (zI i))], [.int (zI i)], es)) i_81_70 rfl ?_
    refine x_ret (v := some (.int (zI i))) i_81_71 rfl (fun _ => rfl) rfl rfl rfl ?_
    exact K1 v1 e_v1 c2
  · refine x_cmpF i_81_53 (by unfold i32 iLO iHI; omega) (by unfold i32 iLO iHI; omega) rfl (by simp only [zC, cR]; omega) ?_
    refine x0 (r := (57, [some (.ref 67), some (.int (zI b)), some (.int (zI i))], [.ref 67], es)) i_81_56 rfl ?_
    refine x0 (r := (58, [some (.ref 67), some (.int (zI b)), some (.int (zI i))], [.int (zI i), .ref 67], es)) i_81_57 rfl ?_
    refine x_call (vs := [.ref 67, .int (zI i)]) (rs := []) i_81_58 rfl (fun _ => rfl) rfl rfl rfl rfl rfl (pCall_v (p := 3) hs_es rfl rfl rfl rfl rfl (by decide) rfl rfl rfl rfl rfl) ?_
    show aW _ _ _ _ _ _ (0, [some (.ref 67), some (.int (zI i))], [], es)
    refine dg_spec hs_es hT_es hr_es (by omega) (fun v3 p_v3 => ?_)
    have r_v3 := p_v3.1
    show aW _ _ _ _ _ _ (61, [some (.ref 67), some (.int (zI b)), some (.int (zI i))], [.int (zI v3)], es)
    by_cases c4 : v3 = 0
    · refine x_ifT i_81_61 (by unfold i32 iLO iHI; omega) rfl (by simp only [zC, cR]; omega) ?_
      refine x0 (r := (71, [some (.ref 67), some (.int (zI b)), some (.int (zI i))], [.int (zI i)], es)) i_81_70 rfl ?_
      refine x_ret (v := some (.int (zI i))) i_81_71 rfl (fun _ => rfl) rfl rfl rfl ?_
      exact K2 v1 e_v1 c2 v3 p_v3 c4
    · refine x_ifF i_81_61 (by unfold i32 iLO iHI; omega) rfl (by simp only [zC, cR]; omega) ?_
      refine x_iinc (x := i) i_81_64 rfl (by show 2 < 3; decide) ?_
      show aW _ _ _ _ _ _ (67, [some (.ref 67), some (.int (zI b)), some (.int (zI (i + 1)))], [], es)
      refine x0 (r := (45, [some (.ref 67), some (.int (zI b)), some (.int (zI (i + 1)))], [], es)) i_81_67 rfl ?_
      exact K3 v1 e_v1 c2 v3 p_v3 c4
theorem s_wo0 {O : pOut} {d kc ks : Nat} {Q : pRes → Prop} {es : PH} {R : Nat → Int32} {n0 : Nat} {b e : Int} (hs_es : sh es) (hT_es : hOK tT es) (hr_es : jB R n0 es)
    (K1 : aW O d 85 kc ks Q (8, [some (.ref 67), some (.int (zI b)), some (.int (zI e)), some (.int (zI (-1))), some (.int (zI b)), some (.int (zI 0))], [], es)) :
    aW O d 85 kc ks Q (0, [some (.ref 67), some (.int (zI b)), some (.int (zI e)), none, none, none], [], es) := by
  refine x0 (r := (1, [some (.ref 67), some (.int (zI b)), some (.int (zI e)), none, none, none], [.int (zI (-1))], es)) i_85_0 (by rfl) ?_
  refine x0 (r := (2, [some (.ref 67), some (.int (zI b)), some (.int (zI e)), some (.int (zI (-1))), none, none], [], es)) i_85_1 rfl ?_
  refine x0 (r := (3, [some (.ref 67), some (.int (zI b)), some (.int (zI e)), some (.int (zI (-1))), none, none], [.int (zI b)], es)) i_85_2 rfl ?_
  refine x0 (r := (5, [some (.ref 67), some (.int (zI b)), some (.int (zI e)), some (.int (zI (-1))), some (.int (zI b)), none], [], es)) i_85_3 rfl ?_
  refine x0 (r := (6, [some (.ref 67), some (.int (zI b)), some (.int (zI e)), some (.int (zI (-1))), some (.int (zI b)), none], [.int (zI 0)], es)) i_85_5 (by rfl) ?_
  refine x0 (r := (8, [some (.ref 67), some (.int (zI b)), some (.int (zI e)), some (.int (zI (-1))), some (.int (zI b)), some (.int (zI 0))], [], es)) i_85_6 rfl ?_
  exact K1
theorem s_wo8 {O : pOut} {d kc ks : Nat} {Q : pRes → Prop} {es : PH} {R : Nat → Int32} {n0 : Nat} {b e w i k : Int} (hs_es : sh es) (hk : 0 ≤ k ∧ k ≤ 86) (hb : 0 ≤ b ∧ b ≤ 399) (he : 0 ≤ e ∧ e ≤ 400) (hi : 0 ≤ i ∧ i ≤ 401) (hT_es : hOK tT es) (hr_es : jB R n0 es)
    (K1 : 82 ≤ k → Q (.inl (some (.int (zI (-3000)))), es, kc, ks))
    (K2 : ¬ (82 ≤ k) → ∀ v2 : Int, v2 = (((pTX.getD 0 []).getD k.toNat 0 : Nat) : Int) → v2 ≠ 32 → e ≤ i → aW O (d + 1) 85 kc ks Q (8, [some (.ref 67), some (.int (zI b)), some (.int (zI e)), some (.int (zI w)), some (.int (zI (e + 1))), some (.int (zI (k + 1)))], [], es))
    (K3 : ¬ (82 ≤ k) → ∀ v2 : Int, v2 = (((pTX.getD 0 []).getD k.toNat 0 : Nat) : Int) → v2 ≠ 32 → ¬ (e ≤ i) → ∀ v5 : Int, atP 2 i es v5 → ∀ v6 : Int, v6 = (((pTX.getD 0 []).getD k.toNat 0 : Nat) : Int) → v5 ≠ v6 → aW O (d + 1) 85 kc ks Q (8, [some (.ref 67), some (.int (zI b)), some (.int (zI e)), some (.int (zI w)), some (.int (zI (e + 1))), some (.int (zI (k + 1)))], [], es))
    (K4 : ¬ (82 ≤ k) → ∀ v2 : Int, v2 = (((pTX.getD 0 []).getD k.toNat 0 : Nat) : Int) → v2 ≠ 32 → ¬ (e ≤ i) → ∀ v5 : Int, atP 2 i es v5 → ∀ v6 : Int, v6 = (((pTX.getD 0 []).getD k.toNat 0 : Nat) : Int) → ¬ (v5 ≠ v6) → aW O (d + 1) 85 kc ks Q (8, [some (.ref 67), some (.int (zI b)), some (.int (zI e)), some (.int (zI w)), some (.int (zI (i + 1))), some (.int (zI (k + 1)))], [], es))
    (K5 : ¬ (82 ≤ k) → ∀ v2 : Int, v2 = (((pTX.getD 0 []).getD k.toNat 0 : Nat) : Int) → ¬ (v2 ≠ 32) → i ≠ e → aW O (d + 1) 85 kc ks Q (8, [some (.ref 67), some (.int (zI b)), some (.int (zI e)), some (.int (zI (w + (-1)))), some (.int (zI b)), some (.int (zI (k + 1)))], [], es))
    (K6 : ¬ (82 ≤ k) → ∀ v2 : Int, v2 = (((pTX.getD 0 []).getD k.toNat 0 : Nat) : Int) → ¬ (v2 ≠ 32) → ¬ (i ≠ e) → Q (.inl (some (.int (zI w))), es, kc, ks)) :
    aW O (d + 1) 85 kc ks Q (8, [some (.ref 67), some (.int (zI b)), some (.int (zI e)), some (.int (zI w)), some (.int (zI i)), some (.int (zI k))], [], es) := by
  refine x0 (r := (10, [some (.ref 67), some (.int (zI b)), some (.int (zI e)), some (.int (zI w)), some (.int (zI i)), some (.int (zI k))], [.int (zI k)], es)) i_85_8 rfl ?_
  refine x1 (r := (12, [some (.ref 67), some (.int (zI b)), some (.int (zI e)), some (.int (zI w)), some (.int (zI i)), some (.int (zI k))], [.ref 8, .int (zI k)], es)) i_85_10 rfl (fun _ => rfl) rfl ?_
  refine x_len i_85_12 (k := 8) (by decide) rfl (n := 82) (by decide) (Nat.le_of_ble_eq_true rfl) ?_
  by_cases c1 : 82 ≤ k
  · refine x_cmpT i_85_15 (by unfold i32 iLO iHI; omega) (by unfold i32 iLO iHI; omega) rfl (by simp only [zC, cR]; omega) ?_
    refine x0 (r := (96, [some (.ref 67), some (.int (zI b)), some (.int (zI e)), some (.int (zI w)), some (.int (zI i)), some (.int (zI k))], [.int (zI (-3000))], es)) i_85_93 (by rfl) ?_
    refine x_ret (v := some (.int (zI (-3000)))) i_85_96 rfl (fun _ => rfl) rfl rfl rfl ?_
    exact K1 c1
  · refine x_cmpF i_85_15 (by unfold i32 iLO iHI; omega) (by unfold i32 iLO iHI; omega) rfl (by simp only [zC, cR]; omega) ?_
    refine x1 (r := (20, [some (.ref 67), some (.int (zI b)), some (.int (zI e)), some (.int (zI w)), some (.int (zI i)), some (.int (zI k))], [.ref 8], es)) i_85_18 rfl (fun _ => rfl) rfl ?_
    refine x0 (r := (22, [some (.ref 67), some (.int (zI b)), some (.int (zI e)), some (.int (zI w)), some (.int (zI i)), some (.int (zI k))], [.int (zI k), .ref 8], es)) i_85_20 rfl ?_
    refine x_chr (t := (pTX.getD 0 [])) i_85_22 (k := 8) (by decide) rfl (by unfold i32 iLO iHI; omega) (by omega) (by show _ < (82 : Int); omega) (by decide) (Nat.le_of_ble_eq_true rfl) ?_
    obtain ⟨v2, e_v2⟩ : ∃ z : Int, z = (((pTX.getD 0 []).getD k.toNat 0 : Nat) : Int) := ⟨_, rfl⟩
    rw [← e_v2]
    have b_v2 : 0 ≤ v2 ∧ v2 ≤ 127 := by rw [e_v2]; exact chr_bd (by decide)
    refine x0 (r := (27, [some (.ref 67), some (.int (zI b)), some (.int (zI e)), some (.int (zI w)), some (.int (zI i)), some (.int (zI k))], [.int (zI 32), .int (zI v2)], es)) i_85_25 (by rfl) ?_
    by_cases c3 : v2 ≠ 32
    · refine x_cmpT i_85_27 (by unfold i32 iLO iHI; omega) (by unfold i32 iLO iHI; omega) rfl (by simp only [zC, cR]; omega) ?_
      refine x0 (r := (49, [some (.ref 67), some (.int (zI b)), some (.int (zI e)), some (.int (zI w)), some (.int (zI i)), some (.int (zI k))], [.int (zI i)], es)) i_85_47 rfl ?_
      refine x0 (r := (50, [some (.ref 67), some (.int (zI b)), some (.int (zI e)), some (.int (zI w)), some (.int (zI i)), some (.int (zI k))], [.int (zI e), .int (zI i)], es)) i_85_49 rfl ?_
      by_cases c4 : e ≤ i
      · refine x_cmpT i_85_50 (by unfold i32 iLO iHI; omega) (by unfold i32 iLO iHI; omega) rfl (by simp only [zC, cR]; omega) ?_
        refine x0 (r := (83, [some (.ref 67), some (.int (zI b)), some (.int (zI e)), some (.int (zI w)), some (.int (zI i)), some (.int (zI k))], [.int (zI e)], es)) i_85_82 rfl ?_
        refine x0 (r := (84, [some (.ref 67), some (.int (zI b)), some (.int (zI e)), some (.int (zI w)), some (.int (zI i)), some (.int (zI k))], [.int (zI 1), .int (zI e)], es)) i_85_83 (by rfl) ?_
        refine x_iadd i_85_84 ?_
        refine x0 (r := (87, [some (.ref 67), some (.int (zI b)), some (.int (zI e)), some (.int (zI w)), some (.int (zI (e + 1))), some (.int (zI k))], [], es)) i_85_85 rfl ?_
        refine x_iinc (x := k) i_85_87 rfl (by show 5 < 6; decide) ?_
        show aW _ _ _ _ _ _ (90, [some (.ref 67), some (.int (zI b)), some (.int (zI e)), some (.int (zI w)), some (.int (zI (e + 1))), some (.int (zI (k + 1)))], [], es)
        refine x0 (r := (8, [some (.ref 67), some (.int (zI b)), some (.int (zI e)), some (.int (zI w)), some (.int (zI (e + 1))), some (.int (zI (k + 1)))], [], es)) i_85_90 rfl ?_
        exact K2 c1 v2 e_v2 c3 c4
      · refine x_cmpF i_85_50 (by unfold i32 iLO iHI; omega) (by unfold i32 iLO iHI; omega) rfl (by simp only [zC, cR]; omega) ?_
        refine x0 (r := (54, [some (.ref 67), some (.int (zI b)), some (.int (zI e)), some (.int (zI w)), some (.int (zI i)), some (.int (zI k))], [.ref 67], es)) i_85_53 rfl ?_
        refine x_getr (p := 3) (k := 65) i_85_54 hs_es rfl rfl ?_
        show aW _ _ _ _ _ _ (57, [some (.ref 67), some (.int (zI b)), some (.int (zI e)), some (.int (zI w)), some (.int (zI i)), some (.int (zI k))], [.ref 65], es)
        refine x_getr (p := 1) (k := 66) i_85_57 hs_es rfl rfl ?_
        show aW _ _ _ _ _ _ (60, [some (.ref 67), some (.int (zI b)), some (.int (zI e)), some (.int (zI w)), some (.int (zI i)), some (.int (zI k))], [.ref 66], es)
        refine x0 (r := (62, [some (.ref 67), some (.int (zI b)), some (.int (zI e)), some (.int (zI w)), some (.int (zI i)), some (.int (zI k))], [.int (zI i), .ref 66], es)) i_85_60 rfl ?_
        refine x_call (vs := [.ref 66, .int (zI i)]) (rs := []) i_85_62 rfl (fun _ => rfl) rfl rfl rfl rfl rfl rfl ?_
        show aW _ _ _ _ _ _ (0, [some (.ref 66), some (.int (zI i))], [], es)
        refine at_sp (p := 2) rfl hs_es (by omega) (by omega) (by decide) (fun v5 p_v5 => ?_)
        have r_v5 := atP_rng p_v5
        show aW _ _ _ _ _ _ (65, [some (.ref 67), some (.int (zI b)), some (.int (zI e)), some (.int (zI w)), some (.int (zI i)), some (.int (zI k))], [.int (zI v5)], es)
        refine x1 (r := (67, [some (.ref 67), some (.int (zI b)), some (.int (zI e)), some (.int (zI w)), some (.int (zI i)), some (.int (zI k))], [.ref 8, .int (zI v5)], es)) i_85_65 rfl (fun _ => rfl) rfl ?_
        refine x0 (r := (69, [some (.ref 67), some (.int (zI b)), some (.int (zI e)), some (.int (zI w)), some (.int (zI i)), some (.int (zI k))], [.int (zI k), .ref 8, .int (zI v5)], es)) i_85_67 rfl ?_
        refine x_chr (t := (pTX.getD 0 [])) i_85_69 (k := 8) (by decide) rfl (by unfold i32 iLO iHI; omega) (by omega) (by show _ < (82 : Int); omega) (by decide) (Nat.le_of_ble_eq_true rfl) ?_
        obtain ⟨v6, e_v6⟩ : ∃ z : Int, z = (((pTX.getD 0 []).getD k.toNat 0 : Nat) : Int) := ⟨_, rfl⟩
        rw [← e_v6]
        have b_v6 : 0 ≤ v6 ∧ v6 ≤ 127 := by rw [e_v6]; exact chr_bd (by decide)
        by_cases c7 : v5 ≠ v6
        · refine x_cmpT i_85_72 (by unfold i32 iLO iHI; omega) (by unfold i32 iLO iHI; omega) rfl (by simp only [zC, cR]; omega) ?_
          refine x0 (r := (83, [some (.ref 67), some (.int (zI b)), some (.int (zI e)), some (.int (zI w)), some (.int (zI i)), some (.int (zI k))], [.int (zI e)], es)) i_85_82 rfl ?_
          refine x0 (r := (84, [some (.ref 67), some (.int (zI b)), some (.int (zI e)), some (.int (zI w)), some (.int (zI i)), some (.int (zI k))], [.int (zI 1), .int (zI e)], es)) i_85_83 (by rfl) ?_
          refine x_iadd i_85_84 ?_
          refine x0 (r := (87, [some (.ref 67), some (.int (zI b)), some (.int (zI e)), some (.int (zI w)), some (.int (zI (e + 1))), some (.int (zI k))], [], es)) i_85_85 rfl ?_
          refine x_iinc (x := k) i_85_87 rfl (by show 5 < 6; decide) ?_
          show aW _ _ _ _ _ _ (90, [some (.ref 67), some (.int (zI b)), some (.int (zI e)), some (.int (zI w)), some (.int (zI (e + 1))), some (.int (zI (k + 1)))], [], es)
          refine x0 (r := (8, [some (.ref 67), some (.int (zI b)), some (.int (zI e)), some (.int (zI w)), some (.int (zI (e + 1))), some (.int (zI (k + 1)))], [], es)) i_85_90 rfl ?_
          exact K3 c1 v2 e_v2 c3 c4 v5 p_v5 v6 e_v6 c7
        · refine x_cmpF i_85_72 (by unfold i32 iLO iHI; omega) (by unfold i32 iLO iHI; omega) rfl (by simp only [zC, cR]; omega) ?_
          refine x0 (r := (77, [some (.ref 67), some (.int (zI b)), some (.int (zI e)), some (.int (zI w)), some (.int (zI i)), some (.int (zI k))], [.int (zI i)], es)) i_85_75 rfl ?_
          refine x0 (r := (78, [some (.ref 67), some (.int (zI b)), some (.int (zI e)), some (.int (zI w)), some (.int (zI i)), some (.int (zI k))], [.int (zI 1), .int (zI i)], es)) i_85_77 (by rfl) ?_
          refine x_iadd i_85_78 ?_
          refine x0 (r := (85, [some (.ref 67), some (.int (zI b)), some (.int (zI e)), some (.int (zI w)), some (.int (zI i)), some (.int (zI k))], [.int (zI (i + 1))], es)) i_85_79 rfl ?_
          refine x0 (r := (87, [some (.ref 67), some (.int (zI b)), some (.int (zI e)), some (.int (zI w)), some (.int (zI (i + 1))), some (.int (zI k))], [], es)) i_85_85 rfl ?_
          refine x_iinc (x := k) i_85_87 rfl (by show 5 < 6; decide) ?_
          show aW _ _ _ _ _ _ (90, [some (.ref 67), some (.int (zI b)), some (.int (zI e)), some (.int (zI w)), some (.int (zI (i + 1))), some (.int (zI (k + 1)))], [], es)
          refine x0 (r := (8, [some (.ref 67), some (.int (zI b)), some (.int (zI e)), some (.int (zI w)), some (.int (zI (i + 1))), some (.int (zI (k + 1)))], [], es)) i_85_90 rfl ?_
          exact K4 c1 v2 e_v2 c3 c4 v5 p_v5 v6 e_v6 c7
    · refine x_cmpF i_85_27 (by unfold i32 iLO iHI; omega) (by unfold i32 iLO iHI; omega) rfl (by simp only [zC, cR]; omega) ?_
      refine x0 (r := (32, [some (.ref 67), some (.int (zI b)), some (.int (zI e)), some (.int (zI w)), some (.int (zI i)), some (.int (zI k))], [.int (zI i)], es)) i_85_30 rfl ?_
      refine x0 (r := (33, [some (.ref 67), some (.int (zI b)), some (.int (zI e)), some (.int (zI w)), some (.int (zI i)), some (.int (zI k))], [.int (zI e), .int (zI i)], es)) i_85_32 rfl ?_
      by_cases c8 : i ≠ e
      · refine x_cmpT i_85_33 (by unfold i32 iLO iHI; omega) (by unfold i32 iLO iHI; omega) rfl (by simp only [zC, cR]; omega) ?_
        refine x_iinc (x := w) i_85_38 rfl (by show 3 < 6; decide) ?_
        show aW _ _ _ _ _ _ (41, [some (.ref 67), some (.int (zI b)), some (.int (zI e)), some (.int (zI (w + (-1)))), some (.int (zI i)), some (.int (zI k))], [], es)
        refine x0 (r := (42, [some (.ref 67), some (.int (zI b)), some (.int (zI e)), some (.int (zI (w + (-1)))), some (.int (zI i)), some (.int (zI k))], [.int (zI b)], es)) i_85_41 rfl ?_
        refine x0 (r := (44, [some (.ref 67), some (.int (zI b)), some (.int (zI e)), some (.int (zI (w + (-1)))), some (.int (zI b)), some (.int (zI k))], [], es)) i_85_42 rfl ?_
        refine x0 (r := (87, [some (.ref 67), some (.int (zI b)), some (.int (zI e)), some (.int (zI (w + (-1)))), some (.int (zI b)), some (.int (zI k))], [], es)) i_85_44 rfl ?_
        refine x_iinc (x := k) i_85_87 rfl (by show 5 < 6; decide) ?_
        show aW _ _ _ _ _ _ (90, [some (.ref 67), some (.int (zI b)), some (.int (zI e)), some (.int (zI (w + (-1)))), some (.int (zI b)), some (.int (zI (k + 1)))], [], es)
        refine x0 (r := (8, [some (.ref 67), some (.int (zI b)), some (.int (zI e)), some (.int (zI (w + (-1)))), some (.int (zI b)), some (.int (zI (k + 1)))], [], es)) i_85_90 rfl ?_
        exact K5 c1 v2 e_v2 c3 c8
      · refine x_cmpF i_85_33 (by unfold i32 iLO iHI; omega) (by unfold i32 iLO iHI; omega) rfl (by simp only [zC, cR]; omega) ?_
        refine x0 (r := (37, [some (.ref 67), some (.int (zI b)), some (.int (zI e)), some (.int (zI w)), some (.int (zI i)), some (.int (zI k))], [.int (zI w)], es)) i_85_36 rfl ?_
        refine x_ret (v := some (.int (zI w))) i_85_37 rfl (fun _ => rfl) rfl rfl rfl ?_
        exact K6 c1 v2 e_v2 c3 c8
theorem s_no0 {O : pOut} {d kc ks : Nat} {Q : pRes → Prop} {es : PH} {R : Nat → Int32} {n0 : Nat} {b e : Int} (hs_es : sh es) (hb : 0 ≤ b ∧ b ≤ 399) (he : 0 ≤ e ∧ e ≤ 400) (hT_es : hOK tT es) (hr_es : jB R n0 es)
    (K1 : (e - b) ≤ 3 → aW O d 86 kc ks Q (16, [some (.ref 67), some (.int (zI b)), some (.int (zI e)), some (.int (zI 0)), some (.int (zI b))], [], es))
    (K2 : ¬ ((e - b) ≤ 3) → Q (.inl (some (.int (zI (-3000)))), es, kc, ks)) :
    aW O d 86 kc ks Q (0, [some (.ref 67), some (.int (zI b)), some (.int (zI e)), none, none], [], es) := by
  refine x0 (r := (1, [some (.ref 67), some (.int (zI b)), some (.int (zI e)), none, none], [.int (zI e)], es)) i_86_0 rfl ?_
  refine x0 (r := (2, [some (.ref 67), some (.int (zI b)), some (.int (zI e)), none, none], [.int (zI b), .int (zI e)], es)) i_86_1 rfl ?_
  refine x_isub i_86_2 ?_
  refine x0 (r := (4, [some (.ref 67), some (.int (zI b)), some (.int (zI e)), none, none], [.int (zI 3), .int (zI (e - b))], es)) i_86_3 (by rfl) ?_
  by_cases c1 : (e - b) ≤ 3
  · refine x_cmpT i_86_4 (by unfold i32 iLO iHI; omega) (by unfold i32 iLO iHI; omega) rfl (by simp only [zC, cR]; omega) ?_
    refine x0 (r := (12, [some (.ref 67), some (.int (zI b)), some (.int (zI e)), none, none], [.int (zI 0)], es)) i_86_11 (by rfl) ?_
    refine x0 (r := (13, [some (.ref 67), some (.int (zI b)), some (.int (zI e)), some (.int (zI 0)), none], [], es)) i_86_12 rfl ?_
    refine x0 (r := (14, [some (.ref 67), some (.int (zI b)), some (.int (zI e)), some (.int (zI 0)), none], [.int (zI b)], es)) i_86_13 rfl ?_
    refine x0 (r := (16, [some (.ref 67), some (.int (zI b)), some (.int (zI e)), some (.int (zI 0)), some (.int (zI b))], [], es)) i_86_14 rfl ?_
    exact K1 c1
  · refine x_cmpF i_86_4 (by unfold i32 iLO iHI; omega) (by unfold i32 iLO iHI; omega) rfl (by simp only [zC, cR]; omega) ?_
    refine x0 (r := (10, [some (.ref 67), some (.int (zI b)), some (.int (zI e)), none, none], [.int (zI (-3000))], es)) i_86_7 (by rfl) ?_
    refine x_ret (v := some (.int (zI (-3000)))) i_86_10 rfl (fun _ => rfl) rfl rfl rfl ?_
    exact K2 c1
theorem s_no16 {O : pOut} {d kc ks : Nat} {Q : pRes → Prop} {es : PH} {R : Nat → Int32} {n0 : Nat} {b e v i : Int} (hs_es : sh es) (he : 0 ≤ e ∧ e ≤ 400) (hi : 0 ≤ i ∧ i ≤ 400) (hT_es : hOK tT es) (hr_es : jB R n0 es)
    (K1 : e ≤ i → Q (.inl (some (.int (zI v))), es, kc, ks))
    (K2 : ¬ (e ≤ i) → ∀ v2 : Int, atP 2 i es v2 → aW O (d + 1) 86 kc ks Q (16, [some (.ref 67), some (.int (zI b)), some (.int (zI e)), some (.int (zI (((10 * v) + v2) - 48))), some (.int (zI (i + 1)))], [], es)) :
    aW O (d + 1) 86 kc ks Q (16, [some (.ref 67), some (.int (zI b)), some (.int (zI e)), some (.int (zI v)), some (.int (zI i))], [], es) := by
  refine x0 (r := (18, [some (.ref 67), some (.int (zI b)), some (.int (zI e)), some (.int (zI v)), some (.int (zI i))], [.int (zI i)], es)) i_86_16 rfl ?_
  refine x0 (r := (19, [some (.ref 67), some (.int (zI b)), some (.int (zI e)), some (.int (zI v)), some (.int (zI i))], [.int (zI e), .int (zI i)], es)) i_86_18 rfl ?_
  by_cases c1 : e ≤ i
  · refine x_cmpT i_86_19 (by unfold i32 iLO iHI; omega) (by unfold i32 iLO iHI; omega) rfl (by simp only [zC, cR]; omega) ?_
    refine x0 (r := (50, [some (.ref 67), some (.int (zI b)), some (.int (zI e)), some (.int (zI v)), some (.int (zI i))], [.int (zI v)], es)) i_86_49 rfl ?_
    refine x_ret (v := some (.int (zI v))) i_86_50 rfl (fun _ => rfl) rfl rfl rfl ?_
    exact K1 c1
  · refine x_cmpF i_86_19 (by unfold i32 iLO iHI; omega) (by unfold i32 iLO iHI; omega) rfl (by simp only [zC, cR]; omega) ?_
    refine x0 (r := (24, [some (.ref 67), some (.int (zI b)), some (.int (zI e)), some (.int (zI v)), some (.int (zI i))], [.int (zI 10)], es)) i_86_22 (by rfl) ?_
    refine x0 (r := (25, [some (.ref 67), some (.int (zI b)), some (.int (zI e)), some (.int (zI v)), some (.int (zI i))], [.int (zI v), .int (zI 10)], es)) i_86_24 rfl ?_
    refine x_imul i_86_25 ?_
    refine x0 (r := (27, [some (.ref 67), some (.int (zI b)), some (.int (zI e)), some (.int (zI v)), some (.int (zI i))], [.ref 67, .int (zI (10 * v))], es)) i_86_26 rfl ?_
    refine x_getr (p := 3) (k := 65) i_86_27 hs_es rfl rfl ?_
    show aW _ _ _ _ _ _ (30, [some (.ref 67), some (.int (zI b)), some (.int (zI e)), some (.int (zI v)), some (.int (zI i))], [.ref 65, .int (zI (10 * v))], es)
    refine x_getr (p := 1) (k := 66) i_86_30 hs_es rfl rfl ?_
    show aW _ _ _ _ _ _ (33, [some (.ref 67), some (.int (zI b)), some (.int (zI e)), some (.int (zI v)), some (.int (zI i))], [.ref 66, .int (zI (10 * v))], es)
    refine x0 (r := (35, [some (.ref 67), some (.int (zI b)), some (.int (zI e)), some (.int (zI v)), some (.int (zI i))], [.int (zI i), .ref 66, .int (zI (10 * v))], es)) i_86_33 rfl ?_
    refine x_call (vs := [.ref 66, .int (zI i)]) (rs := [.int (zI (10 * v))]) i_86_35 rfl (fun _ => rfl) rfl rfl rfl rfl rfl rfl ?_
    show aW _ _ _ _ _ _ (0, [some (.ref 66), some (.int (zI i))], [], es)
    refine at_sp (p := 2) rfl hs_es (by omega) (by omega) (by decide) (fun v2 p_v2 => ?_)
    have r_v2 := atP_rng p_v2
    show aW _ _ _ _ _ _ (38, [some (.ref 67), some (.int (zI b)), some (.int (zI e)), some (.int (zI v)), some (.int (zI i))], [.int (zI v2), .int (zI (10 * v))], es)
    refine x_iadd i_86_38 ?_
    refine x0 (r := (41, [some (.ref 67), some (.int (zI b)), some (.int (zI e)), some (.int (zI v)), some (.int (zI i))], [.int (zI 48), .int (zI ((10 * v) + v2))], es)) i_86_39 (by rfl) ?_
    refine x_isub i_86_41 ?_
    refine x0 (r := (43, [some (.ref 67), some (.int (zI b)), some (.int (zI e)), some (.int (zI (((10 * v) + v2) - 48))), some (.int (zI i))], [], es)) i_86_42 rfl ?_
    refine x_iinc (x := i) i_86_43 rfl (by show 4 < 5; decide) ?_
    show aW _ _ _ _ _ _ (46, [some (.ref 67), some (.int (zI b)), some (.int (zI e)), some (.int (zI (((10 * v) + v2) - 48))), some (.int (zI (i + 1)))], [], es)
    refine x0 (r := (16, [some (.ref 67), some (.int (zI b)), some (.int (zI e)), some (.int (zI (((10 * v) + v2) - 48))), some (.int (zI (i + 1)))], [], es)) i_86_46 rfl ?_
    exact K2 c1 v2 p_v2
def btP (R : Nat → Int32) (n : Nat) (b : Int) (_ : PH) (v : Int) : Prop := v = (zBe (zR R) n b.toNat : Nat)
theorem cs1 (k : Nat) : ((k + 1 : Nat) : Int) = (k : Int) + 1 := by omega
theorem tx0 : pTX.getD 0 [] = zTx0 := by decide +kernel
section
variable {O : pOut} {d kc ks : Nat} {Q : pRes → Prop} {es : PH} {R : Nat → Int32} {n : Nat}
theorem bt_loopL {b : Int} {q : Nat} (hT : hOK tT es) (hj : jB R n es) (hq : q ≤ n) (K : Q (.inl (some (.int (zI (zRn (zR R) n zLe q : Nat)))), es, kc, ks)) : ∀ (N : Nat) (i : Nat), n - i < N → i ≤ n → zRn (zR R) n zLe i = zRn (zR R) n zLe q → aW O (d + 2) 81 kc ks Q (12, [some (.ref 67), some (.int (zI b)), some (.int (zI (i : Int)))], [], es) := by
  have hn4 := hj.2.2.2
  have hsz := hj.2.2.1
  intro N
  induction N with
  | zero => intro i h; omega
  | succ N ih =>
    intro i hN hi hx
    have fin : (i < n → ¬ zLe (zR R i) = true) → Q (.inl (some (.int (zI (i : Int)))), es, kc, ks) := by
      intro hs
      have e : zRn (zR R) n zLe i = i := zRn_stop (fun h => Bool.eq_false_iff.mpr (hs h))
      rw [← hx, e] at K
      exact K
    refine s_bt12 (d := d) (i := (i : Int)) (sh_of hT) ⟨by omega, by omega⟩ (by omega) hT hj (fun v1 e1 h1 => fin (fun h => by omega)) (fun v1 e1 h1 v3 p3 h3 => fin (fun h hl => ?_)) (fun v1 e1 h1 v3 p3 h3 => ?_)
    · have := p3.2.mpr hl
      omega
    · have hl : zLe (zR R i) = true := p3.2.mp (by rcases p3.1 with h | h <;> omega)
      have h9 := ih (i + 1) (by omega) (by omega) (by rw [← hx]; exact (zRn_go (by omega) hl).symm)
      rw [cs1] at h9
      exact h9
theorem bt_loopD {b : Int} {q : Nat} (hT : hOK tT es) (hj : jB R n es) (hq : q ≤ n) (K : Q (.inl (some (.int (zI (zRn (zR R) n zDi q : Nat)))), es, kc, ks)) : ∀ (N : Nat) (i : Nat), n - i < N → i ≤ n → zRn (zR R) n zDi i = zRn (zR R) n zDi q → aW O (d + 2) 81 kc ks Q (45, [some (.ref 67), some (.int (zI b)), some (.int (zI (i : Int)))], [], es) := by
  have hn4 := hj.2.2.2
  have hsz := hj.2.2.1
  intro N
  induction N with
  | zero => intro i h; omega
  | succ N ih =>
    intro i hN hi hx
    have fin : (i < n → ¬ zDi (zR R i) = true) → Q (.inl (some (.int (zI (i : Int)))), es, kc, ks) := by
      intro hs
      have e : zRn (zR R) n zDi i = i := zRn_stop (fun h => Bool.eq_false_iff.mpr (hs h))
      rw [← hx, e] at K
      exact K
    refine s_bt45 (d := d) (i := (i : Int)) (sh_of hT) ⟨by omega, by omega⟩ (by omega) hT hj (fun v1 e1 h1 => fin (fun h => by omega)) (fun v1 e1 h1 v3 p3 h3 => fin (fun h hl => ?_)) (fun v1 e1 h1 v3 p3 h3 => ?_)
    · have := p3.2.mpr hl
      omega
    · have hl : zDi (zR R i) = true := p3.2.mp (by rcases p3.1 with h | h <;> omega)
      have h9 := ih (i + 1) (by omega) (by omega) (by rw [← hx]; exact (zRn_go (by omega) hl).symm)
      rw [cs1] at h9
      exact h9
theorem bt_spec {b : Nat} (hT : hOK tT es) (hj : jB R n es) (hb : b < n) (K : Q (.inl (some (.int (zI (zBe (zR R) n b : Nat)))), es, kc, ks)) : aW O (d + 2) 81 kc ks Q (0, [some (.ref 67), some (.int (zI (b : Int))), none], [], es) := by
  have hn4 := hj.2.2.2
  refine s_bt0 (d := d) (b := (b : Int)) (sh_of hT) ⟨by omega, by omega⟩ hT hj (fun v1 p1 h1 v3 p3 h3 => ?_) (fun v1 p1 h1 v3 p3 h3 => ?_) (fun v1 p1 h1 => ?_)
  · have n1 : ¬ zLe (zR R b) = true := fun h => by have := p1.2.mpr h; omega
    have n2 : ¬ zDi (zR R b) = true := fun h => by have := p3.2.mpr h; omega
    have e : zBe (zR R) n b = b + 1 := by unfold zBe; rw [if_neg n1, if_neg n2]
    rw [e, cs1] at K
    exact K
  · have n1 : ¬ zLe (zR R b) = true := fun h => by have := p1.2.mpr h; omega
    have n2 : zDi (zR R b) = true := p3.2.mp (by rcases p3.1 with h | h <;> omega)
    have e : zBe (zR R) n b = zRn (zR R) n zDi b := by unfold zBe; rw [if_neg n1, if_pos n2]
    rw [e] at K
    have h9 := bt_loopD (O := O) (d := d) (b := (b : Int)) (q := b) hT hj (by omega) K _ (b + 1) (Nat.lt_succ_self _) (by omega) (zRn_go hb n2).symm
    rw [cs1] at h9
    exact h9
  · have n1 : zLe (zR R b) = true := p1.2.mp (by rcases p1.1 with h | h <;> omega)
    have e : zBe (zR R) n b = zRn (zR R) n zLe b := by unfold zBe; rw [if_pos n1]
    rw [e] at K
    have h9 := bt_loopL (O := O) (d := d) (b := (b : Int)) (q := b) hT hj (by omega) K _ (b + 1) (Nat.lt_succ_self _) (by omega) (zRn_go hb n1).symm
    rw [cs1] at h9
    exact h9
theorem wo_loop {b e : Nat} (hT : hOK tT es) (hj : jB R n es) (hb : b ≤ 399) (he : e ≤ 400) (K : Q (.inl (some (.int (zI (zWcod (zR R) b e)))), es, kc, ks)) : ∀ (N k i : Nat) (w : Int), 82 - k < N → k ≤ 82 → i ≤ 401 → zWF (zR R) b e (zTx0.drop k) i w = zWcod (zR R) b e → aW O (d + 1) 85 kc ks Q (8, [some (.ref 67), some (.int (zI (b : Int))), some (.int (zI (e : Int))), some (.int (zI w)), some (.int (zI (i : Int))), some (.int (zI (k : Int)))], [], es) := by
  have hlen : zTx0.length = 82 := by decide
  intro N
  induction N with
  | zero => intro k i w h; omega
  | succ N ih =>
    intro k i w hN hk hi hx
    have step : k < 82 → zTx0.drop k = (pTX.getD 0 []).getD k 0 :: zTx0.drop (k + 1) := by
      intro h
      rw [tx0, List.drop_eq_getElem_cons (by omega), List.getD_eq_getElem?_getD, List.getElem?_eq_getElem (by omega)]
      rfl
    refine s_wo8 (d := d) (b := (b : Int)) (e := (e : Int)) (i := (i : Int)) (k := (k : Int)) (sh_of hT) ⟨by omega, by omega⟩ ⟨by omega, by omega⟩ ⟨by omega, by omega⟩ ⟨by omega, by omega⟩ hT hj (fun h1 => ?_) (fun h1 v2 e2 h2 h3 => ?_) (fun h1 v2 e2 h2 h3 v5 p5 v6 e6 h6 => ?_) (fun h1 v2 e2 h2 h3 v5 p5 v6 e6 h6 => ?_) (fun h1 v2 e2 h2 h3 => ?_) (fun h1 v2 e2 h2 h3 => ?_)
    · rw [List.drop_eq_nil_of_le (by omega)] at hx
      have hx' : (-3000 : Int) = zWcod (zR R) b e := hx
      rw [← hx'] at K
      exact K
    · rw [step (by omega), zWF_cons, if_neg (by intro h; rw [Int.toNat_natCast] at e2; omega), if_neg (by omega)] at hx
      have h9 := ih (k + 1) (e + 1) w (by omega) (by omega) (by omega) hx
      rw [cs1 k, cs1 e] at h9
      exact h9
    · rw [Int.toNat_natCast] at e2 e6
      obtain ⟨a1, a2, a3⟩ := jB_at hj (by omega) (by omega) p5
      rw [Int.toNat_natCast] at a1 a2 a3
      have hch := chr_bd (t := pTX.getD 0 []) (i := k) (by decide)
      have h8 := zU8_eq (y := v6) a2 a3 (by omega) (by omega)
      rw [step (by omega), zWF_cons, if_neg (by omega), if_neg (fun h => h6 (by rw [a1, h8.mpr (by rw [e6]; exact h.2)]))] at hx
      have h9 := ih (k + 1) (e + 1) w (by omega) (by omega) (by omega) hx
      rw [cs1 k, cs1 e] at h9
      exact h9
    · rw [Int.toNat_natCast] at e2 e6
      obtain ⟨a1, a2, a3⟩ := jB_at hj (by omega) (by omega) p5
      rw [Int.toNat_natCast] at a1 a2 a3
      have hch := chr_bd (t := pTX.getD 0 []) (i := k) (by decide)
      have h8 := zU8_eq (y := v6) a2 a3 (by omega) (by omega)
      have h9 : zR R i = v6 := h8.mp (by omega)
      rw [step (by omega), zWF_cons, if_neg (by omega), if_pos (by omega)] at hx
      have h10 := ih (k + 1) (i + 1) w (by omega) (by omega) (by omega) hx
      rw [cs1 k, cs1 i] at h10
      exact h10
    · rw [Int.toNat_natCast] at e2
      rw [step (by omega), zWF_cons, if_pos (by omega), if_neg (by omega), show w - 1 = w + (-1) by omega] at hx
      have h9 := ih (k + 1) b (w + (-1)) (by omega) (by omega) (by omega) hx
      rw [cs1 k] at h9
      exact h9
    · rw [Int.toNat_natCast] at e2
      rw [step (by omega), zWF_cons, if_pos (by omega), if_pos (by omega)] at hx
      rw [← hx] at K
      exact K
theorem wo_spec {x y : Int} (hs : sh es) (hT : hOK tT es) (hj : jB R n es) (hx : 0 ≤ x ∧ x ≤ 399) (hy : 0 ≤ y ∧ y ≤ 400) (K : ∀ v, woP R x y es v → Q (.inl (some (.int (zI v))), es, kc, ks)) : aW O (d + 1) 85 kc ks Q (0, [some (.ref 67), some (.int (zI x)), some (.int (zI y)), none, none, none], [], es) := by
  have ex : ((x.toNat : Nat) : Int) = x := by omega
  have ey : ((y.toNat : Nat) : Int) = y := by omega
  refine s_wo0 (d := d + 1) hs hT hj ?_
  have := wo_loop (O := O) (d := d) (kc := kc) (ks := ks) (Q := Q) (b := x.toNat) (e := y.toNat) hT hj (by omega) (by omega) (K _ rfl) 83 0 x.toNat (-1) (by omega) (by omega) (by omega) zWF_ok
  rw [ex, ey] at this
  exact this
/-- numberOf, of digits alone -/
theorem no_loop {b e : Nat} (hT : hOK tT es) (hj : jB R n es) (hb : b ≤ e) (he : e ≤ 400) (hdg : ∀ i, b ≤ i → i < e → zDi (zR R i) = true) (K : Q (.inl (some (.int (zI (zDvl (zR R) (e - b) b 0)))), es, kc, ks)) : ∀ (N i : Nat), e - i < N → b ≤ i → i ≤ e → aW O (d + 1) 86 kc ks Q (16, [some (.ref 67), some (.int (zI (b : Int))), some (.int (zI (e : Int))), some (.int (zI (zDvl (zR R) (i - b) b 0))), some (.int (zI (i : Int)))], [], es) := by
  intro N
  induction N with
  | zero => intro i h; omega
  | succ N ih =>
    intro i hN hi hie
    refine s_no16 (d := d) (b := (b : Int)) (e := (e : Int)) (i := (i : Int)) (sh_of hT) ⟨by omega, by omega⟩ ⟨by omega, by omega⟩ hT hj (fun h1 => ?_) (fun h1 v2 p2 => ?_)
    · rw [show e - b = i - b by omega] at K
      exact K
    · obtain ⟨a1, a2, a3⟩ := jB_at hj (by omega) (by omega) p2
      rw [Int.toNat_natCast] at a1 a2 a3
      have hd := zDi_iff.mp (hdg i hi (by omega))
      have h8 := (zU8_eq (y := zR R i) a2 a3 (by omega) (by omega)).mpr rfl
      have := ih (i + 1) (by omega) (by omega) (by omega)
      rw [show i + 1 - b = (i - b) + 1 by omega, zDvl_snoc, show b + (i - b) = i by omega, ← h8, ← a1, cs1] at this
      exact this
theorem no_spec {b e : Nat} (hT : hOK tT es) (hj : jB R n es) (hb : b ≤ 399) (hbe : b ≤ e) (he : e ≤ 400) (hdg : ∀ i, b ≤ i → i < e → zDi (zR R i) = true) (K : Q (.inl (some (.int (zI (zNcod (zR R) b e)))), es, kc, ks)) : aW O (d + 1) 86 kc ks Q (0, [some (.ref 67), some (.int (zI (b : Int))), some (.int (zI (e : Int))), none, none], [], es) := by
  refine s_no0 (d := d + 1) (b := (b : Int)) (e := (e : Int)) (sh_of hT) ⟨by omega, by omega⟩ ⟨by omega, by omega⟩ hT hj (fun h1 => ?_) (fun h1 => ?_)
  · have e1 : zNcod (zR R) b e = zDvl (zR R) (e - b) b 0 := by unfold zNcod; rw [if_neg (by omega)]
    rw [e1] at K
    have := no_loop (O := O) (d := d) hT hj hbe he hdg K (e - b + 1) b (by omega) (by omega) hbe
    rw [Nat.sub_self] at this
    exact this
  · have e1 : zNcod (zR R) b e = -3000 := by unfold zNcod; rw [if_pos (by omega)]
    rw [e1] at K
    exact K
end
