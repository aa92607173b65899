theorem i_26_0 : iRow 26 0 = some (.aload_n 0, 0, 0, 0, none) := rfl
theorem i_26_1 : iRow 26 1 = some (.getfield 15, 94, 4, 4, none) := rfl
theorem i_26_4 : iRow 26 4 = some (.iload_n 1, 0, 0, 0, none) := rfl
theorem i_26_5 : iRow 26 5 = some (.sipush 1000, 0, 0, 0, none) := rfl
theorem i_26_8 : iRow 26 8 = some (.invokestatic 104, 8, 14, 3, none) := rfl
theorem i_26_11 : iRow 26 11 = some (.aload_n 0, 0, 0, 0, none) := rfl
theorem i_26_12 : iRow 26 12 = some (.getfield 18, 95, 4, 5, none) := rfl
theorem i_26_15 : iRow 26 15 = some (.iload_n 1, 0, 0, 0, none) := rfl
theorem i_26_16 : iRow 26 16 = some (.iconst (-1), 0, 0, 0, none) := rfl
theorem i_26_17 : iRow 26 17 = some (.invokestatic 104, 8, 14, 3, none) := rfl
theorem i_26_20 : iRow 26 20 = some (.aload_n 0, 0, 0, 0, none) := rfl
theorem i_26_21 : iRow 26 21 = some (.getfield 21, 96, 4, 6, none) := rfl
theorem i_26_24 : iRow 26 24 = some (.iload_n 1, 0, 0, 0, none) := rfl
theorem i_26_25 : iRow 26 25 = some (.sipush 1000, 0, 0, 0, none) := rfl
theorem i_26_28 : iRow 26 28 = some (.invokestatic 104, 8, 14, 3, none) := rfl
theorem i_26_31 : iRow 26 31 = some (.return_, 0, 0, 0, none) := rfl
theorem i_27_0 : iRow 27 0 = some (.aload_n 0, 0, 0, 0, none) := rfl
theorem i_27_1 : iRow 27 1 = some (.getfield 11, 93, 4, 3, none) := rfl
theorem i_27_4 : iRow 27 4 = some (.iload_n 1, 0, 0, 0, none) := rfl
theorem i_27_5 : iRow 27 5 = some (.bipush 25, 0, 0, 0, none) := rfl
theorem i_27_7 : iRow 27 7 = some (.imul, 0, 0, 0, none) := rfl
theorem i_27_8 : iRow 27 8 = some (.iload_n 2, 0, 0, 0, none) := rfl
theorem i_27_9 : iRow 27 9 = some (.iadd, 0, 0, 0, none) := rfl
theorem i_27_10 : iRow 27 10 = some (.iload_n 3, 0, 0, 0, none) := rfl
theorem i_27_11 : iRow 27 11 = some (.invokestatic 104, 8, 14, 3, none) := rfl
theorem i_27_14 : iRow 27 14 = some (.iload_n 3, 0, 0, 0, none) := rfl
theorem i_27_15 : iRow 27 15 = some (.sipush 1000, 0, 0, 0, none) := rfl
theorem i_27_18 : iRow 27 18 = some (.if_icmp .ge 52, 0, 0, 0, none) := rfl
theorem i_27_21 : iRow 27 21 = some (.aload_n 0, 0, 0, 0, none) := rfl
theorem i_27_22 : iRow 27 22 = some (.getfield 15, 94, 4, 4, none) := rfl
theorem i_27_25 : iRow 27 25 = some (.iload_n 1, 0, 0, 0, none) := rfl
theorem i_27_26 : iRow 27 26 = some (.aload_n 0, 0, 0, 0, none) := rfl
theorem i_27_27 : iRow 27 27 = some (.getfield 15, 94, 4, 4, none) := rfl
theorem i_27_30 : iRow 27 30 = some (.iload_n 1, 0, 0, 0, none) := rfl
theorem i_27_31 : iRow 27 31 = some (.invokestatic 44, 9, 28, 3, none) := rfl
theorem i_27_34 : iRow 27 34 = some (.iload_n 2, 0, 0, 0, none) := rfl
theorem i_27_35 : iRow 27 35 = some (.invokestatic 94, 35, 21, 0, none) := rfl
theorem i_27_38 : iRow 27 38 = some (.invokestatic 104, 8, 14, 3, none) := rfl
theorem i_27_41 : iRow 27 41 = some (.aload_n 0, 0, 0, 0, none) := rfl
theorem i_27_42 : iRow 27 42 = some (.getfield 18, 95, 4, 5, none) := rfl
theorem i_27_45 : iRow 27 45 = some (.iload_n 1, 0, 0, 0, none) := rfl
theorem i_27_46 : iRow 27 46 = some (.iload_n 2, 0, 0, 0, none) := rfl
theorem i_27_47 : iRow 27 47 = some (.invokestatic 104, 8, 14, 3, none) := rfl
theorem i_27_50 : iRow 27 50 = some (.aload_n 0, 0, 0, 0, none) := rfl
theorem i_27_51 : iRow 27 51 = some (.getfield 21, 96, 4, 6, none) := rfl
theorem i_27_54 : iRow 27 54 = some (.iload_n 1, 0, 0, 0, none) := rfl
theorem i_27_55 : iRow 27 55 = some (.aload_n 0, 0, 0, 0, none) := rfl
theorem i_27_56 : iRow 27 56 = some (.getfield 21, 96, 4, 6, none) := rfl
theorem i_27_59 : iRow 27 59 = some (.iload_n 1, 0, 0, 0, none) := rfl
theorem i_27_60 : iRow 27 60 = some (.invokestatic 44, 9, 28, 3, none) := rfl
theorem i_27_63 : iRow 27 63 = some (.iload_n 3, 0, 0, 0, none) := rfl
theorem i_27_64 : iRow 27 64 = some (.invokestatic 94, 35, 21, 0, none) := rfl
theorem i_27_67 : iRow 27 67 = some (.invokestatic 104, 8, 14, 3, none) := rfl
theorem i_27_70 : iRow 27 70 = some (.return_, 0, 0, 0, none) := rfl
theorem i_41_0 : iRow 41 0 = some (.lconst 0, 0, 0, 0, (some (Jvm.ClassFile.FieldType.long))) := rfl
theorem i_41_1 : iRow 41 1 = some (.lstore_n 2, 0, 0, 0, (some (Jvm.ClassFile.FieldType.long))) := rfl
theorem i_41_2 : iRow 41 2 = some (.lconst 0, 0, 0, 0, (some (Jvm.ClassFile.FieldType.long))) := rfl
theorem i_41_3 : iRow 41 3 = some (.lstore 4, 0, 0, 0, (some (Jvm.ClassFile.FieldType.long))) := rfl
theorem i_41_5 : iRow 41 5 = some (.lconst 0, 0, 0, 0, (some (Jvm.ClassFile.FieldType.long))) := rfl
theorem i_41_6 : iRow 41 6 = some (.lstore 6, 0, 0, 0, (some (Jvm.ClassFile.FieldType.long))) := rfl
theorem i_41_8 : iRow 41 8 = some (.aload_n 0, 0, 0, 0, (some (Jvm.ClassFile.FieldType.long))) := rfl
theorem i_41_9 : iRow 41 9 = some (.getfield 28, 89, 4, 1, (some (Jvm.ClassFile.FieldType.long))) := rfl
theorem i_41_12 : iRow 41 12 = some (.getfield 48, 61, 5, 0, (some (Jvm.ClassFile.FieldType.long))) := rfl
theorem i_41_15 : iRow 41 15 = some (.istore 8, 0, 0, 0, (some (Jvm.ClassFile.FieldType.long))) := rfl
theorem i_41_17 : iRow 41 17 = some (.iload 8, 0, 0, 0, (some (Jvm.ClassFile.FieldType.long))) := rfl
theorem i_41_19 : iRow 41 19 = some (.aload_n 0, 0, 0, 0, (some (Jvm.ClassFile.FieldType.long))) := rfl
theorem i_41_20 : iRow 41 20 = some (.getfield 28, 89, 4, 1, (some (Jvm.ClassFile.FieldType.long))) := rfl
theorem i_41_23 : iRow 41 23 = some (.getfield 53, 63, 5, 1, (some (Jvm.ClassFile.FieldType.long))) := rfl
theorem i_41_26 : iRow 41 26 = some (.if_icmp .ge 42, 0, 0, 0, (some (Jvm.ClassFile.FieldType.long))) := rfl
theorem i_41_29 : iRow 41 29 = some (.aload_n 0, 0, 0, 0, (some (Jvm.ClassFile.FieldType.long))) := rfl
theorem i_41_30 : iRow 41 30 = some (.iload_n 1, 0, 0, 0, (some (Jvm.ClassFile.FieldType.long))) := rfl
theorem i_41_31 : iRow 41 31 = some (.iload 8, 0, 0, 0, (some (Jvm.ClassFile.FieldType.long))) := rfl
theorem i_41_33 : iRow 41 33 = some (.invokevirtual 66, 49, 42, 1, (some (Jvm.ClassFile.FieldType.long))) := rfl
theorem i_41_36 : iRow 41 36 = some (.lstore 9, 0, 0, 0, (some (Jvm.ClassFile.FieldType.long))) := rfl
theorem i_41_38 : iRow 41 38 = some (.lload 6, 0, 0, 0, (some (Jvm.ClassFile.FieldType.long))) := rfl
theorem i_41_40 : iRow 41 40 = some (.lload 4, 0, 0, 0, (some (Jvm.ClassFile.FieldType.long))) := rfl
theorem i_41_42 : iRow 41 42 = some (.lload 9, 0, 0, 0, (some (Jvm.ClassFile.FieldType.long))) := rfl
theorem i_41_44 : iRow 41 44 = some (.land, 0, 0, 0, (some (Jvm.ClassFile.FieldType.long))) := rfl
theorem i_41_45 : iRow 41 45 = some (.lor, 0, 0, 0, (some (Jvm.ClassFile.FieldType.long))) := rfl
theorem i_41_46 : iRow 41 46 = some (.lstore 6, 0, 0, 0, (some (Jvm.ClassFile.FieldType.long))) := rfl
theorem i_41_48 : iRow 41 48 = some (.lload 4, 0, 0, 0, (some (Jvm.ClassFile.FieldType.long))) := rfl
theorem i_41_50 : iRow 41 50 = some (.lload_n 2, 0, 0, 0, (some (Jvm.ClassFile.FieldType.long))) := rfl
theorem i_41_51 : iRow 41 51 = some (.lload 9, 0, 0, 0, (some (Jvm.ClassFile.FieldType.long))) := rfl
theorem i_41_53 : iRow 41 53 = some (.land, 0, 0, 0, (some (Jvm.ClassFile.FieldType.long))) := rfl
theorem i_41_54 : iRow 41 54 = some (.lor, 0, 0, 0, (some (Jvm.ClassFile.FieldType.long))) := rfl
theorem i_41_55 : iRow 41 55 = some (.lstore 4, 0, 0, 0, (some (Jvm.ClassFile.FieldType.long))) := rfl
theorem i_41_57 : iRow 41 57 = some (.lload_n 2, 0, 0, 0, (some (Jvm.ClassFile.FieldType.long))) := rfl
theorem i_41_58 : iRow 41 58 = some (.lload 9, 0, 0, 0, (some (Jvm.ClassFile.FieldType.long))) := rfl
theorem i_41_60 : iRow 41 60 = some (.lor, 0, 0, 0, (some (Jvm.ClassFile.FieldType.long))) := rfl
theorem i_41_61 : iRow 41 61 = some (.lstore_n 2, 0, 0, 0, (some (Jvm.ClassFile.FieldType.long))) := rfl
theorem i_41_62 : iRow 41 62 = some (.iinc 8 1, 0, 0, 0, (some (Jvm.ClassFile.FieldType.long))) := rfl
theorem i_41_65 : iRow 41 65 = some (.goto (-48), 0, 0, 0, (some (Jvm.ClassFile.FieldType.long))) := rfl
theorem i_41_68 : iRow 41 68 = some (.aload_n 0, 0, 0, 0, (some (Jvm.ClassFile.FieldType.long))) := rfl
theorem i_41_69 : iRow 41 69 = some (.getfield 28, 89, 4, 1, (some (Jvm.ClassFile.FieldType.long))) := rfl
theorem i_41_72 : iRow 41 72 = some (.getfield 70, 70, 5, 4, (some (Jvm.ClassFile.FieldType.long))) := rfl
theorem i_41_75 : iRow 41 75 = some (.bipush 6, 0, 0, 0, (some (Jvm.ClassFile.FieldType.long))) := rfl
theorem i_41_77 : iRow 41 77 = some (.invokestatic 44, 9, 28, 3, (some (Jvm.ClassFile.FieldType.long))) := rfl
theorem i_41_80 : iRow 41 80 = some (.istore 8, 0, 0, 0, (some (Jvm.ClassFile.FieldType.long))) := rfl
theorem i_41_82 : iRow 41 82 = some (.aload_n 0, 0, 0, 0, (some (Jvm.ClassFile.FieldType.long))) := rfl
theorem i_41_83 : iRow 41 83 = some (.getfield 28, 89, 4, 1, (some (Jvm.ClassFile.FieldType.long))) := rfl
theorem i_41_86 : iRow 41 86 = some (.getfield 53, 63, 5, 1, (some (Jvm.ClassFile.FieldType.long))) := rfl
theorem i_41_89 : iRow 41 89 = some (.aload_n 0, 0, 0, 0, (some (Jvm.ClassFile.FieldType.long))) := rfl
theorem i_41_90 : iRow 41 90 = some (.getfield 28, 89, 4, 1, (some (Jvm.ClassFile.FieldType.long))) := rfl
theorem i_41_93 : iRow 41 93 = some (.getfield 48, 61, 5, 0, (some (Jvm.ClassFile.FieldType.long))) := rfl
theorem i_41_96 : iRow 41 96 = some (.isub, 0, 0, 0, (some (Jvm.ClassFile.FieldType.long))) := rfl
theorem i_41_97 : iRow 41 97 = some (.iload 8, 0, 0, 0, (some (Jvm.ClassFile.FieldType.long))) := rfl
theorem i_41_99 : iRow 41 99 = some (.ifCond .le 19, 0, 0, 0, (some (Jvm.ClassFile.FieldType.long))) := rfl
theorem i_41_118 : iRow 41 118 = some (.iconst 0, 0, 0, 0, (some (Jvm.ClassFile.FieldType.long))) := rfl
theorem i_41_119 : iRow 41 119 = some (.isub, 0, 0, 0, (some (Jvm.ClassFile.FieldType.long))) := rfl
theorem i_41_120 : iRow 41 120 = some (.istore 9, 0, 0, 0, (some (Jvm.ClassFile.FieldType.long))) := rfl
theorem i_41_122 : iRow 41 122 = some (.iload 9, 0, 0, 0, (some (Jvm.ClassFile.FieldType.long))) := rfl
theorem i_41_124 : iRow 41 124 = some (.ifCond .gt 7, 0, 0, 0, (some (Jvm.ClassFile.FieldType.long))) := rfl
theorem i_41_131 : iRow 41 131 = some (.iload 9, 0, 0, 0, (some (Jvm.ClassFile.FieldType.long))) := rfl
theorem i_41_133 : iRow 41 133 = some (.iconst 1, 0, 0, 0, (some (Jvm.ClassFile.FieldType.long))) := rfl
theorem i_41_134 : iRow 41 134 = some (.if_icmp .ne 7, 0, 0, 0, (some (Jvm.ClassFile.FieldType.long))) := rfl
theorem i_41_137 : iRow 41 137 = some (.lload_n 2, 0, 0, 0, (some (Jvm.ClassFile.FieldType.long))) := rfl
theorem i_41_138 : iRow 41 138 = some (.goto 16, 0, 0, 0, (some (Jvm.ClassFile.FieldType.long))) := rfl
theorem i_41_154 : iRow 41 154 = some (.lreturn, 0, 0, 0, (some (Jvm.ClassFile.FieldType.long))) := rfl
theorem i_42_0 : iRow 42 0 = some (.iload_n 1, 0, 0, 0, (some (Jvm.ClassFile.FieldType.long))) := rfl
theorem i_42_1 : iRow 42 1 = some (.iconst 3, 0, 0, 0, (some (Jvm.ClassFile.FieldType.long))) := rfl
theorem i_42_2 : iRow 42 2 = some (.imul, 0, 0, 0, (some (Jvm.ClassFile.FieldType.long))) := rfl
theorem i_42_3 : iRow 42 3 = some (.iload_n 2, 0, 0, 0, (some (Jvm.ClassFile.FieldType.long))) := rfl
theorem i_42_4 : iRow 42 4 = some (.iadd, 0, 0, 0, (some (Jvm.ClassFile.FieldType.long))) := rfl
theorem i_42_5 : iRow 42 5 = some (.istore_n 3, 0, 0, 0, (some (Jvm.ClassFile.FieldType.long))) := rfl
theorem i_42_6 : iRow 42 6 = some (.aload_n 0, 0, 0, 0, (some (Jvm.ClassFile.FieldType.long))) := rfl
theorem i_42_7 : iRow 42 7 = some (.getfield 28, 89, 4, 1, (some (Jvm.ClassFile.FieldType.long))) := rfl
theorem i_42_10 : iRow 42 10 = some (.getfield 78, 66, 5, 3, (some (Jvm.ClassFile.FieldType.long))) := rfl
theorem i_42_13 : iRow 42 13 = some (.iload_n 2, 0, 0, 0, (some (Jvm.ClassFile.FieldType.long))) := rfl
theorem i_42_14 : iRow 42 14 = some (.invokestatic 44, 9, 28, 3, (some (Jvm.ClassFile.FieldType.long))) := rfl
theorem i_42_17 : iRow 42 17 = some (.istore 4, 0, 0, 0, (some (Jvm.ClassFile.FieldType.long))) := rfl
theorem i_42_19 : iRow 42 19 = some (.lconst 0, 0, 0, 0, (some (Jvm.ClassFile.FieldType.long))) := rfl
theorem i_42_20 : iRow 42 20 = some (.lstore 5, 0, 0, 0, (some (Jvm.ClassFile.FieldType.long))) := rfl
theorem i_42_22 : iRow 42 22 = some (.aload_n 0, 0, 0, 0, (some (Jvm.ClassFile.FieldType.long))) := rfl
theorem i_42_23 : iRow 42 23 = some (.getfield 15, 94, 4, 4, (some (Jvm.ClassFile.FieldType.long))) := rfl
theorem i_42_26 : iRow 42 26 = some (.iload_n 3, 0, 0, 0, (some (Jvm.ClassFile.FieldType.long))) := rfl
theorem i_42_27 : iRow 42 27 = some (.invokestatic 44, 9, 28, 3, (some (Jvm.ClassFile.FieldType.long))) := rfl
theorem i_42_30 : iRow 42 30 = some (.istore 7, 0, 0, 0, (some (Jvm.ClassFile.FieldType.long))) := rfl
theorem i_42_32 : iRow 42 32 = some (.iload 7, 0, 0, 0, (some (Jvm.ClassFile.FieldType.long))) := rfl
theorem i_42_34 : iRow 42 34 = some (.aload_n 0, 0, 0, 0, (some (Jvm.ClassFile.FieldType.long))) := rfl
theorem i_42_35 : iRow 42 35 = some (.getfield 18, 95, 4, 5, (some (Jvm.ClassFile.FieldType.long))) := rfl
theorem i_42_38 : iRow 42 38 = some (.iload_n 3, 0, 0, 0, (some (Jvm.ClassFile.FieldType.long))) := rfl
theorem i_42_39 : iRow 42 39 = some (.invokestatic 44, 9, 28, 3, (some (Jvm.ClassFile.FieldType.long))) := rfl
theorem i_42_42 : iRow 42 42 = some (.if_icmp .gt 138, 0, 0, 0, (some (Jvm.ClassFile.FieldType.long))) := rfl
theorem i_42_45 : iRow 42 45 = some (.iload 7, 0, 0, 0, (some (Jvm.ClassFile.FieldType.long))) := rfl
theorem i_42_47 : iRow 42 47 = some (.aload_n 0, 0, 0, 0, (some (Jvm.ClassFile.FieldType.long))) := rfl
theorem i_42_48 : iRow 42 48 = some (.getfield 24, 88, 4, 0, (some (Jvm.ClassFile.FieldType.long))) := rfl
theorem i_42_51 : iRow 42 51 = some (.iload_n 2, 0, 0, 0, (some (Jvm.ClassFile.FieldType.long))) := rfl
theorem i_42_52 : iRow 42 52 = some (.invokevirtual 56, 42, 35, 1, (some (Jvm.ClassFile.FieldType.long))) := rfl
theorem i_42_55 : iRow 42 55 = some (.if_icmp .ge 125, 0, 0, 0, (some (Jvm.ClassFile.FieldType.long))) := rfl
theorem i_42_58 : iRow 42 58 = some (.aload_n 0, 0, 0, 0, (some (Jvm.ClassFile.FieldType.long))) := rfl
theorem i_42_59 : iRow 42 59 = some (.getfield 11, 93, 4, 3, (some (Jvm.ClassFile.FieldType.long))) := rfl
theorem i_42_62 : iRow 42 62 = some (.iload_n 3, 0, 0, 0, (some (Jvm.ClassFile.FieldType.long))) := rfl
theorem i_42_63 : iRow 42 63 = some (.bipush 25, 0, 0, 0, (some (Jvm.ClassFile.FieldType.long))) := rfl
theorem i_42_65 : iRow 42 65 = some (.imul, 0, 0, 0, (some (Jvm.ClassFile.FieldType.long))) := rfl
theorem i_42_66 : iRow 42 66 = some (.iload 7, 0, 0, 0, (some (Jvm.ClassFile.FieldType.long))) := rfl
theorem i_42_68 : iRow 42 68 = some (.iadd, 0, 0, 0, (some (Jvm.ClassFile.FieldType.long))) := rfl
theorem i_42_69 : iRow 42 69 = some (.invokestatic 44, 9, 28, 3, (some (Jvm.ClassFile.FieldType.long))) := rfl
theorem i_42_72 : iRow 42 72 = some (.sipush 1000, 0, 0, 0, (some (Jvm.ClassFile.FieldType.long))) := rfl
theorem i_42_75 : iRow 42 75 = some (.if_icmp .ge 99, 0, 0, 0, (some (Jvm.ClassFile.FieldType.long))) := rfl
theorem i_42_78 : iRow 42 78 = some (.aload_n 0, 0, 0, 0, (some (Jvm.ClassFile.FieldType.long))) := rfl
theorem i_42_79 : iRow 42 79 = some (.getfield 24, 88, 4, 0, (some (Jvm.ClassFile.FieldType.long))) := rfl
theorem i_42_82 : iRow 42 82 = some (.iload_n 2, 0, 0, 0, (some (Jvm.ClassFile.FieldType.long))) := rfl
theorem i_42_83 : iRow 42 83 = some (.iload 7, 0, 0, 0, (some (Jvm.ClassFile.FieldType.long))) := rfl
theorem i_42_85 : iRow 42 85 = some (.iconst 2, 0, 0, 0, (some (Jvm.ClassFile.FieldType.long))) := rfl
theorem i_42_86 : iRow 42 86 = some (.invokevirtual 81, 50, 43, 1, (some (Jvm.ClassFile.FieldType.long))) := rfl
theorem i_42_89 : iRow 42 89 = some (.istore 8, 0, 0, 0, (some (Jvm.ClassFile.FieldType.long))) := rfl
theorem i_42_91 : iRow 42 91 = some (.aload_n 0, 0, 0, 0, (some (Jvm.ClassFile.FieldType.long))) := rfl
theorem i_42_92 : iRow 42 92 = some (.getfield 24, 88, 4, 0, (some (Jvm.ClassFile.FieldType.long))) := rfl
theorem i_42_95 : iRow 42 95 = some (.iload_n 2, 0, 0, 0, (some (Jvm.ClassFile.FieldType.long))) := rfl
theorem i_42_96 : iRow 42 96 = some (.iload 7, 0, 0, 0, (some (Jvm.ClassFile.FieldType.long))) := rfl
theorem i_42_98 : iRow 42 98 = some (.iconst 3, 0, 0, 0, (some (Jvm.ClassFile.FieldType.long))) := rfl
theorem i_42_99 : iRow 42 99 = some (.invokevirtual 81, 50, 43, 1, (some (Jvm.ClassFile.FieldType.long))) := rfl
theorem i_42_102 : iRow 42 102 = some (.iload 4, 0, 0, 0, (some (Jvm.ClassFile.FieldType.long))) := rfl
theorem i_42_104 : iRow 42 104 = some (.iload_n 1, 0, 0, 0, (some (Jvm.ClassFile.FieldType.long))) := rfl
theorem i_42_105 : iRow 42 105 = some (.iconst 1, 0, 0, 0, (some (Jvm.ClassFile.FieldType.long))) := rfl
theorem i_42_106 : iRow 42 106 = some (.iand, 0, 0, 0, (some (Jvm.ClassFile.FieldType.long))) := rfl
theorem i_42_107 : iRow 42 107 = some (.invokestatic 84, 15, 44, 3, (some (Jvm.ClassFile.FieldType.long))) := rfl
theorem i_42_110 : iRow 42 110 = some (.istore 9, 0, 0, 0, (some (Jvm.ClassFile.FieldType.long))) := rfl
theorem i_42_112 : iRow 42 112 = some (.lload 5, 0, 0, 0, (some (Jvm.ClassFile.FieldType.long))) := rfl
theorem i_42_114 : iRow 42 114 = some (.iload 8, 0, 0, 0, (some (Jvm.ClassFile.FieldType.long))) := rfl
theorem i_42_116 : iRow 42 116 = some (.iload 9, 0, 0, 0, (some (Jvm.ClassFile.FieldType.long))) := rfl
theorem i_42_118 : iRow 42 118 = some (.invokestatic 87, 51, 45, 0, (some (Jvm.ClassFile.FieldType.long))) := rfl
theorem i_42_121 : iRow 42 121 = some (.iload 8, 0, 0, 0, (some (Jvm.ClassFile.FieldType.long))) := rfl
theorem i_42_123 : iRow 42 123 = some (.iconst 1, 0, 0, 0, (some (Jvm.ClassFile.FieldType.long))) := rfl
theorem i_42_124 : iRow 42 124 = some (.isub, 0, 0, 0, (some (Jvm.ClassFile.FieldType.long))) := rfl
theorem i_42_125 : iRow 42 125 = some (.iload 9, 0, 0, 0, (some (Jvm.ClassFile.FieldType.long))) := rfl
theorem i_42_127 : iRow 42 127 = some (.invokestatic 87, 51, 45, 0, (some (Jvm.ClassFile.FieldType.long))) := rfl
theorem i_42_130 : iRow 42 130 = some (.lor, 0, 0, 0, (some (Jvm.ClassFile.FieldType.long))) := rfl
theorem i_42_131 : iRow 42 131 = some (.iload 8, 0, 0, 0, (some (Jvm.ClassFile.FieldType.long))) := rfl
theorem i_42_133 : iRow 42 133 = some (.iconst 1, 0, 0, 0, (some (Jvm.ClassFile.FieldType.long))) := rfl
theorem i_42_134 : iRow 42 134 = some (.iadd, 0, 0, 0, (some (Jvm.ClassFile.FieldType.long))) := rfl
theorem i_42_135 : iRow 42 135 = some (.iload 9, 0, 0, 0, (some (Jvm.ClassFile.FieldType.long))) := rfl
theorem i_42_137 : iRow 42 137 = some (.invokestatic 87, 51, 45, 0, (some (Jvm.ClassFile.FieldType.long))) := rfl
theorem i_42_140 : iRow 42 140 = some (.lor, 0, 0, 0, (some (Jvm.ClassFile.FieldType.long))) := rfl
theorem i_42_141 : iRow 42 141 = some (.iload 8, 0, 0, 0, (some (Jvm.ClassFile.FieldType.long))) := rfl
theorem i_42_143 : iRow 42 143 = some (.iload 9, 0, 0, 0, (some (Jvm.ClassFile.FieldType.long))) := rfl
theorem i_42_145 : iRow 42 145 = some (.iconst 1, 0, 0, 0, (some (Jvm.ClassFile.FieldType.long))) := rfl
theorem i_42_146 : iRow 42 146 = some (.isub, 0, 0, 0, (some (Jvm.ClassFile.FieldType.long))) := rfl
theorem i_42_147 : iRow 42 147 = some (.invokestatic 87, 51, 45, 0, (some (Jvm.ClassFile.FieldType.long))) := rfl
theorem i_42_150 : iRow 42 150 = some (.lor, 0, 0, 0, (some (Jvm.ClassFile.FieldType.long))) := rfl
theorem i_42_151 : iRow 42 151 = some (.iload 8, 0, 0, 0, (some (Jvm.ClassFile.FieldType.long))) := rfl
theorem i_42_153 : iRow 42 153 = some (.iload 9, 0, 0, 0, (some (Jvm.ClassFile.FieldType.long))) := rfl
theorem i_42_155 : iRow 42 155 = some (.iconst 1, 0, 0, 0, (some (Jvm.ClassFile.FieldType.long))) := rfl
theorem i_42_156 : iRow 42 156 = some (.iadd, 0, 0, 0, (some (Jvm.ClassFile.FieldType.long))) := rfl
theorem i_42_157 : iRow 42 157 = some (.invokestatic 87, 51, 45, 0, (some (Jvm.ClassFile.FieldType.long))) := rfl
theorem i_42_160 : iRow 42 160 = some (.lor, 0, 0, 0, (some (Jvm.ClassFile.FieldType.long))) := rfl
theorem i_42_161 : iRow 42 161 = some (.iload 8, 0, 0, 0, (some (Jvm.ClassFile.FieldType.long))) := rfl
theorem i_42_163 : iRow 42 163 = some (.iconst 5, 0, 0, 0, (some (Jvm.ClassFile.FieldType.long))) := rfl
theorem i_42_164 : iRow 42 164 = some (.iload 9, 0, 0, 0, (some (Jvm.ClassFile.FieldType.long))) := rfl
theorem i_42_166 : iRow 42 166 = some (.isub, 0, 0, 0, (some (Jvm.ClassFile.FieldType.long))) := rfl
theorem i_42_167 : iRow 42 167 = some (.invokestatic 87, 51, 45, 0, (some (Jvm.ClassFile.FieldType.long))) := rfl
theorem i_42_170 : iRow 42 170 = some (.lor, 0, 0, 0, (some (Jvm.ClassFile.FieldType.long))) := rfl
theorem i_42_171 : iRow 42 171 = some (.lor, 0, 0, 0, (some (Jvm.ClassFile.FieldType.long))) := rfl
theorem i_42_172 : iRow 42 172 = some (.lstore 5, 0, 0, 0, (some (Jvm.ClassFile.FieldType.long))) := rfl
theorem i_42_174 : iRow 42 174 = some (.iinc 7 1, 0, 0, 0, (some (Jvm.ClassFile.FieldType.long))) := rfl
theorem i_42_177 : iRow 42 177 = some (.goto (-145), 0, 0, 0, (some (Jvm.ClassFile.FieldType.long))) := rfl
theorem i_42_180 : iRow 42 180 = some (.lload 5, 0, 0, 0, (some (Jvm.ClassFile.FieldType.long))) := rfl
theorem i_42_182 : iRow 42 182 = some (.lreturn, 0, 0, 0, (some (Jvm.ClassFile.FieldType.long))) := rfl
theorem i_45_0 : iRow 45 0 = some (.iload_n 0, 0, 0, 0, (some (Jvm.ClassFile.FieldType.long))) := rfl
theorem i_45_1 : iRow 45 1 = some (.ifCond .lt 19, 0, 0, 0, (some (Jvm.ClassFile.FieldType.long))) := rfl
theorem i_45_4 : iRow 45 4 = some (.iload_n 0, 0, 0, 0, (some (Jvm.ClassFile.FieldType.long))) := rfl
theorem i_45_5 : iRow 45 5 = some (.bipush 6, 0, 0, 0, (some (Jvm.ClassFile.FieldType.long))) := rfl
theorem i_45_7 : iRow 45 7 = some (.if_icmp .ge 13, 0, 0, 0, (some (Jvm.ClassFile.FieldType.long))) := rfl
theorem i_45_10 : iRow 45 10 = some (.iload_n 1, 0, 0, 0, (some (Jvm.ClassFile.FieldType.long))) := rfl
theorem i_45_11 : iRow 45 11 = some (.ifCond .lt 9, 0, 0, 0, (some (Jvm.ClassFile.FieldType.long))) := rfl
theorem i_45_14 : iRow 45 14 = some (.iload_n 1, 0, 0, 0, (some (Jvm.ClassFile.FieldType.long))) := rfl
theorem i_45_15 : iRow 45 15 = some (.bipush 6, 0, 0, 0, (some (Jvm.ClassFile.FieldType.long))) := rfl
theorem i_45_17 : iRow 45 17 = some (.if_icmp .lt 7, 0, 0, 0, (some (Jvm.ClassFile.FieldType.long))) := rfl
theorem i_45_20 : iRow 45 20 = some (.lconst 0, 0, 0, 0, (some (Jvm.ClassFile.FieldType.long))) := rfl
theorem i_45_21 : iRow 45 21 = some (.goto 11, 0, 0, 0, (some (Jvm.ClassFile.FieldType.long))) := rfl
theorem i_45_24 : iRow 45 24 = some (.lconst 1, 0, 0, 0, (some (Jvm.ClassFile.FieldType.long))) := rfl
theorem i_45_25 : iRow 45 25 = some (.bipush 6, 0, 0, 0, (some (Jvm.ClassFile.FieldType.long))) := rfl
theorem i_45_27 : iRow 45 27 = some (.iload_n 1, 0, 0, 0, (some (Jvm.ClassFile.FieldType.long))) := rfl
theorem i_45_28 : iRow 45 28 = some (.imul, 0, 0, 0, (some (Jvm.ClassFile.FieldType.long))) := rfl
theorem i_45_29 : iRow 45 29 = some (.iload_n 0, 0, 0, 0, (some (Jvm.ClassFile.FieldType.long))) := rfl
theorem i_45_30 : iRow 45 30 = some (.iadd, 0, 0, 0, (some (Jvm.ClassFile.FieldType.long))) := rfl
theorem i_45_31 : iRow 45 31 = some (.lshl, 0, 0, 0, (some (Jvm.ClassFile.FieldType.long))) := rfl
theorem i_45_32 : iRow 45 32 = some (.lreturn, 0, 0, 0, (some (Jvm.ClassFile.FieldType.long))) := rfl
theorem i_46_0 : iRow 46 0 = some (.iconst 0, 0, 0, 0, (some (Jvm.ClassFile.FieldType.int))) := rfl
theorem i_46_1 : iRow 46 1 = some (.istore_n 2, 0, 0, 0, (some (Jvm.ClassFile.FieldType.int))) := rfl
theorem i_46_2 : iRow 46 2 = some (.aload_n 0, 0, 0, 0, (some (Jvm.ClassFile.FieldType.int))) := rfl
theorem i_46_3 : iRow 46 3 = some (.getfield 28, 89, 4, 1, (some (Jvm.ClassFile.FieldType.int))) := rfl
theorem i_46_6 : iRow 46 6 = some (.getfield 48, 61, 5, 0, (some (Jvm.ClassFile.FieldType.int))) := rfl
theorem i_46_9 : iRow 46 9 = some (.istore_n 3, 0, 0, 0, (some (Jvm.ClassFile.FieldType.int))) := rfl
theorem i_46_10 : iRow 46 10 = some (.iload_n 3, 0, 0, 0, (some (Jvm.ClassFile.FieldType.int))) := rfl
theorem i_46_11 : iRow 46 11 = some (.aload_n 0, 0, 0, 0, (some (Jvm.ClassFile.FieldType.int))) := rfl
theorem i_46_12 : iRow 46 12 = some (.getfield 28, 89, 4, 1, (some (Jvm.ClassFile.FieldType.int))) := rfl
theorem i_46_15 : iRow 46 15 = some (.getfield 53, 63, 5, 1, (some (Jvm.ClassFile.FieldType.int))) := rfl
theorem i_46_18 : iRow 46 18 = some (.if_icmp .ge 24, 0, 0, 0, (some (Jvm.ClassFile.FieldType.int))) := rfl
theorem i_46_21 : iRow 46 21 = some (.iload_n 2, 0, 0, 0, (some (Jvm.ClassFile.FieldType.int))) := rfl
theorem i_46_22 : iRow 46 22 = some (.aload_n 0, 0, 0, 0, (some (Jvm.ClassFile.FieldType.int))) := rfl
theorem i_46_23 : iRow 46 23 = some (.getfield 21, 96, 4, 6, (some (Jvm.ClassFile.FieldType.int))) := rfl
theorem i_46_26 : iRow 46 26 = some (.iload_n 1, 0, 0, 0, (some (Jvm.ClassFile.FieldType.int))) := rfl
theorem i_46_27 : iRow 46 27 = some (.iconst 3, 0, 0, 0, (some (Jvm.ClassFile.FieldType.int))) := rfl
theorem i_46_28 : iRow 46 28 = some (.imul, 0, 0, 0, (some (Jvm.ClassFile.FieldType.int))) := rfl
theorem i_46_29 : iRow 46 29 = some (.iload_n 3, 0, 0, 0, (some (Jvm.ClassFile.FieldType.int))) := rfl
theorem i_46_30 : iRow 46 30 = some (.iadd, 0, 0, 0, (some (Jvm.ClassFile.FieldType.int))) := rfl
theorem i_46_31 : iRow 46 31 = some (.invokestatic 44, 9, 28, 3, (some (Jvm.ClassFile.FieldType.int))) := rfl
theorem i_46_34 : iRow 46 34 = some (.iadd, 0, 0, 0, (some (Jvm.ClassFile.FieldType.int))) := rfl
theorem i_46_35 : iRow 46 35 = some (.istore_n 2, 0, 0, 0, (some (Jvm.ClassFile.FieldType.int))) := rfl
theorem i_46_36 : iRow 46 36 = some (.iinc 3 1, 0, 0, 0, (some (Jvm.ClassFile.FieldType.int))) := rfl
theorem i_46_39 : iRow 46 39 = some (.goto (-29), 0, 0, 0, (some (Jvm.ClassFile.FieldType.int))) := rfl
theorem i_46_42 : iRow 46 42 = some (.iload_n 2, 0, 0, 0, (some (Jvm.ClassFile.FieldType.int))) := rfl
theorem i_46_43 : iRow 46 43 = some (.ireturn, 0, 0, 0, (some (Jvm.ClassFile.FieldType.int))) := rfl
theorem i_53_0 : iRow 53 0 = some (.aload_n 0, 0, 0, 0, (some (Jvm.ClassFile.FieldType.int))) := rfl
theorem i_53_1 : iRow 53 1 = some (.getfield 28, 89, 4, 1, (some (Jvm.ClassFile.FieldType.int))) := rfl
theorem i_53_4 : iRow 53 4 = some (.getfield 70, 70, 5, 4, (some (Jvm.ClassFile.FieldType.int))) := rfl
theorem i_53_7 : iRow 53 7 = some (.bipush 6, 0, 0, 0, (some (Jvm.ClassFile.FieldType.int))) := rfl
theorem i_53_9 : iRow 53 9 = some (.invokestatic 44, 9, 28, 3, (some (Jvm.ClassFile.FieldType.int))) := rfl
theorem i_53_12 : iRow 53 12 = some (.istore 4, 0, 0, 0, (some (Jvm.ClassFile.FieldType.int))) := rfl
theorem i_53_14 : iRow 53 14 = some (.aload_n 0, 0, 0, 0, (some (Jvm.ClassFile.FieldType.int))) := rfl
theorem i_53_15 : iRow 53 15 = some (.getfield 28, 89, 4, 1, (some (Jvm.ClassFile.FieldType.int))) := rfl
theorem i_53_18 : iRow 53 18 = some (.getfield 70, 70, 5, 4, (some (Jvm.ClassFile.FieldType.int))) := rfl
theorem i_53_21 : iRow 53 21 = some (.bipush 7, 0, 0, 0, (some (Jvm.ClassFile.FieldType.int))) := rfl
theorem i_53_23 : iRow 53 23 = some (.invokestatic 44, 9, 28, 3, (some (Jvm.ClassFile.FieldType.int))) := rfl
theorem i_53_26 : iRow 53 26 = some (.istore 5, 0, 0, 0, (some (Jvm.ClassFile.FieldType.int))) := rfl
theorem i_53_28 : iRow 53 28 = some (.iconst 0, 0, 0, 0, (some (Jvm.ClassFile.FieldType.int))) := rfl
theorem i_53_29 : iRow 53 29 = some (.istore 6, 0, 0, 0, (some (Jvm.ClassFile.FieldType.int))) := rfl
theorem i_53_31 : iRow 53 31 = some (.aload_n 0, 0, 0, 0, (some (Jvm.ClassFile.FieldType.int))) := rfl
theorem i_53_32 : iRow 53 32 = some (.iload_n 1, 0, 0, 0, (some (Jvm.ClassFile.FieldType.int))) := rfl
theorem i_53_33 : iRow 53 33 = some (.invokevirtual 73, 52, 46, 1, (some (Jvm.ClassFile.FieldType.int))) := rfl
theorem i_53_36 : iRow 53 36 = some (.istore 7, 0, 0, 0, (some (Jvm.ClassFile.FieldType.int))) := rfl
theorem i_53_38 : iRow 53 38 = some (.aload_n 0, 0, 0, 0, (some (Jvm.ClassFile.FieldType.int))) := rfl
theorem i_53_39 : iRow 53 39 = some (.getfield 28, 89, 4, 1, (some (Jvm.ClassFile.FieldType.int))) := rfl
theorem i_53_42 : iRow 53 42 = some (.getfield 48, 61, 5, 0, (some (Jvm.ClassFile.FieldType.int))) := rfl
theorem i_53_45 : iRow 53 45 = some (.istore 8, 0, 0, 0, (some (Jvm.ClassFile.FieldType.int))) := rfl
theorem i_53_47 : iRow 53 47 = some (.iload 8, 0, 0, 0, (some (Jvm.ClassFile.FieldType.int))) := rfl
theorem i_53_49 : iRow 53 49 = some (.aload_n 0, 0, 0, 0, (some (Jvm.ClassFile.FieldType.int))) := rfl
theorem i_53_50 : iRow 53 50 = some (.getfield 28, 89, 4, 1, (some (Jvm.ClassFile.FieldType.int))) := rfl
theorem i_53_53 : iRow 53 53 = some (.getfield 53, 63, 5, 1, (some (Jvm.ClassFile.FieldType.int))) := rfl
theorem i_53_56 : iRow 53 56 = some (.if_icmp .ge 336, 0, 0, 0, (some (Jvm.ClassFile.FieldType.int))) := rfl
theorem i_53_59 : iRow 53 59 = some (.iload 6, 0, 0, 0, (some (Jvm.ClassFile.FieldType.int))) := rfl
theorem i_53_61 : iRow 53 61 = some (.aload_n 0, 0, 0, 0, (some (Jvm.ClassFile.FieldType.int))) := rfl
theorem i_53_62 : iRow 53 62 = some (.getfield 32, 91, 4, 2, (some (Jvm.ClassFile.FieldType.int))) := rfl
theorem i_53_65 : iRow 53 65 = some (.if_icmp .gt 327, 0, 0, 0, (some (Jvm.ClassFile.FieldType.int))) := rfl
theorem i_53_68 : iRow 53 68 = some (.iload_n 1, 0, 0, 0, (some (Jvm.ClassFile.FieldType.int))) := rfl
theorem i_53_69 : iRow 53 69 = some (.iconst 3, 0, 0, 0, (some (Jvm.ClassFile.FieldType.int))) := rfl
theorem i_53_70 : iRow 53 70 = some (.imul, 0, 0, 0, (some (Jvm.ClassFile.FieldType.int))) := rfl
theorem i_53_71 : iRow 53 71 = some (.iload 8, 0, 0, 0, (some (Jvm.ClassFile.FieldType.int))) := rfl
theorem i_53_73 : iRow 53 73 = some (.iadd, 0, 0, 0, (some (Jvm.ClassFile.FieldType.int))) := rfl
theorem i_53_74 : iRow 53 74 = some (.istore 9, 0, 0, 0, (some (Jvm.ClassFile.FieldType.int))) := rfl
theorem i_53_76 : iRow 53 76 = some (.iload 9, 0, 0, 0, (some (Jvm.ClassFile.FieldType.int))) := rfl
theorem i_53_78 : iRow 53 78 = some (.iconst 3, 0, 0, 0, (some (Jvm.ClassFile.FieldType.int))) := rfl
theorem i_53_79 : iRow 53 79 = some (.iadd, 0, 0, 0, (some (Jvm.ClassFile.FieldType.int))) := rfl
theorem i_53_80 : iRow 53 80 = some (.istore 10, 0, 0, 0, (some (Jvm.ClassFile.FieldType.int))) := rfl
theorem i_53_82 : iRow 53 82 = some (.aload_n 0, 0, 0, 0, (some (Jvm.ClassFile.FieldType.int))) := rfl
theorem i_53_83 : iRow 53 83 = some (.getfield 18, 95, 4, 5, (some (Jvm.ClassFile.FieldType.int))) := rfl
theorem i_53_86 : iRow 53 86 = some (.iload 9, 0, 0, 0, (some (Jvm.ClassFile.FieldType.int))) := rfl
theorem i_53_88 : iRow 53 88 = some (.invokestatic 44, 9, 28, 3, (some (Jvm.ClassFile.FieldType.int))) := rfl
theorem i_53_91 : iRow 53 91 = some (.istore 11, 0, 0, 0, (some (Jvm.ClassFile.FieldType.int))) := rfl
theorem i_53_93 : iRow 53 93 = some (.iload 7, 0, 0, 0, (some (Jvm.ClassFile.FieldType.int))) := rfl
theorem i_53_95 : iRow 53 95 = some (.aload_n 0, 0, 0, 0, (some (Jvm.ClassFile.FieldType.int))) := rfl
theorem i_53_96 : iRow 53 96 = some (.getfield 21, 96, 4, 6, (some (Jvm.ClassFile.FieldType.int))) := rfl
theorem i_53_99 : iRow 53 99 = some (.iload 9, 0, 0, 0, (some (Jvm.ClassFile.FieldType.int))) := rfl
theorem i_53_101 : iRow 53 101 = some (.invokestatic 44, 9, 28, 3, (some (Jvm.ClassFile.FieldType.int))) := rfl
theorem i_53_104 : iRow 53 104 = some (.isub, 0, 0, 0, (some (Jvm.ClassFile.FieldType.int))) := rfl
theorem i_53_105 : iRow 53 105 = some (.istore 7, 0, 0, 0, (some (Jvm.ClassFile.FieldType.int))) := rfl
theorem i_53_107 : iRow 53 107 = some (.aload_n 0, 0, 0, 0, (some (Jvm.ClassFile.FieldType.int))) := rfl
theorem i_53_108 : iRow 53 108 = some (.getfield 32, 91, 4, 2, (some (Jvm.ClassFile.FieldType.int))) := rfl
theorem i_53_111 : iRow 53 111 = some (.iload 6, 0, 0, 0, (some (Jvm.ClassFile.FieldType.int))) := rfl
theorem i_53_113 : iRow 53 113 = some (.isub, 0, 0, 0, (some (Jvm.ClassFile.FieldType.int))) := rfl
theorem i_53_114 : iRow 53 114 = some (.iload 7, 0, 0, 0, (some (Jvm.ClassFile.FieldType.int))) := rfl
theorem i_53_116 : iRow 53 116 = some (.isub, 0, 0, 0, (some (Jvm.ClassFile.FieldType.int))) := rfl
theorem i_53_117 : iRow 53 117 = some (.istore 12, 0, 0, 0, (some (Jvm.ClassFile.FieldType.int))) := rfl
theorem i_53_119 : iRow 53 119 = some (.sipush 1000, 0, 0, 0, (some (Jvm.ClassFile.FieldType.int))) := rfl
theorem i_53_122 : iRow 53 122 = some (.istore 13, 0, 0, 0, (some (Jvm.ClassFile.FieldType.int))) := rfl
theorem i_53_124 : iRow 53 124 = some (.sipush 1000, 0, 0, 0, (some (Jvm.ClassFile.FieldType.int))) := rfl
theorem i_53_127 : iRow 53 127 = some (.istore 14, 0, 0, 0, (some (Jvm.ClassFile.FieldType.int))) := rfl
theorem i_53_129 : iRow 53 129 = some (.aload_n 0, 0, 0, 0, (some (Jvm.ClassFile.FieldType.int))) := rfl
theorem i_53_130 : iRow 53 130 = some (.iload 10, 0, 0, 0, (some (Jvm.ClassFile.FieldType.int))) := rfl
theorem i_53_132 : iRow 53 132 = some (.invokevirtual 36, 33, 26, 1, (some (Jvm.ClassFile.FieldType.int))) := rfl
theorem i_53_135 : iRow 53 135 = some (.aload_n 0, 0, 0, 0, (some (Jvm.ClassFile.FieldType.int))) := rfl
theorem i_53_136 : iRow 53 136 = some (.getfield 15, 94, 4, 4, (some (Jvm.ClassFile.FieldType.int))) := rfl
theorem i_53_139 : iRow 53 139 = some (.iload 9, 0, 0, 0, (some (Jvm.ClassFile.FieldType.int))) := rfl
theorem i_53_141 : iRow 53 141 = some (.invokestatic 44, 9, 28, 3, (some (Jvm.ClassFile.FieldType.int))) := rfl
theorem i_53_144 : iRow 53 144 = some (.istore 15, 0, 0, 0, (some (Jvm.ClassFile.FieldType.int))) := rfl
theorem i_53_146 : iRow 53 146 = some (.iload 15, 0, 0, 0, (some (Jvm.ClassFile.FieldType.int))) := rfl
theorem i_53_148 : iRow 53 148 = some (.aload_n 0, 0, 0, 0, (some (Jvm.ClassFile.FieldType.int))) := rfl
theorem i_53_149 : iRow 53 149 = some (.getfield 24, 88, 4, 0, (some (Jvm.ClassFile.FieldType.int))) := rfl
theorem i_53_152 : iRow 53 152 = some (.iload 8, 0, 0, 0, (some (Jvm.ClassFile.FieldType.int))) := rfl
theorem i_53_154 : iRow 53 154 = some (.invokevirtual 56, 42, 35, 1, (some (Jvm.ClassFile.FieldType.int))) := rfl
theorem i_53_157 : iRow 53 157 = some (.if_icmp .gt 215, 0, 0, 0, (some (Jvm.ClassFile.FieldType.int))) := rfl
theorem i_53_160 : iRow 53 160 = some (.iload 15, 0, 0, 0, (some (Jvm.ClassFile.FieldType.int))) := rfl
theorem i_53_162 : iRow 53 162 = some (.iload 11, 0, 0, 0, (some (Jvm.ClassFile.FieldType.int))) := rfl
theorem i_53_164 : iRow 53 164 = some (.iconst 1, 0, 0, 0, (some (Jvm.ClassFile.FieldType.int))) := rfl
theorem i_53_165 : iRow 53 165 = some (.iadd, 0, 0, 0, (some (Jvm.ClassFile.FieldType.int))) := rfl
theorem i_53_166 : iRow 53 166 = some (.if_icmp .le 11, 0, 0, 0, (some (Jvm.ClassFile.FieldType.int))) := rfl
theorem i_53_169 : iRow 53 169 = some (.iload 14, 0, 0, 0, (some (Jvm.ClassFile.FieldType.int))) := rfl
theorem i_53_171 : iRow 53 171 = some (.sipush 1000, 0, 0, 0, (some (Jvm.ClassFile.FieldType.int))) := rfl
theorem i_53_174 : iRow 53 174 = some (.if_icmp .ge 198, 0, 0, 0, (some (Jvm.ClassFile.FieldType.int))) := rfl
theorem i_53_177 : iRow 53 177 = some (.iload 15, 0, 0, 0, (some (Jvm.ClassFile.FieldType.int))) := rfl
theorem i_53_179 : iRow 53 179 = some (.iload 11, 0, 0, 0, (some (Jvm.ClassFile.FieldType.int))) := rfl
theorem i_53_181 : iRow 53 181 = some (.if_icmp .gt 21, 0, 0, 0, (some (Jvm.ClassFile.FieldType.int))) := rfl
theorem i_53_184 : iRow 53 184 = some (.aload_n 0, 0, 0, 0, (some (Jvm.ClassFile.FieldType.int))) := rfl
theorem i_53_185 : iRow 53 185 = some (.getfield 11, 93, 4, 3, (some (Jvm.ClassFile.FieldType.int))) := rfl
theorem i_53_188 : iRow 53 188 = some (.iload 9, 0, 0, 0, (some (Jvm.ClassFile.FieldType.int))) := rfl
theorem i_53_190 : iRow 53 190 = some (.bipush 25, 0, 0, 0, (some (Jvm.ClassFile.FieldType.int))) := rfl
theorem i_53_192 : iRow 53 192 = some (.imul, 0, 0, 0, (some (Jvm.ClassFile.FieldType.int))) := rfl
theorem i_53_193 : iRow 53 193 = some (.iload 15, 0, 0, 0, (some (Jvm.ClassFile.FieldType.int))) := rfl
theorem i_53_195 : iRow 53 195 = some (.iadd, 0, 0, 0, (some (Jvm.ClassFile.FieldType.int))) := rfl
theorem i_53_196 : iRow 53 196 = some (.invokestatic 44, 9, 28, 3, (some (Jvm.ClassFile.FieldType.int))) := rfl
theorem i_53_199 : iRow 53 199 = some (.goto 6, 0, 0, 0, (some (Jvm.ClassFile.FieldType.int))) := rfl
theorem i_53_202 : iRow 53 202 = some (.sipush 1000, 0, 0, 0, (some (Jvm.ClassFile.FieldType.int))) := rfl
theorem i_53_205 : iRow 53 205 = some (.istore 16, 0, 0, 0, (some (Jvm.ClassFile.FieldType.int))) := rfl
theorem i_53_207 : iRow 53 207 = some (.iload 4, 0, 0, 0, (some (Jvm.ClassFile.FieldType.int))) := rfl
theorem i_53_209 : iRow 53 209 = some (.ifCond .le 11, 0, 0, 0, (some (Jvm.ClassFile.FieldType.int))) := rfl
theorem i_53_220 : iRow 53 220 = some (.sipush 1000, 0, 0, 0, (some (Jvm.ClassFile.FieldType.int))) := rfl
theorem i_53_223 : iRow 53 223 = some (.istore 17, 0, 0, 0, (some (Jvm.ClassFile.FieldType.int))) := rfl
theorem i_53_225 : iRow 53 225 = some (.iload 13, 0, 0, 0, (some (Jvm.ClassFile.FieldType.int))) := rfl
theorem i_53_227 : iRow 53 227 = some (.sipush 1000, 0, 0, 0, (some (Jvm.ClassFile.FieldType.int))) := rfl
theorem i_53_230 : iRow 53 230 = some (.if_icmp .ge 21, 0, 0, 0, (some (Jvm.ClassFile.FieldType.int))) := rfl
theorem i_53_233 : iRow 53 233 = some (.aload_n 0, 0, 0, 0, (some (Jvm.ClassFile.FieldType.int))) := rfl
theorem i_53_234 : iRow 53 234 = some (.iload 8, 0, 0, 0, (some (Jvm.ClassFile.FieldType.int))) := rfl
theorem i_53_236 : iRow 53 236 = some (.iload 15, 0, 0, 0, (some (Jvm.ClassFile.FieldType.int))) := rfl
theorem i_53_238 : iRow 53 238 = some (.iconst 1, 0, 0, 0, (some (Jvm.ClassFile.FieldType.int))) := rfl
theorem i_53_239 : iRow 53 239 = some (.isub, 0, 0, 0, (some (Jvm.ClassFile.FieldType.int))) := rfl
theorem i_53_240 : iRow 53 240 = some (.iload_n 2, 0, 0, 0, (some (Jvm.ClassFile.FieldType.int))) := rfl
set_option maxRecDepth 20000 in
theorem i_53_241 : iRow 53 241 = some (.iload_n 3, 0, 0, 0, (some (Jvm.ClassFile.FieldType.int))) := rfl
set_option maxRecDepth 20000 in
theorem i_53_242 : iRow 53 242 = some (.iload_n 1, 0, 0, 0, (some (Jvm.ClassFile.FieldType.int))) := rfl
set_option maxRecDepth 20000 in
theorem i_53_243 : iRow 53 243 = some (.iconst 1, 0, 0, 0, (some (Jvm.ClassFile.FieldType.int))) := rfl
set_option maxRecDepth 20000 in
theorem i_53_244 : iRow 53 244 = some (.iand, 0, 0, 0, (some (Jvm.ClassFile.FieldType.int))) := rfl
set_option maxRecDepth 20000 in
theorem i_53_245 : iRow 53 245 = some (.invokevirtual 90, 58, 54, 1, (some (Jvm.ClassFile.FieldType.int))) := rfl
set_option maxRecDepth 20000 in
theorem i_53_248 : iRow 53 248 = some (.goto 4, 0, 0, 0, (some (Jvm.ClassFile.FieldType.int))) := rfl
set_option maxRecDepth 20000 in
theorem i_53_251 : iRow 53 251 = some (.iconst (-1), 0, 0, 0, (some (Jvm.ClassFile.FieldType.int))) := rfl
set_option maxRecDepth 20000 in
theorem i_53_252 : iRow 53 252 = some (.istore 18, 0, 0, 0, (some (Jvm.ClassFile.FieldType.int))) := rfl
set_option maxRecDepth 20000 in
theorem i_53_254 : iRow 53 254 = some (.iload 18, 0, 0, 0, (some (Jvm.ClassFile.FieldType.int))) := rfl
set_option maxRecDepth 20000 in
theorem i_53_256 : iRow 53 256 = some (.iconst (-1), 0, 0, 0, (some (Jvm.ClassFile.FieldType.int))) := rfl
set_option maxRecDepth 20000 in
theorem i_53_257 : iRow 53 257 = some (.if_icmp .eq 25, 0, 0, 0, (some (Jvm.ClassFile.FieldType.int))) := rfl
set_option maxRecDepth 20000 in
theorem i_53_260 : iRow 53 260 = some (.iload 17, 0, 0, 0, (some (Jvm.ClassFile.FieldType.int))) := rfl
set_option maxRecDepth 20000 in
theorem i_53_262 : iRow 53 262 = some (.iload 13, 0, 0, 0, (some (Jvm.ClassFile.FieldType.int))) := rfl
set_option maxRecDepth 20000 in
theorem i_53_264 : iRow 53 264 = some (.aload_n 0, 0, 0, 0, (some (Jvm.ClassFile.FieldType.int))) := rfl
set_option maxRecDepth 20000 in
theorem i_53_265 : iRow 53 265 = some (.getfield 28, 89, 4, 1, (some (Jvm.ClassFile.FieldType.int))) := rfl
set_option maxRecDepth 20000 in
theorem i_53_268 : iRow 53 268 = some (.getfield 70, 70, 5, 4, (some (Jvm.ClassFile.FieldType.int))) := rfl
set_option maxRecDepth 20000 in
theorem i_53_271 : iRow 53 271 = some (.iload 18, 0, 0, 0, (some (Jvm.ClassFile.FieldType.int))) := rfl
set_option maxRecDepth 20000 in
theorem i_53_273 : iRow 53 273 = some (.invokestatic 44, 9, 28, 3, (some (Jvm.ClassFile.FieldType.int))) := rfl
set_option maxRecDepth 20000 in
theorem i_53_276 : iRow 53 276 = some (.iadd, 0, 0, 0, (some (Jvm.ClassFile.FieldType.int))) := rfl
set_option maxRecDepth 20000 in
theorem i_53_277 : iRow 53 277 = some (.invokestatic 94, 35, 21, 0, (some (Jvm.ClassFile.FieldType.int))) := rfl
set_option maxRecDepth 20000 in
theorem i_53_280 : iRow 53 280 = some (.istore 17, 0, 0, 0, (some (Jvm.ClassFile.FieldType.int))) := rfl
set_option maxRecDepth 20000 in
theorem i_53_282 : iRow 53 282 = some (.iload 14, 0, 0, 0, (some (Jvm.ClassFile.FieldType.int))) := rfl
set_option maxRecDepth 20000 in
theorem i_53_284 : iRow 53 284 = some (.sipush 1000, 0, 0, 0, (some (Jvm.ClassFile.FieldType.int))) := rfl
set_option maxRecDepth 20000 in
theorem i_53_287 : iRow 53 287 = some (.if_icmp .ge 48, 0, 0, 0, (some (Jvm.ClassFile.FieldType.int))) := rfl
set_option maxRecDepth 20000 in
theorem i_53_290 : iRow 53 290 = some (.iload 5, 0, 0, 0, (some (Jvm.ClassFile.FieldType.int))) := rfl
set_option maxRecDepth 20000 in
theorem i_53_292 : iRow 53 292 = some (.ifCond .le 43, 0, 0, 0, (some (Jvm.ClassFile.FieldType.int))) := rfl
set_option maxRecDepth 20000 in
theorem i_53_335 : iRow 53 335 = some (.iload 16, 0, 0, 0, (some (Jvm.ClassFile.FieldType.int))) := rfl
set_option maxRecDepth 20000 in
theorem i_53_337 : iRow 53 337 = some (.istore 13, 0, 0, 0, (some (Jvm.ClassFile.FieldType.int))) := rfl
set_option maxRecDepth 20000 in
theorem i_53_339 : iRow 53 339 = some (.iload 17, 0, 0, 0, (some (Jvm.ClassFile.FieldType.int))) := rfl
set_option maxRecDepth 20000 in
theorem i_53_341 : iRow 53 341 = some (.iload 12, 0, 0, 0, (some (Jvm.ClassFile.FieldType.int))) := rfl
set_option maxRecDepth 20000 in
theorem i_53_343 : iRow 53 343 = some (.if_icmp .le 9, 0, 0, 0, (some (Jvm.ClassFile.FieldType.int))) := rfl
set_option maxRecDepth 20000 in
theorem i_53_346 : iRow 53 346 = some (.sipush 1000, 0, 0, 0, (some (Jvm.ClassFile.FieldType.int))) := rfl
set_option maxRecDepth 20000 in
theorem i_53_349 : iRow 53 349 = some (.goto 5, 0, 0, 0, (some (Jvm.ClassFile.FieldType.int))) := rfl
set_option maxRecDepth 20000 in
theorem i_53_352 : iRow 53 352 = some (.iload 17, 0, 0, 0, (some (Jvm.ClassFile.FieldType.int))) := rfl
set_option maxRecDepth 20000 in
theorem i_53_354 : iRow 53 354 = some (.istore 14, 0, 0, 0, (some (Jvm.ClassFile.FieldType.int))) := rfl
set_option maxRecDepth 20000 in
theorem i_53_356 : iRow 53 356 = some (.aload_n 0, 0, 0, 0, (some (Jvm.ClassFile.FieldType.int))) := rfl
set_option maxRecDepth 20000 in
theorem i_53_357 : iRow 53 357 = some (.iload 10, 0, 0, 0, (some (Jvm.ClassFile.FieldType.int))) := rfl
set_option maxRecDepth 20000 in
theorem i_53_359 : iRow 53 359 = some (.iload 15, 0, 0, 0, (some (Jvm.ClassFile.FieldType.int))) := rfl
set_option maxRecDepth 20000 in
theorem i_53_361 : iRow 53 361 = some (.iload 14, 0, 0, 0, (some (Jvm.ClassFile.FieldType.int))) := rfl
set_option maxRecDepth 20000 in
theorem i_53_363 : iRow 53 363 = some (.invokevirtual 40, 34, 27, 1, (some (Jvm.ClassFile.FieldType.int))) := rfl
set_option maxRecDepth 20000 in
theorem i_53_366 : iRow 53 366 = some (.iinc 15 1, 0, 0, 0, (some (Jvm.ClassFile.FieldType.int))) := rfl
set_option maxRecDepth 20000 in
theorem i_53_369 : iRow 53 369 = some (.goto (-223), 0, 0, 0, (some (Jvm.ClassFile.FieldType.int))) := rfl
set_option maxRecDepth 20000 in
theorem i_53_372 : iRow 53 372 = some (.iload 6, 0, 0, 0, (some (Jvm.ClassFile.FieldType.int))) := rfl
set_option maxRecDepth 20000 in
theorem i_53_374 : iRow 53 374 = some (.aload_n 0, 0, 0, 0, (some (Jvm.ClassFile.FieldType.int))) := rfl
set_option maxRecDepth 20000 in
theorem i_53_375 : iRow 53 375 = some (.getfield 21, 96, 4, 6, (some (Jvm.ClassFile.FieldType.int))) := rfl
set_option maxRecDepth 20000 in
theorem i_53_378 : iRow 53 378 = some (.iload 10, 0, 0, 0, (some (Jvm.ClassFile.FieldType.int))) := rfl
set_option maxRecDepth 20000 in
theorem i_53_380 : iRow 53 380 = some (.invokestatic 44, 9, 28, 3, (some (Jvm.ClassFile.FieldType.int))) := rfl
set_option maxRecDepth 20000 in
theorem i_53_383 : iRow 53 383 = some (.iadd, 0, 0, 0, (some (Jvm.ClassFile.FieldType.int))) := rfl
set_option maxRecDepth 20000 in
theorem i_53_384 : iRow 53 384 = some (.istore 6, 0, 0, 0, (some (Jvm.ClassFile.FieldType.int))) := rfl
set_option maxRecDepth 20000 in
theorem i_53_386 : iRow 53 386 = some (.iinc 8 1, 0, 0, 0, (some (Jvm.ClassFile.FieldType.int))) := rfl
set_option maxRecDepth 20000 in
theorem i_53_389 : iRow 53 389 = some (.goto (-342), 0, 0, 0, (some (Jvm.ClassFile.FieldType.int))) := rfl
set_option maxRecDepth 20000 in
theorem i_53_392 : iRow 53 392 = some (.iload 6, 0, 0, 0, (some (Jvm.ClassFile.FieldType.int))) := rfl
set_option maxRecDepth 20000 in
theorem i_53_394 : iRow 53 394 = some (.ireturn, 0, 0, 0, (some (Jvm.ClassFile.FieldType.int))) := rfl
theorem s_wm0 {O : pOut} {d kc ks : Nat} {Q : pRes → Prop} {es : PH} {m kd mo bk nb wy : Int} (hs_es : sh es) (hb : 0 ≤ bk ∧ bk ≤ 2) (hm : 0 ≤ m ∧ m ≤ 23) (hmn : m + 1 ≤ nb) (hn : nb ≤ 24) (hq0 : (gI es 53 0).toInt = bk) (hq1 : (gI es 53 1).toInt = (bk + 1)) (hq2 : (gI es 53 2).toInt = 0) (hpo : ∀ i, i < 8 → (gA es 55 i).toInt = 0) (hli : (gI es 68 2).toInt = 0) (hnb : (gA es 13 bk.toNat).toInt = nb) (hwy : (gA es 54 bk.toNat).toInt = wy) (hf : (gA es 70 ((m * 3) + bk).toNat).toInt = m) (hl : (gA es 71 ((m * 3) + bk).toNat).toInt = m) (hle : (gA es 72 ((m * 3) + bk).toNat).toInt = 0) (hce : (gA es 69 ((((m * 3) + bk) * 25) + m).toNat).toInt = 0) (hk : 0 ≤ kd ∧ kd ≤ 4) (hmo : 0 ≤ mo ∧ mo ≤ 1295) (hw2 : -40 ≤ (gA es 14 ((((bk * 24) + m) * 4) + 2).toNat).toInt ∧ (gA es 14 ((((bk * 24) + m) * 4) + 2).toNat).toInt ≤ 40) (hw3 : -40 ≤ (gA es 14 ((((bk * 24) + m) * 4) + 3).toNat).toInt ∧ (gA es 14 ((((bk * 24) + m) * 4) + 3).toNat).toInt ≤ 40)
    (K1 : ∀ es1 : PH, es1 = sA es 70 (((m * 3) + bk) + 3).toNat (zI 1000) → ∀ es2 : PH, es2 = sA es1 71 (((m * 3) + bk) + 3).toNat (zI (-1)) → ∀ es3 : PH, es3 = sA es2 72 (((m * 3) + bk) + 3).toNat (zI 1000) → ∀ es4 : PH, es4 = sA es3 69 (((((m * 3) + bk) + 3) * 25) + m).toNat (zI 1000) → ∀ v5 : Int, v5 = (zI m &&& zI 1).toInt → ∀ v6 : Int, slipP bk ((m + 1) - 1) kd mo v5 es4 v6 → v6 = (-1) → ∀ es8 : PH, es8 = sA es4 69 (((((m * 3) + bk) + 3) * 25) + (m + 1)).toNat (zI 1000) → nb < ((m + 1) + 1) → ∀ v10 : Int, v10 = (gA es8 72 (((m * 3) + bk) + 3).toNat).toInt → Q (.inl (some (.int (zI (0 + v10)))), es8, kc, ks))
    (K2 : ∀ es1 : PH, es1 = sA es 70 (((m * 3) + bk) + 3).toNat (zI 1000) → ∀ es2 : PH, es2 = sA es1 71 (((m * 3) + bk) + 3).toNat (zI (-1)) → ∀ es3 : PH, es3 = sA es2 72 (((m * 3) + bk) + 3).toNat (zI 1000) → ∀ es4 : PH, es4 = sA es3 69 (((((m * 3) + bk) + 3) * 25) + m).toNat (zI 1000) → ∀ v5 : Int, v5 = (zI m &&& zI 1).toInt → ∀ v6 : Int, slipP bk ((m + 1) - 1) kd mo v5 es4 v6 → v6 = (-1) → ∀ es8 : PH, es8 = sA es4 69 (((((m * 3) + bk) + 3) * 25) + (m + 1)).toNat (zI 1000) → ¬ (nb < ((m + 1) + 1)) → ∀ v11 : Int, v11 = (gA es8 72 (((m * 3) + bk) + 3).toNat).toInt → Q (.inl (some (.int (zI (0 + v11)))), es8, kc, ks))
    (K3 : ∀ es1 : PH, es1 = sA es 70 (((m * 3) + bk) + 3).toNat (zI 1000) → ∀ es2 : PH, es2 = sA es1 71 (((m * 3) + bk) + 3).toNat (zI (-1)) → ∀ es3 : PH, es3 = sA es2 72 (((m * 3) + bk) + 3).toNat (zI 1000) → ∀ es4 : PH, es4 = sA es3 69 (((((m * 3) + bk) + 3) * 25) + m).toNat (zI 1000) → ∀ v5 : Int, v5 = (zI m &&& zI 1).toInt → ∀ v6 : Int, slipP bk ((m + 1) - 1) kd mo v5 es4 v6 → ¬ (v6 = (-1)) → ∀ es12 : PH, es12 = sA es4 69 (((((m * 3) + bk) + 3) * 25) + (m + 1)).toNat (zI 0) → ∀ v13 : Int, v13 = (gA es12 70 (((m * 3) + bk) + 3).toNat).toInt → ∀ v14 : Int, v14 = min v13 (m + 1) → ∀ es15 : PH, es15 = sA es12 70 (((m * 3) + bk) + 3).toNat (zI v14) → ∀ es16 : PH, es16 = sA es15 71 (((m * 3) + bk) + 3).toNat (zI (m + 1)) → ∀ v17 : Int, v17 = (gA es16 72 (((m * 3) + bk) + 3).toNat).toInt → ∀ v18 : Int, v18 = min v17 0 → ∀ es19 : PH, es19 = sA es16 72 (((m * 3) + bk) + 3).toNat (zI v18) → nb < ((m + 1) + 1) → ∀ v21 : Int, v21 = (gA es19 72 (((m * 3) + bk) + 3).toNat).toInt → Q (.inl (some (.int (zI (0 + v21)))), es19, kc, ks))
    (K4 : ∀ es1 : PH, es1 = sA es 70 (((m * 3) + bk) + 3).toNat (zI 1000) → ∀ es2 : PH, es2 = sA es1 71 (((m * 3) + bk) + 3).toNat (zI (-1)) → ∀ es3 : PH, es3 = sA es2 72 (((m * 3) + bk) + 3).toNat (zI 1000) → ∀ es4 : PH, es4 = sA es3 69 (((((m * 3) + bk) + 3) * 25) + m).toNat (zI 1000) → ∀ v5 : Int, v5 = (zI m &&& zI 1).toInt → ∀ v6 : Int, slipP bk ((m + 1) - 1) kd mo v5 es4 v6 → ¬ (v6 = (-1)) → ∀ es12 : PH, es12 = sA es4 69 (((((m * 3) + bk) + 3) * 25) + (m + 1)).toNat (zI 0) → ∀ v13 : Int, v13 = (gA es12 70 (((m * 3) + bk) + 3).toNat).toInt → ∀ v14 : Int, v14 = min v13 (m + 1) → ∀ es15 : PH, es15 = sA es12 70 (((m * 3) + bk) + 3).toNat (zI v14) → ∀ es16 : PH, es16 = sA es15 71 (((m * 3) + bk) + 3).toNat (zI (m + 1)) → ∀ v17 : Int, v17 = (gA es16 72 (((m * 3) + bk) + 3).toNat).toInt → ∀ v18 : Int, v18 = min v17 0 → ∀ es19 : PH, es19 = sA es16 72 (((m * 3) + bk) + 3).toNat (zI v18) → ¬ (nb < ((m + 1) + 1)) → ∀ es22 : PH, es22 = sA es19 69 (((((m * 3) + bk) + 3) * 25) + ((m + 1) + 1)).toNat (zI 1000) → nb < (((m + 1) + 1) + 1) → ∀ v24 : Int, v24 = (gA es22 72 (((m * 3) + bk) + 3).toNat).toInt → Q (.inl (some (.int (zI (0 + v24)))), es22, kc, ks))
    (K5 : ∀ es1 : PH, es1 = sA es 70 (((m * 3) + bk) + 3).toNat (zI 1000) → ∀ es2 : PH, es2 = sA es1 71 (((m * 3) + bk) + 3).toNat (zI (-1)) → ∀ es3 : PH, es3 = sA es2 72 (((m * 3) + bk) + 3).toNat (zI 1000) → ∀ es4 : PH, es4 = sA es3 69 (((((m * 3) + bk) + 3) * 25) + m).toNat (zI 1000) → ∀ v5 : Int, v5 = (zI m &&& zI 1).toInt → ∀ v6 : Int, slipP bk ((m + 1) - 1) kd mo v5 es4 v6 → ¬ (v6 = (-1)) → ∀ es12 : PH, es12 = sA es4 69 (((((m * 3) + bk) + 3) * 25) + (m + 1)).toNat (zI 0) → ∀ v13 : Int, v13 = (gA es12 70 (((m * 3) + bk) + 3).toNat).toInt → ∀ v14 : Int, v14 = min v13 (m + 1) → ∀ es15 : PH, es15 = sA es12 70 (((m * 3) + bk) + 3).toNat (zI v14) → ∀ es16 : PH, es16 = sA es15 71 (((m * 3) + bk) + 3).toNat (zI (m + 1)) → ∀ v17 : Int, v17 = (gA es16 72 (((m * 3) + bk) + 3).toNat).toInt → ∀ v18 : Int, v18 = min v17 0 → ∀ es19 : PH, es19 = sA es16 72 (((m * 3) + bk) + 3).toNat (zI v18) → ¬ (nb < ((m + 1) + 1)) → ∀ es22 : PH, es22 = sA es19 69 (((((m * 3) + bk) + 3) * 25) + ((m + 1) + 1)).toNat (zI 1000) → ¬ (nb < (((m + 1) + 1) + 1)) → ∀ v25 : Int, v25 = (gA es22 72 (((m * 3) + bk) + 3).toNat).toInt → Q (.inl (some (.int (zI (0 + v25)))), es22, kc, ks)) :
    aW O (d + 3) 53 kc ks Q (0, [some (.ref 132), some (.int (zI m)), some (.int (zI kd)), some (.int (zI mo)), none, none, none, none, none, none, none, none, none, none, none, none, none, none, none], [], es) := by
  refine x0 (r := (1, [some (.ref 132), some (.int (zI m)), some (.int (zI kd)), some (.int (zI mo)), none, none, none, none, none, none, none, none, none, none, none, none, none, none, none], [.ref 132], es)) i_53_0 rfl ?_
  refine x_getr (p := 68) (k := 117) i_53_1 hs_es rfl rfl ?_
  show aW _ _ _ _ _ _ (4, [some (.ref 132), some (.int (zI m)), some (.int (zI kd)), some (.int (zI mo)), none, none, none, none, none, none, none, none, none, none, none, none, none, none, none], [.ref 117], es)
  refine x_getr (p := 53) (k := 119) i_53_4 hs_es rfl rfl ?_
  show aW _ _ _ _ _ _ (7, [some (.ref 132), some (.int (zI m)), some (.int (zI kd)), some (.int (zI mo)), none, none, none, none, none, none, none, none, none, none, none, none, none, none, none], [.ref 119], es)
  refine x0 (r := (9, [some (.ref 132), some (.int (zI m)), some (.int (zI kd)), some (.int (zI mo)), none, none, none, none, none, none, none, none, none, none, none, none, none, none, none], [.int (zI 6), .ref 119], es)) i_53_7 (by rfl) ?_
  refine x_call (vs := [.ref 119, .int (zI 6)]) (rs := []) i_53_9 rfl (fun _ => rfl) rfl rfl rfl rfl rfl rfl ?_
  show aW _ _ _ _ _ _ (0, [some (.ref 119), some (.int (zI 6))], [], es)
  refine x0 (r := (1, [some (.ref 119), some (.int (zI 6))], [.int (zI 6)], es)) i_28_0 rfl ?_
  refine x_ifF i_28_1 (by unfold i32 iLO iHI; omega) rfl (by simp only [zC, cR]; omega) ?_
  refine x0 (r := (5, [some (.ref 119), some (.int (zI 6))], [.int (zI 6)], es)) i_28_4 rfl ?_
  refine x0 (r := (6, [some (.ref 119), some (.int (zI 6))], [.ref 119, .int (zI 6)], es)) i_28_5 rfl ?_
  refine x_alen (p := 55) (n := 8) i_28_6 hs_es rfl ?_
  refine x_cmpF i_28_7 (by unfold i32 iLO iHI; omega) (by unfold i32 iLO iHI; omega) rfl (by simp only [zC, cR]; omega) ?_
  refine x0 (r := (11, [some (.ref 119), some (.int (zI 6))], [.ref 119], es)) i_28_10 rfl ?_
  refine x0 (r := (12, [some (.ref 119), some (.int (zI 6))], [.int (zI 6), .ref 119], es)) i_28_11 rfl ?_
  refine x_iald (p := 55) i_28_12 hs_es rfl (by unfold i32 iLO iHI; omega) (by omega) (by omega) ?_
  rw [show (gA es 55 (Int.toNat 6)).toInt = 0 from by exact (hpo _ (by omega))]
  refine x0 (r := (17, [some (.ref 119), some (.int (zI 6))], [.int (zI 0)], es)) i_28_13 rfl ?_
  refine x_ret (v := some (.int (zI 0))) i_28_17 rfl (fun _ => rfl) rfl rfl rfl ?_
  show aW _ _ _ _ _ _ (12, [some (.ref 132), some (.int (zI m)), some (.int (zI kd)), some (.int (zI mo)), none, none, none, none, none, none, none, none, none, none, none, none, none, none, none], [.int (zI 0)], es)
  refine x0 (r := (14, [some (.ref 132), some (.int (zI m)), some (.int (zI kd)), some (.int (zI mo)), some (.int (zI 0)), none, none, none, none, none, none, none, none, none, none, none, none, none, none], [], es)) i_53_12 rfl ?_
  refine x0 (r := (15, [some (.ref 132), some (.int (zI m)), some (.int (zI kd)), some (.int (zI mo)), some (.int (zI 0)), none, none, none, none, none, none, none, none, none, none, none, none, none, none], [.ref 132], es)) i_53_14 rfl ?_
  refine x_getr (p := 68) (k := 117) i_53_15 hs_es rfl rfl ?_
  show aW _ _ _ _ _ _ (18, [some (.ref 132), some (.int (zI m)), some (.int (zI kd)), some (.int (zI mo)), some (.int (zI 0)), none, none, none, none, none, none, none, none, none, none, none, none, none, none], [.ref 117], es)
  refine x_getr (p := 53) (k := 119) i_53_18 hs_es rfl rfl ?_
  show aW _ _ _ _ _ _ (21, [some (.ref 132), some (.int (zI m)), some (.int (zI kd)), some (.int (zI mo)), some (.int (zI 0)), none, none, none, none, none, none, none, none, none, none, none, none, none, none], [.ref 119], es)
  refine x0 (r := (23, [some (.ref 132), some (.int (zI m)), some (.int (zI kd)), some (.int (zI mo)), some (.int (zI 0)), none, none, none, none, none, none, none, none, none, none, none, none, none, none], [.int (zI 7), .ref 119], es)) i_53_21 (by rfl) ?_
  refine x_call (vs := [.ref 119, .int (zI 7)]) (rs := []) i_53_23 rfl (fun _ => rfl) rfl rfl rfl rfl rfl rfl ?_
  show aW _ _ _ _ _ _ (0, [some (.ref 119), some (.int (zI 7))], [], es)
  refine x0 (r := (1, [some (.ref 119), some (.int (zI 7))], [.int (zI 7)], es)) i_28_0 rfl ?_
  refine x_ifF i_28_1 (by unfold i32 iLO iHI; omega) rfl (by simp only [zC, cR]; omega) ?_
  refine x0 (r := (5, [some (.ref 119), some (.int (zI 7))], [.int (zI 7)], es)) i_28_4 rfl ?_
  refine x0 (r := (6, [some (.ref 119), some (.int (zI 7))], [.ref 119, .int (zI 7)], es)) i_28_5 rfl ?_
  refine x_alen (p := 55) (n := 8) i_28_6 hs_es rfl ?_
  refine x_cmpF i_28_7 (by unfold i32 iLO iHI; omega) (by unfold i32 iLO iHI; omega) rfl (by simp only [zC, cR]; omega) ?_
  refine x0 (r := (11, [some (.ref 119), some (.int (zI 7))], [.ref 119], es)) i_28_10 rfl ?_
  refine x0 (r := (12, [some (.ref 119), some (.int (zI 7))], [.int (zI 7), .ref 119], es)) i_28_11 rfl ?_
  refine x_iald (p := 55) i_28_12 hs_es rfl (by unfold i32 iLO iHI; omega) (by omega) (by omega) ?_
  rw [show (gA es 55 (Int.toNat 7)).toInt = 0 from by exact (hpo _ (by omega))]
  refine x0 (r := (17, [some (.ref 119), some (.int (zI 7))], [.int (zI 0)], es)) i_28_13 rfl ?_
  refine x_ret (v := some (.int (zI 0))) i_28_17 rfl (fun _ => rfl) rfl rfl rfl ?_
  show aW _ _ _ _ _ _ (26, [some (.ref 132), some (.int (zI m)), some (.int (zI kd)), some (.int (zI mo)), some (.int (zI 0)), none, none, none, none, none, none, none, none, none, none, none, none, none, none], [.int (zI 0)], es)
  refine x0 (r := (28, [some (.ref 132), some (.int (zI m)), some (.int (zI kd)), some (.int (zI mo)), some (.int (zI 0)), some (.int (zI 0)), none, none, none, none, none, none, none, none, none, none, none, none, none], [], es)) i_53_26 rfl ?_
  refine x0 (r := (29, [some (.ref 132), some (.int (zI m)), some (.int (zI kd)), some (.int (zI mo)), some (.int (zI 0)), some (.int (zI 0)), none, none, none, none, none, none, none, none, none, none, none, none, none], [.int (zI 0)], es)) i_53_28 (by rfl) ?_
  refine x0 (r := (31, [some (.ref 132), some (.int (zI m)), some (.int (zI kd)), some (.int (zI mo)), some (.int (zI 0)), some (.int (zI 0)), some (.int (zI 0)), none, none, none, none, none, none, none, none, none, none, none, none], [], es)) i_53_29 rfl ?_
  refine x0 (r := (32, [some (.ref 132), some (.int (zI m)), some (.int (zI kd)), some (.int (zI mo)), some (.int (zI 0)), some (.int (zI 0)), some (.int (zI 0)), none, none, none, none, none, none, none, none, none, none, none, none], [.ref 132], es)) i_53_31 rfl ?_
  refine x0 (r := (33, [some (.ref 132), some (.int (zI m)), some (.int (zI kd)), some (.int (zI mo)), some (.int (zI 0)), some (.int (zI 0)), some (.int (zI 0)), none, none, none, none, none, none, none, none, none, none, none, none], [.int (zI m), .ref 132], es)) i_53_32 rfl ?_
  refine x_call (vs := [.ref 132, .int (zI m)]) (rs := []) i_53_33 rfl (fun _ => rfl) rfl rfl rfl rfl rfl (pCall_v (p := 68) hs_es rfl rfl rfl rfl rfl (by decide) rfl rfl rfl rfl rfl) ?_
  show aW _ _ _ _ _ _ (0, [some (.ref 132), some (.int (zI m)), none, none], [], es)
  refine x0 (r := (1, [some (.ref 132), some (.int (zI m)), none, none], [.int (zI 0)], es)) i_46_0 (by rfl) ?_
  refine x0 (r := (2, [some (.ref 132), some (.int (zI m)), some (.int (zI 0)), none], [], es)) i_46_1 rfl ?_
  refine x0 (r := (3, [some (.ref 132), some (.int (zI m)), some (.int (zI 0)), none], [.ref 132], es)) i_46_2 rfl ?_
  refine x_getr (p := 68) (k := 117) i_46_3 hs_es rfl rfl ?_
  show aW _ _ _ _ _ _ (6, [some (.ref 132), some (.int (zI m)), some (.int (zI 0)), none], [.ref 117], es)
  refine x_geti (p := 53) i_46_6 hs_es rfl rfl ?_
  rw [show (gI es 53 0).toInt = bk from by exact hq0]
  refine x0 (r := (10, [some (.ref 132), some (.int (zI m)), some (.int (zI 0)), some (.int (zI bk))], [], es)) i_46_9 rfl ?_
  refine x0 (r := (11, [some (.ref 132), some (.int (zI m)), some (.int (zI 0)), some (.int (zI bk))], [.int (zI bk)], es)) i_46_10 rfl ?_
  refine x0 (r := (12, [some (.ref 132), some (.int (zI m)), some (.int (zI 0)), some (.int (zI bk))], [.ref 132, .int (zI bk)], es)) i_46_11 rfl ?_
  refine x_getr (p := 68) (k := 117) i_46_12 hs_es rfl rfl ?_
  show aW _ _ _ _ _ _ (15, [some (.ref 132), some (.int (zI m)), some (.int (zI 0)), some (.int (zI bk))], [.ref 117, .int (zI bk)], es)
  refine x_geti (p := 53) i_46_15 hs_es rfl rfl ?_
  rw [show (gI es 53 1).toInt = (bk + 1) from by exact hq1]
  refine x_cmpF i_46_18 (by unfold i32 iLO iHI; omega) (by unfold i32 iLO iHI; omega) rfl (by simp only [zC, cR]; omega) ?_
  refine x0 (r := (22, [some (.ref 132), some (.int (zI m)), some (.int (zI 0)), some (.int (zI bk))], [.int (zI 0)], es)) i_46_21 rfl ?_
  refine x0 (r := (23, [some (.ref 132), some (.int (zI m)), some (.int (zI 0)), some (.int (zI bk))], [.ref 132, .int (zI 0)], es)) i_46_22 rfl ?_
  refine x_getr (p := 68) (k := 136) i_46_23 hs_es rfl rfl ?_
  show aW _ _ _ _ _ _ (26, [some (.ref 132), some (.int (zI m)), some (.int (zI 0)), some (.int (zI bk))], [.ref 136, .int (zI 0)], es)
  refine x0 (r := (27, [some (.ref 132), some (.int (zI m)), some (.int (zI 0)), some (.int (zI bk))], [.int (zI m), .ref 136, .int (zI 0)], es)) i_46_26 rfl ?_
  refine x0 (r := (28, [some (.ref 132), some (.int (zI m)), some (.int (zI 0)), some (.int (zI bk))], [.int (zI 3), .int (zI m), .ref 136, .int (zI 0)], es)) i_46_27 (by rfl) ?_
  refine x_imul i_46_28 ?_
  refine x0 (r := (30, [some (.ref 132), some (.int (zI m)), some (.int (zI 0)), some (.int (zI bk))], [.int (zI bk), .int (zI (m * 3)), .ref 136, .int (zI 0)], es)) i_46_29 rfl ?_
  refine x_iadd i_46_30 ?_
  refine x_call (vs := [.ref 136, .int (zI ((m * 3) + bk))]) (rs := [.int (zI 0)]) i_46_31 rfl (fun _ => rfl) rfl rfl rfl rfl rfl rfl ?_
  show aW _ _ _ _ _ _ (0, [some (.ref 136), some (.int (zI ((m * 3) + bk)))], [], es)
  refine x0 (r := (1, [some (.ref 136), some (.int (zI ((m * 3) + bk)))], [.int (zI ((m * 3) + bk))], es)) i_28_0 rfl ?_
  refine x_ifF i_28_1 (by unfold i32 iLO iHI; omega) rfl (by simp only [zC, cR]; omega) ?_
  refine x0 (r := (5, [some (.ref 136), some (.int (zI ((m * 3) + bk)))], [.int (zI ((m * 3) + bk))], es)) i_28_4 rfl ?_
  refine x0 (r := (6, [some (.ref 136), some (.int (zI ((m * 3) + bk)))], [.ref 136, .int (zI ((m * 3) + bk))], es)) i_28_5 rfl ?_
  refine x_alen (p := 72) (n := 93) i_28_6 hs_es rfl ?_
  refine x_cmpF i_28_7 (by unfold i32 iLO iHI; omega) (by unfold i32 iLO iHI; omega) rfl (by simp only [zC, cR]; omega) ?_
  refine x0 (r := (11, [some (.ref 136), some (.int (zI ((m * 3) + bk)))], [.ref 136], es)) i_28_10 rfl ?_
  refine x0 (r := (12, [some (.ref 136), some (.int (zI ((m * 3) + bk)))], [.int (zI ((m * 3) + bk)), .ref 136], es)) i_28_11 rfl ?_
  refine x_iald (p := 72) i_28_12 hs_es rfl (by unfold i32 iLO iHI; omega) (by omega) (by omega) ?_
  rw [show (gA es 72 ((m * 3) + bk).toNat).toInt = 0 from by exact hle]
  refine x0 (r := (17, [some (.ref 136), some (.int (zI ((m * 3) + bk)))], [.int (zI 0)], es)) i_28_13 rfl ?_
  refine x_ret (v := some (.int (zI 0))) i_28_17 rfl (fun _ => rfl) rfl rfl rfl ?_
  show aW _ _ _ _ _ _ (34, [some (.ref 132), some (.int (zI m)), some (.int (zI 0)), some (.int (zI bk))], [.int (zI 0), .int (zI 0)], es)
  refine x_iadd i_46_34 ?_
  show aW _ _ _ _ _ _ (35, [some (.ref 132), some (.int (zI m)), some (.int (zI 0)), some (.int (zI bk))], [.int (zI 0)], es)
  refine x0 (r := (36, [some (.ref 132), some (.int (zI m)), some (.int (zI 0)), some (.int (zI bk))], [], es)) i_46_35 rfl ?_
  refine x_iinc (x := bk) i_46_36 rfl (by show 3 < 4; decide) ?_
  show aW _ _ _ _ _ _ (39, [some (.ref 132), some (.int (zI m)), some (.int (zI 0)), some (.int (zI (bk + 1)))], [], es)
  refine x0 (r := (10, [some (.ref 132), some (.int (zI m)), some (.int (zI 0)), some (.int (zI (bk + 1)))], [], es)) i_46_39 rfl ?_
  refine x0 (r := (11, [some (.ref 132), some (.int (zI m)), some (.int (zI 0)), some (.int (zI (bk + 1)))], [.int (zI (bk + 1))], es)) i_46_10 rfl ?_
  refine x0 (r := (12, [some (.ref 132), some (.int (zI m)), some (.int (zI 0)), some (.int (zI (bk + 1)))], [.ref 132, .int (zI (bk + 1))], es)) i_46_11 rfl ?_
  refine x_getr (p := 68) (k := 117) i_46_12 hs_es rfl rfl ?_
  show aW _ _ _ _ _ _ (15, [some (.ref 132), some (.int (zI m)), some (.int (zI 0)), some (.int (zI (bk + 1)))], [.ref 117, .int (zI (bk + 1))], es)
  refine x_geti (p := 53) i_46_15 hs_es rfl rfl ?_
  rw [show (gI es 53 1).toInt = (bk + 1) from by exact hq1]
  refine x_cmpT i_46_18 (by unfold i32 iLO iHI; omega) (by unfold i32 iLO iHI; omega) rfl (by simp only [zC, cR]; omega) ?_
  refine x0 (r := (43, [some (.ref 132), some (.int (zI m)), some (.int (zI 0)), some (.int (zI (bk + 1)))], [.int (zI 0)], es)) i_46_42 rfl ?_
  refine x_ret (v := some (.int (zI 0))) i_46_43 rfl (fun _ => rfl) rfl rfl rfl ?_
  show aW _ _ _ _ _ _ (36, [some (.ref 132), some (.int (zI m)), some (.int (zI kd)), some (.int (zI mo)), some (.int (zI 0)), some (.int (zI 0)), some (.int (zI 0)), none, none, none, none, none, none, none, none, none, none, none, none], [.int (zI 0)], es)
  refine x0 (r := (38, [some (.ref 132), some (.int (zI m)), some (.int (zI kd)), some (.int (zI mo)), some (.int (zI 0)), some (.int (zI 0)), some (.int (zI 0)), some (.int (zI 0)), none, none, none, none, none, none, none, none, none, none, none], [], es)) i_53_36 rfl ?_
  refine x0 (r := (39, [some (.ref 132), some (.int (zI m)), some (.int (zI kd)), some (.int (zI mo)), some (.int (zI 0)), some (.int (zI 0)), some (.int (zI 0)), some (.int (zI 0)), none, none, none, none, none, none, none, none, none, none, none], [.ref 132], es)) i_53_38 rfl ?_
  refine x_getr (p := 68) (k := 117) i_53_39 hs_es rfl rfl ?_
  show aW _ _ _ _ _ _ (42, [some (.ref 132), some (.int (zI m)), some (.int (zI kd)), some (.int (zI mo)), some (.int (zI 0)), some (.int (zI 0)), some (.int (zI 0)), some (.int (zI 0)), none, none, none, none, none, none, none, none, none, none, none], [.ref 117], es)
  refine x_geti (p := 53) i_53_42 hs_es rfl rfl ?_
  rw [show (gI es 53 0).toInt = bk from by exact hq0]
  refine x0 (r := (47, [some (.ref 132), some (.int (zI m)), some (.int (zI kd)), some (.int (zI mo)), some (.int (zI 0)), some (.int (zI 0)), some (.int (zI 0)), some (.int (zI 0)), some (.int (zI bk)), none, none, none, none, none, none, none, none, none, none], [], es)) i_53_45 rfl ?_
  refine x0 (r := (49, [some (.ref 132), some (.int (zI m)), some (.int (zI kd)), some (.int (zI mo)), some (.int (zI 0)), some (.int (zI 0)), some (.int (zI 0)), some (.int (zI 0)), some (.int (zI bk)), none, none, none, none, none, none, none, none, none, none], [.int (zI bk)], es)) i_53_47 rfl ?_
  refine x0 (r := (50, [some (.ref 132), some (.int (zI m)), some (.int (zI kd)), some (.int (zI mo)), some (.int (zI 0)), some (.int (zI 0)), some (.int (zI 0)), some (.int (zI 0)), some (.int (zI bk)), none, none, none, none, none, none, none, none, none, none], [.ref 132, .int (zI bk)], es)) i_53_49 rfl ?_
  refine x_getr (p := 68) (k := 117) i_53_50 hs_es rfl rfl ?_
  show aW _ _ _ _ _ _ (53, [some (.ref 132), some (.int (zI m)), some (.int (zI kd)), some (.int (zI mo)), some (.int (zI 0)), some (.int (zI 0)), some (.int (zI 0)), some (.int (zI 0)), some (.int (zI bk)), none, none, none, none, none, none, none, none, none, none], [.ref 117, .int (zI bk)], es)
  refine x_geti (p := 53) i_53_53 hs_es rfl rfl ?_
  rw [show (gI es 53 1).toInt = (bk + 1) from by exact hq1]
  refine x_cmpF i_53_56 (by unfold i32 iLO iHI; omega) (by unfold i32 iLO iHI; omega) rfl (by simp only [zC, cR]; omega) ?_
  refine x0 (r := (61, [some (.ref 132), some (.int (zI m)), some (.int (zI kd)), some (.int (zI mo)), some (.int (zI 0)), some (.int (zI 0)), some (.int (zI 0)), some (.int (zI 0)), some (.int (zI bk)), none, none, none, none, none, none, none, none, none, none], [.int (zI 0)], es)) i_53_59 rfl ?_
  refine x0 (r := (62, [some (.ref 132), some (.int (zI m)), some (.int (zI kd)), some (.int (zI mo)), some (.int (zI 0)), some (.int (zI 0)), some (.int (zI 0)), some (.int (zI 0)), some (.int (zI bk)), none, none, none, none, none, none, none, none, none, none], [.ref 132, .int (zI 0)], es)) i_53_61 rfl ?_
  refine x_geti (p := 68) i_53_62 hs_es rfl rfl ?_
  rw [show (gI es 68 2).toInt = 0 from by exact hli]
  refine x_cmpF i_53_65 (by unfold i32 iLO iHI; omega) (by unfold i32 iLO iHI; omega) rfl (by simp only [zC, cR]; omega) ?_
  refine x0 (r := (69, [some (.ref 132), some (.int (zI m)), some (.int (zI kd)), some (.int (zI mo)), some (.int (zI 0)), some (.int (zI 0)), some (.int (zI 0)), some (.int (zI 0)), some (.int (zI bk)), none, none, none, none, none, none, none, none, none, none], [.int (zI m)], es)) i_53_68 rfl ?_
  refine x0 (r := (70, [some (.ref 132), some (.int (zI m)), some (.int (zI kd)), some (.int (zI mo)), some (.int (zI 0)), some (.int (zI 0)), some (.int (zI 0)), some (.int (zI 0)), some (.int (zI bk)), none, none, none, none, none, none, none, none, none, none], [.int (zI 3), .int (zI m)], es)) i_53_69 (by rfl) ?_
  refine x_imul i_53_70 ?_
  refine x0 (r := (73, [some (.ref 132), some (.int (zI m)), some (.int (zI kd)), some (.int (zI mo)), some (.int (zI 0)), some (.int (zI 0)), some (.int (zI 0)), some (.int (zI 0)), some (.int (zI bk)), none, none, none, none, none, none, none, none, none, none], [.int (zI bk), .int (zI (m * 3))], es)) i_53_71 rfl ?_
  refine x_iadd i_53_73 ?_
  refine x0 (r := (76, [some (.ref 132), some (.int (zI m)), some (.int (zI kd)), some (.int (zI mo)), some (.int (zI 0)), some (.int (zI 0)), some (.int (zI 0)), some (.int (zI 0)), some (.int (zI bk)), some (.int (zI ((m * 3) + bk))), none, none, none, none, none, none, none, none, none], [], es)) i_53_74 rfl ?_
  refine x0 (r := (78, [some (.ref 132), some (.int (zI m)), some (.int (zI kd)), some (.int (zI mo)), some (.int (zI 0)), some (.int (zI 0)), some (.int (zI 0)), some (.int (zI 0)), some (.int (zI bk)), some (.int (zI ((m * 3) + bk))), none, none, none, none, none, none, none, none, none], [.int (zI ((m * 3) + bk))], es)) i_53_76 rfl ?_
  refine x0 (r := (79, [some (.ref 132), some (.int (zI m)), some (.int (zI kd)), some (.int (zI mo)), some (.int (zI 0)), some (.int (zI 0)), some (.int (zI 0)), some (.int (zI 0)), some (.int (zI bk)), some (.int (zI ((m * 3) + bk))), none, none, none, none, none, none, none, none, none], [.int (zI 3), .int (zI ((m * 3) + bk))], es)) i_53_78 (by rfl) ?_
  refine x_iadd i_53_79 ?_
  refine x0 (r := (82, [some (.ref 132), some (.int (zI m)), some (.int (zI kd)), some (.int (zI mo)), some (.int (zI 0)), some (.int (zI 0)), some (.int (zI 0)), some (.int (zI 0)), some (.int (zI bk)), some (.int (zI ((m * 3) + bk))), some (.int (zI (((m * 3) + bk) + 3))), none, none, none, none, none, none, none, none], [], es)) i_53_80 rfl ?_
  refine x0 (r := (83, [some (.ref 132), some (.int (zI m)), some (.int (zI kd)), some (.int (zI mo)), some (.int (zI 0)), some (.int (zI 0)), some (.int (zI 0)), some (.int (zI 0)), some (.int (zI bk)), some (.int (zI ((m * 3) + bk))), some (.int (zI (((m * 3) + bk) + 3))), none, none, none, none, none, none, none, none], [.ref 132], es)) i_53_82 rfl ?_
  refine x_getr (p := 68) (k := 135) i_53_83 hs_es rfl rfl ?_
  show aW _ _ _ _ _ _ (86, [some (.ref 132), some (.int (zI m)), some (.int (zI kd)), some (.int (zI mo)), some (.int (zI 0)), some (.int (zI 0)), some (.int (zI 0)), some (.int (zI 0)), some (.int (zI bk)), some (.int (zI ((m * 3) + bk))), some (.int (zI (((m * 3) + bk) + 3))), none, none, none, none, none, none, none, none], [.ref 135], es)
  refine x0 (r := (88, [some (.ref 132), some (.int (zI m)), some (.int (zI kd)), some (.int (zI mo)), some (.int (zI 0)), some (.int (zI 0)), some (.int (zI 0)), some (.int (zI 0)), some (.int (zI bk)), some (.int (zI ((m * 3) + bk))), some (.int (zI (((m * 3) + bk) + 3))), none, none, none, none, none, none, none, none], [.int (zI ((m * 3) + bk)), .ref 135], es)) i_53_86 rfl ?_
  refine x_call (vs := [.ref 135, .int (zI ((m * 3) + bk))]) (rs := []) i_53_88 rfl (fun _ => rfl) rfl rfl rfl rfl rfl rfl ?_
  show aW _ _ _ _ _ _ (0, [some (.ref 135), some (.int (zI ((m * 3) + bk)))], [], es)
  refine x0 (r := (1, [some (.ref 135), some (.int (zI ((m * 3) + bk)))], [.int (zI ((m * 3) + bk))], es)) i_28_0 rfl ?_
  refine x_ifF i_28_1 (by unfold i32 iLO iHI; omega) rfl (by simp only [zC, cR]; omega) ?_
  refine x0 (r := (5, [some (.ref 135), some (.int (zI ((m * 3) + bk)))], [.int (zI ((m * 3) + bk))], es)) i_28_4 rfl ?_
  refine x0 (r := (6, [some (.ref 135), some (.int (zI ((m * 3) + bk)))], [.ref 135, .int (zI ((m * 3) + bk))], es)) i_28_5 rfl ?_
  refine x_alen (p := 71) (n := 93) i_28_6 hs_es rfl ?_
  refine x_cmpF i_28_7 (by unfold i32 iLO iHI; omega) (by unfold i32 iLO iHI; omega) rfl (by simp only [zC, cR]; omega) ?_
  refine x0 (r := (11, [some (.ref 135), some (.int (zI ((m * 3) + bk)))], [.ref 135], es)) i_28_10 rfl ?_
  refine x0 (r := (12, [some (.ref 135), some (.int (zI ((m * 3) + bk)))], [.int (zI ((m * 3) + bk)), .ref 135], es)) i_28_11 rfl ?_
  refine x_iald (p := 71) i_28_12 hs_es rfl (by unfold i32 iLO iHI; omega) (by omega) (by omega) ?_
  rw [show (gA es 71 ((m * 3) + bk).toNat).toInt = m from by exact hl]
  refine x0 (r := (17, [some (.ref 135), some (.int (zI ((m * 3) + bk)))], [.int (zI m)], es)) i_28_13 rfl ?_
  refine x_ret (v := some (.int (zI m))) i_28_17 rfl (fun _ => rfl) rfl rfl rfl ?_
  show aW _ _ _ _ _ _ (91, [some (.ref 132), some (.int (zI m)), some (.int (zI kd)), some (.int (zI mo)), some (.int (zI 0)), some (.int (zI 0)), some (.int (zI 0)), some (.int (zI 0)), some (.int (zI bk)), some (.int (zI ((m * 3) + bk))), some (.int (zI (((m * 3) + bk) + 3))), none, none, none, none, none, none, none, none], [.int (zI m)], es)
  refine x0 (r := (93, [some (.ref 132), some (.int (zI m)), some (.int (zI kd)), some (.int (zI mo)), some (.int (zI 0)), some (.int (zI 0)), some (.int (zI 0)), some (.int (zI 0)), some (.int (zI bk)), some (.int (zI ((m * 3) + bk))), some (.int (zI (((m * 3) + bk) + 3))), some (.int (zI m)), none, none, none, none, none, none, none], [], es)) i_53_91 rfl ?_
  refine x0 (r := (95, [some (.ref 132), some (.int (zI m)), some (.int (zI kd)), some (.int (zI mo)), some (.int (zI 0)), some (.int (zI 0)), some (.int (zI 0)), some (.int (zI 0)), some (.int (zI bk)), some (.int (zI ((m * 3) + bk))), some (.int (zI (((m * 3) + bk) + 3))), some (.int (zI m)), none, none, none, none, none, none, none], [.int (zI 0)], es)) i_53_93 rfl ?_
  refine x0 (r := (96, [some (.ref 132), some (.int (zI m)), some (.int (zI kd)), some (.int (zI mo)), some (.int (zI 0)), some (.int (zI 0)), some (.int (zI 0)), some (.int (zI 0)), some (.int (zI bk)), some (.int (zI ((m * 3) + bk))), some (.int (zI (((m * 3) + bk) + 3))), some (.int (zI m)), none, none, none, none, none, none, none], [.ref 132, .int (zI 0)], es)) i_53_95 rfl ?_
  refine x_getr (p := 68) (k := 136) i_53_96 hs_es rfl rfl ?_
  show aW _ _ _ _ _ _ (99, [some (.ref 132), some (.int (zI m)), some (.int (zI kd)), some (.int (zI mo)), some (.int (zI 0)), some (.int (zI 0)), some (.int (zI 0)), some (.int (zI 0)), some (.int (zI bk)), some (.int (zI ((m * 3) + bk))), some (.int (zI (((m * 3) + bk) + 3))), some (.int (zI m)), none, none, none, none, none, none, none], [.ref 136, .int (zI 0)], es)
  refine x0 (r := (101, [some (.ref 132), some (.int (zI m)), some (.int (zI kd)), some (.int (zI mo)), some (.int (zI 0)), some (.int (zI 0)), some (.int (zI 0)), some (.int (zI 0)), some (.int (zI bk)), some (.int (zI ((m * 3) + bk))), some (.int (zI (((m * 3) + bk) + 3))), some (.int (zI m)), none, none, none, none, none, none, none], [.int (zI ((m * 3) + bk)), .ref 136, .int (zI 0)], es)) i_53_99 rfl ?_
  refine x_call (vs := [.ref 136, .int (zI ((m * 3) + bk))]) (rs := [.int (zI 0)]) i_53_101 rfl (fun _ => rfl) rfl rfl rfl rfl rfl rfl ?_
  show aW _ _ _ _ _ _ (0, [some (.ref 136), some (.int (zI ((m * 3) + bk)))], [], es)
  refine x0 (r := (1, [some (.ref 136), some (.int (zI ((m * 3) + bk)))], [.int (zI ((m * 3) + bk))], es)) i_28_0 rfl ?_
  refine x_ifF i_28_1 (by unfold i32 iLO iHI; omega) rfl (by simp only [zC, cR]; omega) ?_
  refine x0 (r := (5, [some (.ref 136), some (.int (zI ((m * 3) + bk)))], [.int (zI ((m * 3) + bk))], es)) i_28_4 rfl ?_
  refine x0 (r := (6, [some (.ref 136), some (.int (zI ((m * 3) + bk)))], [.ref 136, .int (zI ((m * 3) + bk))], es)) i_28_5 rfl ?_
  refine x_alen (p := 72) (n := 93) i_28_6 hs_es rfl ?_
  refine x_cmpF i_28_7 (by unfold i32 iLO iHI; omega) (by unfold i32 iLO iHI; omega) rfl (by simp only [zC, cR]; omega) ?_
  refine x0 (r := (11, [some (.ref 136), some (.int (zI ((m * 3) + bk)))], [.ref 136], es)) i_28_10 rfl ?_
  refine x0 (r := (12, [some (.ref 136), some (.int (zI ((m * 3) + bk)))], [.int (zI ((m * 3) + bk)), .ref 136], es)) i_28_11 rfl ?_
  refine x_iald (p := 72) i_28_12 hs_es rfl (by unfold i32 iLO iHI; omega) (by omega) (by omega) ?_
  rw [show (gA es 72 ((m * 3) + bk).toNat).toInt = 0 from by exact hle]
  refine x0 (r := (17, [some (.ref 136), some (.int (zI ((m * 3) + bk)))], [.int (zI 0)], es)) i_28_13 rfl ?_
  refine x_ret (v := some (.int (zI 0))) i_28_17 rfl (fun _ => rfl) rfl rfl rfl ?_
  show aW _ _ _ _ _ _ (104, [some (.ref 132), some (.int (zI m)), some (.int (zI kd)), some (.int (zI mo)), some (.int (zI 0)), some (.int (zI 0)), some (.int (zI 0)), some (.int (zI 0)), some (.int (zI bk)), some (.int (zI ((m * 3) + bk))), some (.int (zI (((m * 3) + bk) + 3))), some (.int (zI m)), none, none, none, none, none, none, none], [.int (zI 0), .int (zI 0)], es)
  refine x_isub i_53_104 ?_
  show aW _ _ _ _ _ _ (105, [some (.ref 132), some (.int (zI m)), some (.int (zI kd)), some (.int (zI mo)), some (.int (zI 0)), some (.int (zI 0)), some (.int (zI 0)), some (.int (zI 0)), some (.int (zI bk)), some (.int (zI ((m * 3) + bk))), some (.int (zI (((m * 3) + bk) + 3))), some (.int (zI m)), none, none, none, none, none, none, none], [.int (zI 0)], es)
  refine x0 (r := (107, [some (.ref 132), some (.int (zI m)), some (.int (zI kd)), some (.int (zI mo)), some (.int (zI 0)), some (.int (zI 0)), some (.int (zI 0)), some (.int (zI 0)), some (.int (zI bk)), some (.int (zI ((m * 3) + bk))), some (.int (zI (((m * 3) + bk) + 3))), some (.int (zI m)), none, none, none, none, none, none, none], [], es)) i_53_105 rfl ?_
  refine x0 (r := (108, [some (.ref 132), some (.int (zI m)), some (.int (zI kd)), some (.int (zI mo)), some (.int (zI 0)), some (.int (zI 0)), some (.int (zI 0)), some (.int (zI 0)), some (.int (zI bk)), some (.int (zI ((m * 3) + bk))), some (.int (zI (((m * 3) + bk) + 3))), some (.int (zI m)), none, none, none, none, none, none, none], [.ref 132], es)) i_53_107 rfl ?_
  refine x_geti (p := 68) i_53_108 hs_es rfl rfl ?_
  rw [show (gI es 68 2).toInt = 0 from by exact hli]
  refine x0 (r := (113, [some (.ref 132), some (.int (zI m)), some (.int (zI kd)), some (.int (zI mo)), some (.int (zI 0)), some (.int (zI 0)), some (.int (zI 0)), some (.int (zI 0)), some (.int (zI bk)), some (.int (zI ((m * 3) + bk))), some (.int (zI (((m * 3) + bk) + 3))), some (.int (zI m)), none, none, none, none, none, none, none], [.int (zI 0), .int (zI 0)], es)) i_53_111 rfl ?_
  refine x_isub i_53_113 ?_
  show aW _ _ _ _ _ _ (114, [some (.ref 132), some (.int (zI m)), some (.int (zI kd)), some (.int (zI mo)), some (.int (zI 0)), some (.int (zI 0)), some (.int (zI 0)), some (.int (zI 0)), some (.int (zI bk)), some (.int (zI ((m * 3) + bk))), some (.int (zI (((m * 3) + bk) + 3))), some (.int (zI m)), none, none, none, none, none, none, none], [.int (zI 0)], es)
  refine x0 (r := (116, [some (.ref 132), some (.int (zI m)), some (.int (zI kd)), some (.int (zI mo)), some (.int (zI 0)), some (.int (zI 0)), some (.int (zI 0)), some (.int (zI 0)), some (.int (zI bk)), some (.int (zI ((m * 3) + bk))), some (.int (zI (((m * 3) + bk) + 3))), some (.int (zI m)), none, none, none, none, none, none, none], [.int (zI 0), .int (zI 0)], es)) i_53_114 rfl ?_
  refine x_isub i_53_116 ?_
  show aW _ _ _ _ _ _ (117, [some (.ref 132), some (.int (zI m)), some (.int (zI kd)), some (.int (zI mo)), some (.int (zI 0)), some (.int (zI 0)), some (.int (zI 0)), some (.int (zI 0)), some (.int (zI bk)), some (.int (zI ((m * 3) + bk))), some (.int (zI (((m * 3) + bk) + 3))), some (.int (zI m)), none, none, none, none, none, none, none], [.int (zI 0)], es)
  refine x0 (r := (119, [some (.ref 132), some (.int (zI m)), some (.int (zI kd)), some (.int (zI mo)), some (.int (zI 0)), some (.int (zI 0)), some (.int (zI 0)), some (.int (zI 0)), some (.int (zI bk)), some (.int (zI ((m * 3) + bk))), some (.int (zI (((m * 3) + bk) + 3))), some (.int (zI m)), some (.int (zI 0)), none, none, none, none, none, none], [], es)) i_53_117 rfl ?_
  refine x0 (r := (122, [some (.ref 132), some (.int (zI m)), some (.int (zI kd)), some (.int (zI mo)), some (.int (zI 0)), some (.int (zI 0)), some (.int (zI 0)), some (.int (zI 0)), some (.int (zI bk)), some (.int (zI ((m * 3) + bk))), some (.int (zI (((m * 3) + bk) + 3))), some (.int (zI m)), some (.int (zI 0)), none, none, none, none, none, none], [.int (zI 1000)], es)) i_53_119 (by rfl) ?_
  refine x0 (r := (124, [some (.ref 132), some (.int (zI m)), some (.int (zI kd)), some (.int (zI mo)), some (.int (zI 0)), some (.int (zI 0)), some (.int (zI 0)), some (.int (zI 0)), some (.int (zI bk)), some (.int (zI ((m * 3) + bk))), some (.int (zI (((m * 3) + bk) + 3))), some (.int (zI m)), some (.int (zI 0)), some (.int (zI 1000)), none, none, none, none, none], [], es)) i_53_122 rfl ?_
  refine x0 (r := (127, [some (.ref 132), some (.int (zI m)), some (.int (zI kd)), some (.int (zI mo)), some (.int (zI 0)), some (.int (zI 0)), some (.int (zI 0)), some (.int (zI 0)), some (.int (zI bk)), some (.int (zI ((m * 3) + bk))), some (.int (zI (((m * 3) + bk) + 3))), some (.int (zI m)), some (.int (zI 0)), some (.int (zI 1000)), none, none, none, none, none], [.int (zI 1000)], es)) i_53_124 (by rfl) ?_
  refine x0 (r := (129, [some (.ref 132), some (.int (zI m)), some (.int (zI kd)), some (.int (zI mo)), some (.int (zI 0)), some (.int (zI 0)), some (.int (zI 0)), some (.int (zI 0)), some (.int (zI bk)), some (.int (zI ((m * 3) + bk))), some (.int (zI (((m * 3) + bk) + 3))), some (.int (zI m)), some (.int (zI 0)), some (.int (zI 1000)), some (.int (zI 1000)), none, none, none, none], [], es)) i_53_127 rfl ?_
  refine x0 (r := (130, [some (.ref 132), some (.int (zI m)), some (.int (zI kd)), some (.int (zI mo)), some (.int (zI 0)), some (.int (zI 0)), some (.int (zI 0)), some (.int (zI 0)), some (.int (zI bk)), some (.int (zI ((m * 3) + bk))), some (.int (zI (((m * 3) + bk) + 3))), some (.int (zI m)), some (.int (zI 0)), some (.int (zI 1000)), some (.int (zI 1000)), none, none, none, none], [.ref 132], es)) i_53_129 rfl ?_
  refine x0 (r := (132, [some (.ref 132), some (.int (zI m)), some (.int (zI kd)), some (.int (zI mo)), some (.int (zI 0)), some (.int (zI 0)), some (.int (zI 0)), some (.int (zI 0)), some (.int (zI bk)), some (.int (zI ((m * 3) + bk))), some (.int (zI (((m * 3) + bk) + 3))), some (.int (zI m)), some (.int (zI 0)), some (.int (zI 1000)), some (.int (zI 1000)), none, none, none, none], [.int (zI (((m * 3) + bk) + 3)), .ref 132], es)) i_53_130 rfl ?_
  refine x_call (vs := [.ref 132, .int (zI (((m * 3) + bk) + 3))]) (rs := []) i_53_132 rfl (fun _ => rfl) rfl rfl rfl rfl rfl (pCall_v (p := 68) hs_es rfl rfl rfl rfl rfl (by decide) rfl rfl rfl rfl rfl) ?_
  show aW _ _ _ _ _ _ (0, [some (.ref 132), some (.int (zI (((m * 3) + bk) + 3)))], [], es)
  refine x0 (r := (1, [some (.ref 132), some (.int (zI (((m * 3) + bk) + 3)))], [.ref 132], es)) i_26_0 rfl ?_
  refine x_getr (p := 68) (k := 134) i_26_1 hs_es rfl rfl ?_
  show aW _ _ _ _ _ _ (4, [some (.ref 132), some (.int (zI (((m * 3) + bk) + 3)))], [.ref 134], es)
  refine x0 (r := (5, [some (.ref 132), some (.int (zI (((m * 3) + bk) + 3)))], [.int (zI (((m * 3) + bk) + 3)), .ref 134], es)) i_26_4 rfl ?_
  refine x0 (r := (8, [some (.ref 132), some (.int (zI (((m * 3) + bk) + 3)))], [.int (zI 1000), .int (zI (((m * 3) + bk) + 3)), .ref 134], es)) i_26_5 (by rfl) ?_
  refine x_call (vs := [.ref 134, .int (zI (((m * 3) + bk) + 3)), .int (zI 1000)]) (rs := []) i_26_8 rfl (fun _ => rfl) rfl rfl rfl rfl rfl rfl ?_
  show aW _ _ _ _ _ _ (0, [some (.ref 134), some (.int (zI (((m * 3) + bk) + 3))), some (.int (zI 1000))], [], es)
  refine x0 (r := (1, [some (.ref 134), some (.int (zI (((m * 3) + bk) + 3))), some (.int (zI 1000))], [.int (zI (((m * 3) + bk) + 3))], es)) i_14_0 rfl ?_
  refine x_ifF i_14_1 (by unfold i32 iLO iHI; omega) rfl (by simp only [zC, cR]; omega) ?_
  refine x0 (r := (5, [some (.ref 134), some (.int (zI (((m * 3) + bk) + 3))), some (.int (zI 1000))], [.int (zI (((m * 3) + bk) + 3))], es)) i_14_4 rfl ?_
  refine x0 (r := (6, [some (.ref 134), some (.int (zI (((m * 3) + bk) + 3))), some (.int (zI 1000))], [.ref 134, .int (zI (((m * 3) + bk) + 3))], es)) i_14_5 rfl ?_
  refine x_alen (p := 70) (n := 93) i_14_6 hs_es rfl ?_
  refine x_cmpF i_14_7 (by unfold i32 iLO iHI; omega) (by unfold i32 iLO iHI; omega) rfl (by simp only [zC, cR]; omega) ?_
  refine x0 (r := (11, [some (.ref 134), some (.int (zI (((m * 3) + bk) + 3))), some (.int (zI 1000))], [.ref 134], es)) i_14_10 rfl ?_
  refine x0 (r := (12, [some (.ref 134), some (.int (zI (((m * 3) + bk) + 3))), some (.int (zI 1000))], [.int (zI (((m * 3) + bk) + 3)), .ref 134], es)) i_14_11 rfl ?_
  refine x0 (r := (13, [some (.ref 134), some (.int (zI (((m * 3) + bk) + 3))), some (.int (zI 1000))], [.int (zI 1000), .int (zI (((m * 3) + bk) + 3)), .ref 134], es)) i_14_12 rfl ?_
  refine x_iast (p := 70) i_14_13 hs_es rfl (by unfold i32 iLO iHI; omega) (by omega) (by omega) ?_
  obtain ⟨es1, e_es1⟩ : ∃ z : PH, z = sA es 70 (((m * 3) + bk) + 3).toNat (zI 1000) := ⟨_, rfl⟩
  have hs_es1 : sh es1 := by rw [e_es1]; exact sh_sA hs_es
  rw [← e_es1]
  refine x_ret (v := none) i_14_14 rfl (fun _ => rfl) rfl rfl rfl ?_
  show aW _ _ _ _ _ _ (11, [some (.ref 132), some (.int (zI (((m * 3) + bk) + 3)))], [], es1)
  refine x0 (r := (12, [some (.ref 132), some (.int (zI (((m * 3) + bk) + 3)))], [.ref 132], es1)) i_26_11 rfl ?_
  refine x_getr (p := 68) (k := 135) i_26_12 hs_es1 rfl rfl ?_
  show aW _ _ _ _ _ _ (15, [some (.ref 132), some (.int (zI (((m * 3) + bk) + 3)))], [.ref 135], es1)
  refine x0 (r := (16, [some (.ref 132), some (.int (zI (((m * 3) + bk) + 3)))], [.int (zI (((m * 3) + bk) + 3)), .ref 135], es1)) i_26_15 rfl ?_
  refine x0 (r := (17, [some (.ref 132), some (.int (zI (((m * 3) + bk) + 3)))], [.int (zI (-1)), .int (zI (((m * 3) + bk) + 3)), .ref 135], es1)) i_26_16 (by rfl) ?_
  refine x_call (vs := [.ref 135, .int (zI (((m * 3) + bk) + 3)), .int (zI (-1))]) (rs := []) i_26_17 rfl (fun _ => rfl) rfl rfl rfl rfl rfl rfl ?_
  show aW _ _ _ _ _ _ (0, [some (.ref 135), some (.int (zI (((m * 3) + bk) + 3))), some (.int (zI (-1)))], [], es1)
  refine x0 (r := (1, [some (.ref 135), some (.int (zI (((m * 3) + bk) + 3))), some (.int (zI (-1)))], [.int (zI (((m * 3) + bk) + 3))], es1)) i_14_0 rfl ?_
  refine x_ifF i_14_1 (by unfold i32 iLO iHI; omega) rfl (by simp only [zC, cR]; omega) ?_
  refine x0 (r := (5, [some (.ref 135), some (.int (zI (((m * 3) + bk) + 3))), some (.int (zI (-1)))], [.int (zI (((m * 3) + bk) + 3))], es1)) i_14_4 rfl ?_
  refine x0 (r := (6, [some (.ref 135), some (.int (zI (((m * 3) + bk) + 3))), some (.int (zI (-1)))], [.ref 135, .int (zI (((m * 3) + bk) + 3))], es1)) i_14_5 rfl ?_
  refine x_alen (p := 71) (n := 93) i_14_6 hs_es1 rfl ?_
  refine x_cmpF i_14_7 (by unfold i32 iLO iHI; omega) (by unfold i32 iLO iHI; omega) rfl (by simp only [zC, cR]; omega) ?_
  refine x0 (r := (11, [some (.ref 135), some (.int (zI (((m * 3) + bk) + 3))), some (.int (zI (-1)))], [.ref 135], es1)) i_14_10 rfl ?_
  refine x0 (r := (12, [some (.ref 135), some (.int (zI (((m * 3) + bk) + 3))), some (.int (zI (-1)))], [.int (zI (((m * 3) + bk) + 3)), .ref 135], es1)) i_14_11 rfl ?_
  refine x0 (r := (13, [some (.ref 135), some (.int (zI (((m * 3) + bk) + 3))), some (.int (zI (-1)))], [.int (zI (-1)), .int (zI (((m * 3) + bk) + 3)), .ref 135], es1)) i_14_12 rfl ?_
  refine x_iast (p := 71) i_14_13 hs_es1 rfl (by unfold i32 iLO iHI; omega) (by omega) (by omega) ?_
  obtain ⟨es2, e_es2⟩ : ∃ z : PH, z = sA es1 71 (((m * 3) + bk) + 3).toNat (zI (-1)) := ⟨_, rfl⟩
  have hs_es2 : sh es2 := by rw [e_es2]; exact sh_sA hs_es1
  rw [← e_es2]
  refine x_ret (v := none) i_14_14 rfl (fun _ => rfl) rfl rfl rfl ?_
  show aW _ _ _ _ _ _ (20, [some (.ref 132), some (.int (zI (((m * 3) + bk) + 3)))], [], es2)
  refine x0 (r := (21, [some (.ref 132), some (.int (zI (((m * 3) + bk) + 3)))], [.ref 132], es2)) i_26_20 rfl ?_
  refine x_getr (p := 68) (k := 136) i_26_21 hs_es2 rfl rfl ?_
  show aW _ _ _ _ _ _ (24, [some (.ref 132), some (.int (zI (((m * 3) + bk) + 3)))], [.ref 136], es2)
  refine x0 (r := (25, [some (.ref 132), some (.int (zI (((m * 3) + bk) + 3)))], [.int (zI (((m * 3) + bk) + 3)), .ref 136], es2)) i_26_24 rfl ?_
  refine x0 (r := (28, [some (.ref 132), some (.int (zI (((m * 3) + bk) + 3)))], [.int (zI 1000), .int (zI (((m * 3) + bk) + 3)), .ref 136], es2)) i_26_25 (by rfl) ?_
  refine x_call (vs := [.ref 136, .int (zI (((m * 3) + bk) + 3)), .int (zI 1000)]) (rs := []) i_26_28 rfl (fun _ => rfl) rfl rfl rfl rfl rfl rfl ?_
  show aW _ _ _ _ _ _ (0, [some (.ref 136), some (.int (zI (((m * 3) + bk) + 3))), some (.int (zI 1000))], [], es2)
  refine x0 (r := (1, [some (.ref 136), some (.int (zI (((m * 3) + bk) + 3))), some (.int (zI 1000))], [.int (zI (((m * 3) + bk) + 3))], es2)) i_14_0 rfl ?_
  refine x_ifF i_14_1 (by unfold i32 iLO iHI; omega) rfl (by simp only [zC, cR]; omega) ?_
  refine x0 (r := (5, [some (.ref 136), some (.int (zI (((m * 3) + bk) + 3))), some (.int (zI 1000))], [.int (zI (((m * 3) + bk) + 3))], es2)) i_14_4 rfl ?_
  refine x0 (r := (6, [some (.ref 136), some (.int (zI (((m * 3) + bk) + 3))), some (.int (zI 1000))], [.ref 136, .int (zI (((m * 3) + bk) + 3))], es2)) i_14_5 rfl ?_
  refine x_alen (p := 72) (n := 93) i_14_6 hs_es2 rfl ?_
  refine x_cmpF i_14_7 (by unfold i32 iLO iHI; omega) (by unfold i32 iLO iHI; omega) rfl (by simp only [zC, cR]; omega) ?_
  refine x0 (r := (11, [some (.ref 136), some (.int (zI (((m * 3) + bk) + 3))), some (.int (zI 1000))], [.ref 136], es2)) i_14_10 rfl ?_
  refine x0 (r := (12, [some (.ref 136), some (.int (zI (((m * 3) + bk) + 3))), some (.int (zI 1000))], [.int (zI (((m * 3) + bk) + 3)), .ref 136], es2)) i_14_11 rfl ?_
  refine x0 (r := (13, [some (.ref 136), some (.int (zI (((m * 3) + bk) + 3))), some (.int (zI 1000))], [.int (zI 1000), .int (zI (((m * 3) + bk) + 3)), .ref 136], es2)) i_14_12 rfl ?_
  refine x_iast (p := 72) i_14_13 hs_es2 rfl (by unfold i32 iLO iHI; omega) (by omega) (by omega) ?_
  obtain ⟨es3, e_es3⟩ : ∃ z : PH, z = sA es2 72 (((m * 3) + bk) + 3).toNat (zI 1000) := ⟨_, rfl⟩
  have hs_es3 : sh es3 := by rw [e_es3]; exact sh_sA hs_es2
  rw [← e_es3]
  refine x_ret (v := none) i_14_14 rfl (fun _ => rfl) rfl rfl rfl ?_
  show aW _ _ _ _ _ _ (31, [some (.ref 132), some (.int (zI (((m * 3) + bk) + 3)))], [], es3)
  refine x_ret (v := none) i_26_31 rfl (fun _ => rfl) rfl rfl rfl ?_
  show aW _ _ _ _ _ _ (135, [some (.ref 132), some (.int (zI m)), some (.int (zI kd)), some (.int (zI mo)), some (.int (zI 0)), some (.int (zI 0)), some (.int (zI 0)), some (.int (zI 0)), some (.int (zI bk)), some (.int (zI ((m * 3) + bk))), some (.int (zI (((m * 3) + bk) + 3))), some (.int (zI m)), some (.int (zI 0)), some (.int (zI 1000)), some (.int (zI 1000)), none, none, none, none], [], es3)
  refine x0 (r := (136, [some (.ref 132), some (.int (zI m)), some (.int (zI kd)), some (.int (zI mo)), some (.int (zI 0)), some (.int (zI 0)), some (.int (zI 0)), some (.int (zI 0)), some (.int (zI bk)), some (.int (zI ((m * 3) + bk))), some (.int (zI (((m * 3) + bk) + 3))), some (.int (zI m)), some (.int (zI 0)), some (.int (zI 1000)), some (.int (zI 1000)), none, none, none, none], [.ref 132], es3)) i_53_135 rfl ?_
  refine x_getr (p := 68) (k := 134) i_53_136 hs_es3 rfl rfl ?_
  show aW _ _ _ _ _ _ (139, [some (.ref 132), some (.int (zI m)), some (.int (zI kd)), some (.int (zI mo)), some (.int (zI 0)), some (.int (zI 0)), some (.int (zI 0)), some (.int (zI 0)), some (.int (zI bk)), some (.int (zI ((m * 3) + bk))), some (.int (zI (((m * 3) + bk) + 3))), some (.int (zI m)), some (.int (zI 0)), some (.int (zI 1000)), some (.int (zI 1000)), none, none, none, none], [.ref 134], es3)
  refine x0 (r := (141, [some (.ref 132), some (.int (zI m)), some (.int (zI kd)), some (.int (zI mo)), some (.int (zI 0)), some (.int (zI 0)), some (.int (zI 0)), some (.int (zI 0)), some (.int (zI bk)), some (.int (zI ((m * 3) + bk))), some (.int (zI (((m * 3) + bk) + 3))), some (.int (zI m)), some (.int (zI 0)), some (.int (zI 1000)), some (.int (zI 1000)), none, none, none, none], [.int (zI ((m * 3) + bk)), .ref 134], es3)) i_53_139 rfl ?_
  refine x_call (vs := [.ref 134, .int (zI ((m * 3) + bk))]) (rs := []) i_53_141 rfl (fun _ => rfl) rfl rfl rfl rfl rfl rfl ?_
  show aW _ _ _ _ _ _ (0, [some (.ref 134), some (.int (zI ((m * 3) + bk)))], [], es3)
  refine x0 (r := (1, [some (.ref 134), some (.int (zI ((m * 3) + bk)))], [.int (zI ((m * 3) + bk))], es3)) i_28_0 rfl ?_
  refine x_ifF i_28_1 (by unfold i32 iLO iHI; omega) rfl (by simp only [zC, cR]; omega) ?_
  refine x0 (r := (5, [some (.ref 134), some (.int (zI ((m * 3) + bk)))], [.int (zI ((m * 3) + bk))], es3)) i_28_4 rfl ?_
  refine x0 (r := (6, [some (.ref 134), some (.int (zI ((m * 3) + bk)))], [.ref 134, .int (zI ((m * 3) + bk))], es3)) i_28_5 rfl ?_
  refine x_alen (p := 70) (n := 93) i_28_6 hs_es3 rfl ?_
  refine x_cmpF i_28_7 (by unfold i32 iLO iHI; omega) (by unfold i32 iLO iHI; omega) rfl (by simp only [zC, cR]; omega) ?_
  refine x0 (r := (11, [some (.ref 134), some (.int (zI ((m * 3) + bk)))], [.ref 134], es3)) i_28_10 rfl ?_
  refine x0 (r := (12, [some (.ref 134), some (.int (zI ((m * 3) + bk)))], [.int (zI ((m * 3) + bk)), .ref 134], es3)) i_28_11 rfl ?_
  refine x_iald (p := 70) i_28_12 hs_es3 rfl (by unfold i32 iLO iHI; omega) (by omega) (by omega) ?_
  rw [show (gA es3 70 ((m * 3) + bk).toNat).toInt = m from by rw [e_es3, gA_sA_ne (by decide), e_es2, gA_sA_ne (by decide), e_es1, gA_sA hs_es (p := 70) (t := 0) (n := 93) rfl (by decide), updN (by omega)]; exact hf]
  refine x0 (r := (17, [some (.ref 134), some (.int (zI ((m * 3) + bk)))], [.int (zI m)], es3)) i_28_13 rfl ?_
  refine x_ret (v := some (.int (zI m))) i_28_17 rfl (fun _ => rfl) rfl rfl rfl ?_
  show aW _ _ _ _ _ _ (144, [some (.ref 132), some (.int (zI m)), some (.int (zI kd)), some (.int (zI mo)), some (.int (zI 0)), some (.int (zI 0)), some (.int (zI 0)), some (.int (zI 0)), some (.int (zI bk)), some (.int (zI ((m * 3) + bk))), some (.int (zI (((m * 3) + bk) + 3))), some (.int (zI m)), some (.int (zI 0)), some (.int (zI 1000)), some (.int (zI 1000)), none, none, none, none], [.int (zI m)], es3)
  refine x0 (r := (146, [some (.ref 132), some (.int (zI m)), some (.int (zI kd)), some (.int (zI mo)), some (.int (zI 0)), some (.int (zI 0)), some (.int (zI 0)), some (.int (zI 0)), some (.int (zI bk)), some (.int (zI ((m * 3) + bk))), some (.int (zI (((m * 3) + bk) + 3))), some (.int (zI m)), some (.int (zI 0)), some (.int (zI 1000)), some (.int (zI 1000)), some (.int (zI m)), none, none, none], [], es3)) i_53_144 rfl ?_
  refine x0 (r := (148, [some (.ref 132), some (.int (zI m)), some (.int (zI kd)), some (.int (zI mo)), some (.int (zI 0)), some (.int (zI 0)), some (.int (zI 0)), some (.int (zI 0)), some (.int (zI bk)), some (.int (zI ((m * 3) + bk))), some (.int (zI (((m * 3) + bk) + 3))), some (.int (zI m)), some (.int (zI 0)), some (.int (zI 1000)), some (.int (zI 1000)), some (.int (zI m)), none, none, none], [.int (zI m)], es3)) i_53_146 rfl ?_
  refine x0 (r := (149, [some (.ref 132), some (.int (zI m)), some (.int (zI kd)), some (.int (zI mo)), some (.int (zI 0)), some (.int (zI 0)), some (.int (zI 0)), some (.int (zI 0)), some (.int (zI bk)), some (.int (zI ((m * 3) + bk))), some (.int (zI (((m * 3) + bk) + 3))), some (.int (zI m)), some (.int (zI 0)), some (.int (zI 1000)), some (.int (zI 1000)), some (.int (zI m)), none, none, none], [.ref 132, .int (zI m)], es3)) i_53_148 rfl ?_
  refine x_getr (p := 68) (k := 71) i_53_149 hs_es3 rfl rfl ?_
  show aW _ _ _ _ _ _ (152, [some (.ref 132), some (.int (zI m)), some (.int (zI kd)), some (.int (zI mo)), some (.int (zI 0)), some (.int (zI 0)), some (.int (zI 0)), some (.int (zI 0)), some (.int (zI bk)), some (.int (zI ((m * 3) + bk))), some (.int (zI (((m * 3) + bk) + 3))), some (.int (zI m)), some (.int (zI 0)), some (.int (zI 1000)), some (.int (zI 1000)), some (.int (zI m)), none, none, none], [.ref 71, .int (zI m)], es3)
  refine x0 (r := (154, [some (.ref 132), some (.int (zI m)), some (.int (zI kd)), some (.int (zI mo)), some (.int (zI 0)), some (.int (zI 0)), some (.int (zI 0)), some (.int (zI 0)), some (.int (zI bk)), some (.int (zI ((m * 3) + bk))), some (.int (zI (((m * 3) + bk) + 3))), some (.int (zI m)), some (.int (zI 0)), some (.int (zI 1000)), some (.int (zI 1000)), some (.int (zI m)), none, none, none], [.int (zI bk), .ref 71, .int (zI m)], es3)) i_53_152 rfl ?_
  refine x_call (vs := [.ref 71, .int (zI bk)]) (rs := [.int (zI m)]) i_53_154 rfl (fun _ => rfl) rfl rfl rfl rfl rfl (pCall_v (p := 7) hs_es3 rfl rfl rfl rfl rfl (by decide) rfl rfl rfl rfl rfl) ?_
  show aW _ _ _ _ _ _ (0, [some (.ref 71), some (.int (zI bk))], [], es3)
  refine x0 (r := (1, [some (.ref 71), some (.int (zI bk))], [.ref 71], es3)) i_35_0 rfl ?_
  refine x_getr (p := 7) (k := 77) i_35_1 hs_es3 rfl rfl ?_
  show aW _ _ _ _ _ _ (4, [some (.ref 71), some (.int (zI bk))], [.ref 77], es3)
  refine x0 (r := (5, [some (.ref 71), some (.int (zI bk))], [.int (zI bk), .ref 77], es3)) i_35_4 rfl ?_
  refine x_call (vs := [.ref 77, .int (zI bk)]) (rs := []) i_35_5 rfl (fun _ => rfl) rfl rfl rfl rfl rfl rfl ?_
  show aW _ _ _ _ _ _ (0, [some (.ref 77), some (.int (zI bk))], [], es3)
  refine x0 (r := (1, [some (.ref 77), some (.int (zI bk))], [.int (zI bk)], es3)) i_28_0 rfl ?_
  refine x_ifF i_28_1 (by unfold i32 iLO iHI; omega) rfl (by simp only [zC, cR]; omega) ?_
  refine x0 (r := (5, [some (.ref 77), some (.int (zI bk))], [.int (zI bk)], es3)) i_28_4 rfl ?_
  refine x0 (r := (6, [some (.ref 77), some (.int (zI bk))], [.ref 77, .int (zI bk)], es3)) i_28_5 rfl ?_
  refine x_alen (p := 13) (n := 3) i_28_6 hs_es3 rfl ?_
  refine x_cmpF i_28_7 (by unfold i32 iLO iHI; omega) (by unfold i32 iLO iHI; omega) rfl (by simp only [zC, cR]; omega) ?_
  refine x0 (r := (11, [some (.ref 77), some (.int (zI bk))], [.ref 77], es3)) i_28_10 rfl ?_
  refine x0 (r := (12, [some (.ref 77), some (.int (zI bk))], [.int (zI bk), .ref 77], es3)) i_28_11 rfl ?_
  refine x_iald (p := 13) i_28_12 hs_es3 rfl (by unfold i32 iLO iHI; omega) (by omega) (by omega) ?_
  rw [show (gA es3 13 bk.toNat).toInt = nb from by rw [e_es3, gA_sA_ne (by decide), e_es2, gA_sA_ne (by decide), e_es1, gA_sA_ne (by decide)]; exact hnb]
  have r_nb : -2147483648 ≤ nb ∧ nb ≤ 2147483647 := by
    have hh := i32_rng (gA es 13 bk.toNat)
    rw [hnb] at hh
    exact hh
  refine x0 (r := (17, [some (.ref 77), some (.int (zI bk))], [.int (zI nb)], es3)) i_28_13 rfl ?_
  refine x_ret (v := some (.int (zI nb))) i_28_17 rfl (fun _ => rfl) rfl rfl rfl ?_
  show aW _ _ _ _ _ _ (8, [some (.ref 71), some (.int (zI bk))], [.int (zI nb)], es3)
  refine x_ret (v := some (.int (zI nb))) i_35_8 rfl (fun _ => rfl) rfl rfl rfl ?_
  show aW _ _ _ _ _ _ (157, [some (.ref 132), some (.int (zI m)), some (.int (zI kd)), some (.int (zI mo)), some (.int (zI 0)), some (.int (zI 0)), some (.int (zI 0)), some (.int (zI 0)), some (.int (zI bk)), some (.int (zI ((m * 3) + bk))), some (.int (zI (((m * 3) + bk) + 3))), some (.int (zI m)), some (.int (zI 0)), some (.int (zI 1000)), some (.int (zI 1000)), some (.int (zI m)), none, none, none], [.int (zI nb), .int (zI m)], es3)
  refine x_cmpF i_53_157 (by unfold i32 iLO iHI; omega) (by unfold i32 iLO iHI; omega) rfl (by simp only [zC, cR]; omega) ?_
  refine x0 (r := (162, [some (.ref 132), some (.int (zI m)), some (.int (zI kd)), some (.int (zI mo)), some (.int (zI 0)), some (.int (zI 0)), some (.int (zI 0)), some (.int (zI 0)), some (.int (zI bk)), some (.int (zI ((m * 3) + bk))), some (.int (zI (((m * 3) + bk) + 3))), some (.int (zI m)), some (.int (zI 0)), some (.int (zI 1000)), some (.int (zI 1000)), some (.int (zI m)), none, none, none], [.int (zI m)], es3)) i_53_160 rfl ?_
  refine x0 (r := (164, [some (.ref 132), some (.int (zI m)), some (.int (zI kd)), some (.int (zI mo)), some (.int (zI 0)), some (.int (zI 0)), some (.int (zI 0)), some (.int (zI 0)), some (.int (zI bk)), some (.int (zI ((m * 3) + bk))), some (.int (zI (((m * 3) + bk) + 3))), some (.int (zI m)), some (.int (zI 0)), some (.int (zI 1000)), some (.int (zI 1000)), some (.int (zI m)), none, none, none], [.int (zI m), .int (zI m)], es3)) i_53_162 rfl ?_
  refine x0 (r := (165, [some (.ref 132), some (.int (zI m)), some (.int (zI kd)), some (.int (zI mo)), some (.int (zI 0)), some (.int (zI 0)), some (.int (zI 0)), some (.int (zI 0)), some (.int (zI bk)), some (.int (zI ((m * 3) + bk))), some (.int (zI (((m * 3) + bk) + 3))), some (.int (zI m)), some (.int (zI 0)), some (.int (zI 1000)), some (.int (zI 1000)), some (.int (zI m)), none, none, none], [.int (zI 1), .int (zI m), .int (zI m)], es3)) i_53_164 (by rfl) ?_
  refine x_iadd i_53_165 ?_
  refine x_cmpT i_53_166 (by unfold i32 iLO iHI; omega) (by unfold i32 iLO iHI; omega) rfl (by simp only [zC, cR]; omega) ?_
  refine x0 (r := (179, [some (.ref 132), some (.int (zI m)), some (.int (zI kd)), some (.int (zI mo)), some (.int (zI 0)), some (.int (zI 0)), some (.int (zI 0)), some (.int (zI 0)), some (.int (zI bk)), some (.int (zI ((m * 3) + bk))), some (.int (zI (((m * 3) + bk) + 3))), some (.int (zI m)), some (.int (zI 0)), some (.int (zI 1000)), some (.int (zI 1000)), some (.int (zI m)), none, none, none], [.int (zI m)], es3)) i_53_177 rfl ?_
  refine x0 (r := (181, [some (.ref 132), some (.int (zI m)), some (.int (zI kd)), some (.int (zI mo)), some (.int (zI 0)), some (.int (zI 0)), some (.int (zI 0)), some (.int (zI 0)), some (.int (zI bk)), some (.int (zI ((m * 3) + bk))), some (.int (zI (((m * 3) + bk) + 3))), some (.int (zI m)), some (.int (zI 0)), some (.int (zI 1000)), some (.int (zI 1000)), some (.int (zI m)), none, none, none], [.int (zI m), .int (zI m)], es3)) i_53_179 rfl ?_
  refine x_cmpF i_53_181 (by unfold i32 iLO iHI; omega) (by unfold i32 iLO iHI; omega) rfl (by simp only [zC, cR]; omega) ?_
  refine x0 (r := (185, [some (.ref 132), some (.int (zI m)), some (.int (zI kd)), some (.int (zI mo)), some (.int (zI 0)), some (.int (zI 0)), some (.int (zI 0)), some (.int (zI 0)), some (.int (zI bk)), some (.int (zI ((m * 3) + bk))), some (.int (zI (((m * 3) + bk) + 3))), some (.int (zI m)), some (.int (zI 0)), some (.int (zI 1000)), some (.int (zI 1000)), some (.int (zI m)), none, none, none], [.ref 132], es3)) i_53_184 rfl ?_
  refine x_getr (p := 68) (k := 133) i_53_185 hs_es3 rfl rfl ?_
  show aW _ _ _ _ _ _ (188, [some (.ref 132), some (.int (zI m)), some (.int (zI kd)), some (.int (zI mo)), some (.int (zI 0)), some (.int (zI 0)), some (.int (zI 0)), some (.int (zI 0)), some (.int (zI bk)), some (.int (zI ((m * 3) + bk))), some (.int (zI (((m * 3) + bk) + 3))), some (.int (zI m)), some (.int (zI 0)), some (.int (zI 1000)), some (.int (zI 1000)), some (.int (zI m)), none, none, none], [.ref 133], es3)
  refine x0 (r := (190, [some (.ref 132), some (.int (zI m)), some (.int (zI kd)), some (.int (zI mo)), some (.int (zI 0)), some (.int (zI 0)), some (.int (zI 0)), some (.int (zI 0)), some (.int (zI bk)), some (.int (zI ((m * 3) + bk))), some (.int (zI (((m * 3) + bk) + 3))), some (.int (zI m)), some (.int (zI 0)), some (.int (zI 1000)), some (.int (zI 1000)), some (.int (zI m)), none, none, none], [.int (zI ((m * 3) + bk)), .ref 133], es3)) i_53_188 rfl ?_
  refine x0 (r := (192, [some (.ref 132), some (.int (zI m)), some (.int (zI kd)), some (.int (zI mo)), some (.int (zI 0)), some (.int (zI 0)), some (.int (zI 0)), some (.int (zI 0)), some (.int (zI bk)), some (.int (zI ((m * 3) + bk))), some (.int (zI (((m * 3) + bk) + 3))), some (.int (zI m)), some (.int (zI 0)), some (.int (zI 1000)), some (.int (zI 1000)), some (.int (zI m)), none, none, none], [.int (zI 25), .int (zI ((m * 3) + bk)), .ref 133], es3)) i_53_190 (by rfl) ?_
  refine x_imul i_53_192 ?_
  refine x0 (r := (195, [some (.ref 132), some (.int (zI m)), some (.int (zI kd)), some (.int (zI mo)), some (.int (zI 0)), some (.int (zI 0)), some (.int (zI 0)), some (.int (zI 0)), some (.int (zI bk)), some (.int (zI ((m * 3) + bk))), some (.int (zI (((m * 3) + bk) + 3))), some (.int (zI m)), some (.int (zI 0)), some (.int (zI 1000)), some (.int (zI 1000)), some (.int (zI m)), none, none, none], [.int (zI m), .int (zI (((m * 3) + bk) * 25)), .ref 133], es3)) i_53_193 rfl ?_
  refine x_iadd i_53_195 ?_
  refine x_call (vs := [.ref 133, .int (zI ((((m * 3) + bk) * 25) + m))]) (rs := []) i_53_196 rfl (fun _ => rfl) rfl rfl rfl rfl rfl rfl ?_
  show aW _ _ _ _ _ _ (0, [some (.ref 133), some (.int (zI ((((m * 3) + bk) * 25) + m)))], [], es3)
  refine x0 (r := (1, [some (.ref 133), some (.int (zI ((((m * 3) + bk) * 25) + m)))], [.int (zI ((((m * 3) + bk) * 25) + m))], es3)) i_28_0 rfl ?_
  refine x_ifF i_28_1 (by unfold i32 iLO iHI; omega) rfl (by simp only [zC, cR]; omega) ?_
  refine x0 (r := (5, [some (.ref 133), some (.int (zI ((((m * 3) + bk) * 25) + m)))], [.int (zI ((((m * 3) + bk) * 25) + m))], es3)) i_28_4 rfl ?_
  refine x0 (r := (6, [some (.ref 133), some (.int (zI ((((m * 3) + bk) * 25) + m)))], [.ref 133, .int (zI ((((m * 3) + bk) * 25) + m))], es3)) i_28_5 rfl ?_
  refine x_alen (p := 69) (n := 2325) i_28_6 hs_es3 rfl ?_
  refine x_cmpF i_28_7 (by unfold i32 iLO iHI; omega) (by unfold i32 iLO iHI; omega) rfl (by simp only [zC, cR]; omega) ?_
  refine x0 (r := (11, [some (.ref 133), some (.int (zI ((((m * 3) + bk) * 25) + m)))], [.ref 133], es3)) i_28_10 rfl ?_
  refine x0 (r := (12, [some (.ref 133), some (.int (zI ((((m * 3) + bk) * 25) + m)))], [.int (zI ((((m * 3) + bk) * 25) + m)), .ref 133], es3)) i_28_11 rfl ?_
  refine x_iald (p := 69) i_28_12 hs_es3 rfl (by unfold i32 iLO iHI; omega) (by omega) (by omega) ?_
  rw [show (gA es3 69 ((((m * 3) + bk) * 25) + m).toNat).toInt = 0 from by rw [e_es3, gA_sA_ne (by decide), e_es2, gA_sA_ne (by decide), e_es1, gA_sA_ne (by decide)]; exact hce]
  refine x0 (r := (17, [some (.ref 133), some (.int (zI ((((m * 3) + bk) * 25) + m)))], [.int (zI 0)], es3)) i_28_13 rfl ?_
  refine x_ret (v := some (.int (zI 0))) i_28_17 rfl (fun _ => rfl) rfl rfl rfl ?_
  show aW _ _ _ _ _ _ (199, [some (.ref 132), some (.int (zI m)), some (.int (zI kd)), some (.int (zI mo)), some (.int (zI 0)), some (.int (zI 0)), some (.int (zI 0)), some (.int (zI 0)), some (.int (zI bk)), some (.int (zI ((m * 3) + bk))), some (.int (zI (((m * 3) + bk) + 3))), some (.int (zI m)), some (.int (zI 0)), some (.int (zI 1000)), some (.int (zI 1000)), some (.int (zI m)), none, none, none], [.int (zI 0)], es3)
  refine x0 (r := (205, [some (.ref 132), some (.int (zI m)), some (.int (zI kd)), some (.int (zI mo)), some (.int (zI 0)), some (.int (zI 0)), some (.int (zI 0)), some (.int (zI 0)), some (.int (zI bk)), some (.int (zI ((m * 3) + bk))), some (.int (zI (((m * 3) + bk) + 3))), some (.int (zI m)), some (.int (zI 0)), some (.int (zI 1000)), some (.int (zI 1000)), some (.int (zI m)), none, none, none], [.int (zI 0)], es3)) i_53_199 rfl ?_
  refine x0 (r := (207, [some (.ref 132), some (.int (zI m)), some (.int (zI kd)), some (.int (zI mo)), some (.int (zI 0)), some (.int (zI 0)), some (.int (zI 0)), some (.int (zI 0)), some (.int (zI bk)), some (.int (zI ((m * 3) + bk))), some (.int (zI (((m * 3) + bk) + 3))), some (.int (zI m)), some (.int (zI 0)), some (.int (zI 1000)), some (.int (zI 1000)), some (.int (zI m)), some (.int (zI 0)), none, none], [], es3)) i_53_205 rfl ?_
  refine x0 (r := (209, [some (.ref 132), some (.int (zI m)), some (.int (zI kd)), some (.int (zI mo)), some (.int (zI 0)), some (.int (zI 0)), some (.int (zI 0)), some (.int (zI 0)), some (.int (zI bk)), some (.int (zI ((m * 3) + bk))), some (.int (zI (((m * 3) + bk) + 3))), some (.int (zI m)), some (.int (zI 0)), some (.int (zI 1000)), some (.int (zI 1000)), some (.int (zI m)), some (.int (zI 0)), none, none], [.int (zI 0)], es3)) i_53_207 rfl ?_
  refine x_ifT i_53_209 (by unfold i32 iLO iHI; omega) rfl (by simp only [zC, cR]; omega) ?_
  refine x0 (r := (223, [some (.ref 132), some (.int (zI m)), some (.int (zI kd)), some (.int (zI mo)), some (.int (zI 0)), some (.int (zI 0)), some (.int (zI 0)), some (.int (zI 0)), some (.int (zI bk)), some (.int (zI ((m * 3) + bk))), some (.int (zI (((m * 3) + bk) + 3))), some (.int (zI m)), some (.int (zI 0)), some (.int (zI 1000)), some (.int (zI 1000)), some (.int (zI m)), some (.int (zI 0)), none, none], [.int (zI 1000)], es3)) i_53_220 (by rfl) ?_
  refine x0 (r := (225, [some (.ref 132), some (.int (zI m)), some (.int (zI kd)), some (.int (zI mo)), some (.int (zI 0)), some (.int (zI 0)), some (.int (zI 0)), some (.int (zI 0)), some (.int (zI bk)), some (.int (zI ((m * 3) + bk))), some (.int (zI (((m * 3) + bk) + 3))), some (.int (zI m)), some (.int (zI 0)), some (.int (zI 1000)), some (.int (zI 1000)), some (.int (zI m)), some (.int (zI 0)), some (.int (zI 1000)), none], [], es3)) i_53_223 rfl ?_
  refine x0 (r := (227, [some (.ref 132), some (.int (zI m)), some (.int (zI kd)), some (.int (zI mo)), some (.int (zI 0)), some (.int (zI 0)), some (.int (zI 0)), some (.int (zI 0)), some (.int (zI bk)), some (.int (zI ((m * 3) + bk))), some (.int (zI (((m * 3) + bk) + 3))), some (.int (zI m)), some (.int (zI 0)), some (.int (zI 1000)), some (.int (zI 1000)), some (.int (zI m)), some (.int (zI 0)), some (.int (zI 1000)), none], [.int (zI 1000)], es3)) i_53_225 rfl ?_
  refine x0 (r := (230, [some (.ref 132), some (.int (zI m)), some (.int (zI kd)), some (.int (zI mo)), some (.int (zI 0)), some (.int (zI 0)), some (.int (zI 0)), some (.int (zI 0)), some (.int (zI bk)), some (.int (zI ((m * 3) + bk))), some (.int (zI (((m * 3) + bk) + 3))), some (.int (zI m)), some (.int (zI 0)), some (.int (zI 1000)), some (.int (zI 1000)), some (.int (zI m)), some (.int (zI 0)), some (.int (zI 1000)), none], [.int (zI 1000), .int (zI 1000)], es3)) i_53_227 (by rfl) ?_
  refine x_cmpT i_53_230 (by unfold i32 iLO iHI; omega) (by unfold i32 iLO iHI; omega) rfl (by simp only [zC, cR]; omega) ?_
  refine x0 (r := (252, [some (.ref 132), some (.int (zI m)), some (.int (zI kd)), some (.int (zI mo)), some (.int (zI 0)), some (.int (zI 0)), some (.int (zI 0)), some (.int (zI 0)), some (.int (zI bk)), some (.int (zI ((m * 3) + bk))), some (.int (zI (((m * 3) + bk) + 3))), some (.int (zI m)), some (.int (zI 0)), some (.int (zI 1000)), some (.int (zI 1000)), some (.int (zI m)), some (.int (zI 0)), some (.int (zI 1000)), none], [.int (zI (-1))], es3)) i_53_251 (by rfl) ?_
  refine x0 (r := (254, [some (.ref 132), some (.int (zI m)), some (.int (zI kd)), some (.int (zI mo)), some (.int (zI 0)), some (.int (zI 0)), some (.int (zI 0)), some (.int (zI 0)), some (.int (zI bk)), some (.int (zI ((m * 3) + bk))), some (.int (zI (((m * 3) + bk) + 3))), some (.int (zI m)), some (.int (zI 0)), some (.int (zI 1000)), some (.int (zI 1000)), some (.int (zI m)), some (.int (zI 0)), some (.int (zI 1000)), some (.int (zI (-1)))], [], es3)) i_53_252 rfl ?_
  refine x0 (r := (256, [some (.ref 132), some (.int (zI m)), some (.int (zI kd)), some (.int (zI mo)), some (.int (zI 0)), some (.int (zI 0)), some (.int (zI 0)), some (.int (zI 0)), some (.int (zI bk)), some (.int (zI ((m * 3) + bk))), some (.int (zI (((m * 3) + bk) + 3))), some (.int (zI m)), some (.int (zI 0)), some (.int (zI 1000)), some (.int (zI 1000)), some (.int (zI m)), some (.int (zI 0)), some (.int (zI 1000)), some (.int (zI (-1)))], [.int (zI (-1))], es3)) i_53_254 rfl ?_
  refine x0 (r := (257, [some (.ref 132), some (.int (zI m)), some (.int (zI kd)), some (.int (zI mo)), some (.int (zI 0)), some (.int (zI 0)), some (.int (zI 0)), some (.int (zI 0)), some (.int (zI bk)), some (.int (zI ((m * 3) + bk))), some (.int (zI (((m * 3) + bk) + 3))), some (.int (zI m)), some (.int (zI 0)), some (.int (zI 1000)), some (.int (zI 1000)), some (.int (zI m)), some (.int (zI 0)), some (.int (zI 1000)), some (.int (zI (-1)))], [.int (zI (-1)), .int (zI (-1))], es3)) i_53_256 (by rfl) ?_
  refine x_cmpT i_53_257 (by unfold i32 iLO iHI; omega) (by unfold i32 iLO iHI; omega) rfl (by simp only [zC, cR]; omega) ?_
  refine x0 (r := (284, [some (.ref 132), some (.int (zI m)), some (.int (zI kd)), some (.int (zI mo)), some (.int (zI 0)), some (.int (zI 0)), some (.int (zI 0)), some (.int (zI 0)), some (.int (zI bk)), some (.int (zI ((m * 3) + bk))), some (.int (zI (((m * 3) + bk) + 3))), some (.int (zI m)), some (.int (zI 0)), some (.int (zI 1000)), some (.int (zI 1000)), some (.int (zI m)), some (.int (zI 0)), some (.int (zI 1000)), some (.int (zI (-1)))], [.int (zI 1000)], es3)) i_53_282 rfl ?_
  refine x0 (r := (287, [some (.ref 132), some (.int (zI m)), some (.int (zI kd)), some (.int (zI mo)), some (.int (zI 0)), some (.int (zI 0)), some (.int (zI 0)), some (.int (zI 0)), some (.int (zI bk)), some (.int (zI ((m * 3) + bk))), some (.int (zI (((m * 3) + bk) + 3))), some (.int (zI m)), some (.int (zI 0)), some (.int (zI 1000)), some (.int (zI 1000)), some (.int (zI m)), some (.int (zI 0)), some (.int (zI 1000)), some (.int (zI (-1)))], [.int (zI 1000), .int (zI 1000)], es3)) i_53_284 (by rfl) ?_
  refine x_cmpT i_53_287 (by unfold i32 iLO iHI; omega) (by unfold i32 iLO iHI; omega) rfl (by simp only [zC, cR]; omega) ?_
  refine x0 (r := (337, [some (.ref 132), some (.int (zI m)), some (.int (zI kd)), some (.int (zI mo)), some (.int (zI 0)), some (.int (zI 0)), some (.int (zI 0)), some (.int (zI 0)), some (.int (zI bk)), some (.int (zI ((m * 3) + bk))), some (.int (zI (((m * 3) + bk) + 3))), some (.int (zI m)), some (.int (zI 0)), some (.int (zI 1000)), some (.int (zI 1000)), some (.int (zI m)), some (.int (zI 0)), some (.int (zI 1000)), some (.int (zI (-1)))], [.int (zI 0)], es3)) i_53_335 rfl ?_
  refine x0 (r := (339, [some (.ref 132), some (.int (zI m)), some (.int (zI kd)), some (.int (zI mo)), some (.int (zI 0)), some (.int (zI 0)), some (.int (zI 0)), some (.int (zI 0)), some (.int (zI bk)), some (.int (zI ((m * 3) + bk))), some (.int (zI (((m * 3) + bk) + 3))), some (.int (zI m)), some (.int (zI 0)), some (.int (zI 0)), some (.int (zI 1000)), some (.int (zI m)), some (.int (zI 0)), some (.int (zI 1000)), some (.int (zI (-1)))], [], es3)) i_53_337 rfl ?_
  refine x0 (r := (341, [some (.ref 132), some (.int (zI m)), some (.int (zI kd)), some (.int (zI mo)), some (.int (zI 0)), some (.int (zI 0)), some (.int (zI 0)), some (.int (zI 0)), some (.int (zI bk)), some (.int (zI ((m * 3) + bk))), some (.int (zI (((m * 3) + bk) + 3))), some (.int (zI m)), some (.int (zI 0)), some (.int (zI 0)), some (.int (zI 1000)), some (.int (zI m)), some (.int (zI 0)), some (.int (zI 1000)), some (.int (zI (-1)))], [.int (zI 1000)], es3)) i_53_339 rfl ?_
  refine x0 (r := (343, [some (.ref 132), some (.int (zI m)), some (.int (zI kd)), some (.int (zI mo)), some (.int (zI 0)), some (.int (zI 0)), some (.int (zI 0)), some (.int (zI 0)), some (.int (zI bk)), some (.int (zI ((m * 3) + bk))), some (.int (zI (((m * 3) + bk) + 3))), some (.int (zI m)), some (.int (zI 0)), some (.int (zI 0)), some (.int (zI 1000)), some (.int (zI m)), some (.int (zI 0)), some (.int (zI 1000)), some (.int (zI (-1)))], [.int (zI 0), .int (zI 1000)], es3)) i_53_341 rfl ?_
  refine x_cmpF i_53_343 (by unfold i32 iLO iHI; omega) (by unfold i32 iLO iHI; omega) rfl (by simp only [zC, cR]; omega) ?_
  refine x0 (r := (349, [some (.ref 132), some (.int (zI m)), some (.int (zI kd)), some (.int (zI mo)), some (.int (zI 0)), some (.int (zI 0)), some (.int (zI 0)), some (.int (zI 0)), some (.int (zI bk)), some (.int (zI ((m * 3) + bk))), some (.int (zI (((m * 3) + bk) + 3))), some (.int (zI m)), some (.int (zI 0)), some (.int (zI 0)), some (.int (zI 1000)), some (.int (zI m)), some (.int (zI 0)), some (.int (zI 1000)), some (.int (zI (-1)))], [.int (zI 1000)], es3)) i_53_346 (by rfl) ?_
  refine x0 (r := (354, [some (.ref 132), some (.int (zI m)), some (.int (zI kd)), some (.int (zI mo)), some (.int (zI 0)), some (.int (zI 0)), some (.int (zI 0)), some (.int (zI 0)), some (.int (zI bk)), some (.int (zI ((m * 3) + bk))), some (.int (zI (((m * 3) + bk) + 3))), some (.int (zI m)), some (.int (zI 0)), some (.int (zI 0)), some (.int (zI 1000)), some (.int (zI m)), some (.int (zI 0)), some (.int (zI 1000)), some (.int (zI (-1)))], [.int (zI 1000)], es3)) i_53_349 rfl ?_
  refine x0 (r := (356, [some (.ref 132), some (.int (zI m)), some (.int (zI kd)), some (.int (zI mo)), some (.int (zI 0)), some (.int (zI 0)), some (.int (zI 0)), some (.int (zI 0)), some (.int (zI bk)), some (.int (zI ((m * 3) + bk))), some (.int (zI (((m * 3) + bk) + 3))), some (.int (zI m)), some (.int (zI 0)), some (.int (zI 0)), some (.int (zI 1000)), some (.int (zI m)), some (.int (zI 0)), some (.int (zI 1000)), some (.int (zI (-1)))], [], es3)) i_53_354 rfl ?_
  refine x0 (r := (357, [some (.ref 132), some (.int (zI m)), some (.int (zI kd)), some (.int (zI mo)), some (.int (zI 0)), some (.int (zI 0)), some (.int (zI 0)), some (.int (zI 0)), some (.int (zI bk)), some (.int (zI ((m * 3) + bk))), some (.int (zI (((m * 3) + bk) + 3))), some (.int (zI m)), some (.int (zI 0)), some (.int (zI 0)), some (.int (zI 1000)), some (.int (zI m)), some (.int (zI 0)), some (.int (zI 1000)), some (.int (zI (-1)))], [.ref 132], es3)) i_53_356 rfl ?_
  refine x0 (r := (359, [some (.ref 132), some (.int (zI m)), some (.int (zI kd)), some (.int (zI mo)), some (.int (zI 0)), some (.int (zI 0)), some (.int (zI 0)), some (.int (zI 0)), some (.int (zI bk)), some (.int (zI ((m * 3) + bk))), some (.int (zI (((m * 3) + bk) + 3))), some (.int (zI m)), some (.int (zI 0)), some (.int (zI 0)), some (.int (zI 1000)), some (.int (zI m)), some (.int (zI 0)), some (.int (zI 1000)), some (.int (zI (-1)))], [.int (zI (((m * 3) + bk) + 3)), .ref 132], es3)) i_53_357 rfl ?_
  refine x0 (r := (361, [some (.ref 132), some (.int (zI m)), some (.int (zI kd)), some (.int (zI mo)), some (.int (zI 0)), some (.int (zI 0)), some (.int (zI 0)), some (.int (zI 0)), some (.int (zI bk)), some (.int (zI ((m * 3) + bk))), some (.int (zI (((m * 3) + bk) + 3))), some (.int (zI m)), some (.int (zI 0)), some (.int (zI 0)), some (.int (zI 1000)), some (.int (zI m)), some (.int (zI 0)), some (.int (zI 1000)), some (.int (zI (-1)))], [.int (zI m), .int (zI (((m * 3) + bk) + 3)), .ref 132], es3)) i_53_359 rfl ?_
  refine x0 (r := (363, [some (.ref 132), some (.int (zI m)), some (.int (zI kd)), some (.int (zI mo)), some (.int (zI 0)), some (.int (zI 0)), some (.int (zI 0)), some (.int (zI 0)), some (.int (zI bk)), some (.int (zI ((m * 3) + bk))), some (.int (zI (((m * 3) + bk) + 3))), some (.int (zI m)), some (.int (zI 0)), some (.int (zI 0)), some (.int (zI 1000)), some (.int (zI m)), some (.int (zI 0)), some (.int (zI 1000)), some (.int (zI (-1)))], [.int (zI 1000), .int (zI m), .int (zI (((m * 3) + bk) + 3)), .ref 132], es3)) i_53_361 rfl ?_
  refine x_call (vs := [.ref 132, .int (zI (((m * 3) + bk) + 3)), .int (zI m), .int (zI 1000)]) (rs := []) i_53_363 rfl (fun _ => rfl) rfl rfl rfl rfl rfl (pCall_v (p := 68) hs_es3 rfl rfl rfl rfl rfl (by decide) rfl rfl rfl rfl rfl) ?_
  show aW _ _ _ _ _ _ (0, [some (.ref 132), some (.int (zI (((m * 3) + bk) + 3))), some (.int (zI m)), some (.int (zI 1000))], [], es3)
  refine x0 (r := (1, [some (.ref 132), some (.int (zI (((m * 3) + bk) + 3))), some (.int (zI m)), some (.int (zI 1000))], [.ref 132], es3)) i_27_0 rfl ?_
  refine x_getr (p := 68) (k := 133) i_27_1 hs_es3 rfl rfl ?_
  show aW _ _ _ _ _ _ (4, [some (.ref 132), some (.int (zI (((m * 3) + bk) + 3))), some (.int (zI m)), some (.int (zI 1000))], [.ref 133], es3)
  refine x0 (r := (5, [some (.ref 132), some (.int (zI (((m * 3) + bk) + 3))), some (.int (zI m)), some (.int (zI 1000))], [.int (zI (((m * 3) + bk) + 3)), .ref 133], es3)) i_27_4 rfl ?_
  refine x0 (r := (7, [some (.ref 132), some (.int (zI (((m * 3) + bk) + 3))), some (.int (zI m)), some (.int (zI 1000))], [.int (zI 25), .int (zI (((m * 3) + bk) + 3)), .ref 133], es3)) i_27_5 (by rfl) ?_
  refine x_imul i_27_7 ?_
  refine x0 (r := (9, [some (.ref 132), some (.int (zI (((m * 3) + bk) + 3))), some (.int (zI m)), some (.int (zI 1000))], [.int (zI m), .int (zI ((((m * 3) + bk) + 3) * 25)), .ref 133], es3)) i_27_8 rfl ?_
  refine x_iadd i_27_9 ?_
  refine x0 (r := (11, [some (.ref 132), some (.int (zI (((m * 3) + bk) + 3))), some (.int (zI m)), some (.int (zI 1000))], [.int (zI 1000), .int (zI (((((m * 3) + bk) + 3) * 25) + m)), .ref 133], es3)) i_27_10 rfl ?_
  refine x_call (vs := [.ref 133, .int (zI (((((m * 3) + bk) + 3) * 25) + m)), .int (zI 1000)]) (rs := []) i_27_11 rfl (fun _ => rfl) rfl rfl rfl rfl rfl rfl ?_
  show aW _ _ _ _ _ _ (0, [some (.ref 133), some (.int (zI (((((m * 3) + bk) + 3) * 25) + m))), some (.int (zI 1000))], [], es3)
  refine x0 (r := (1, [some (.ref 133), some (.int (zI (((((m * 3) + bk) + 3) * 25) + m))), some (.int (zI 1000))], [.int (zI (((((m * 3) + bk) + 3) * 25) + m))], es3)) i_14_0 rfl ?_
  refine x_ifF i_14_1 (by unfold i32 iLO iHI; omega) rfl (by simp only [zC, cR]; omega) ?_
  refine x0 (r := (5, [some (.ref 133), some (.int (zI (((((m * 3) + bk) + 3) * 25) + m))), some (.int (zI 1000))], [.int (zI (((((m * 3) + bk) + 3) * 25) + m))], es3)) i_14_4 rfl ?_
  refine x0 (r := (6, [some (.ref 133), some (.int (zI (((((m * 3) + bk) + 3) * 25) + m))), some (.int (zI 1000))], [.ref 133, .int (zI (((((m * 3) + bk) + 3) * 25) + m))], es3)) i_14_5 rfl ?_
  refine x_alen (p := 69) (n := 2325) i_14_6 hs_es3 rfl ?_
  refine x_cmpF i_14_7 (by unfold i32 iLO iHI; omega) (by unfold i32 iLO iHI; omega) rfl (by simp only [zC, cR]; omega) ?_
  refine x0 (r := (11, [some (.ref 133), some (.int (zI (((((m * 3) + bk) + 3) * 25) + m))), some (.int (zI 1000))], [.ref 133], es3)) i_14_10 rfl ?_
  refine x0 (r := (12, [some (.ref 133), some (.int (zI (((((m * 3) + bk) + 3) * 25) + m))), some (.int (zI 1000))], [.int (zI (((((m * 3) + bk) + 3) * 25) + m)), .ref 133], es3)) i_14_11 rfl ?_
  refine x0 (r := (13, [some (.ref 133), some (.int (zI (((((m * 3) + bk) + 3) * 25) + m))), some (.int (zI 1000))], [.int (zI 1000), .int (zI (((((m * 3) + bk) + 3) * 25) + m)), .ref 133], es3)) i_14_12 rfl ?_
  refine x_iast (p := 69) i_14_13 hs_es3 rfl (by unfold i32 iLO iHI; omega) (by omega) (by omega) ?_
  obtain ⟨es4, e_es4⟩ : ∃ z : PH, z = sA es3 69 (((((m * 3) + bk) + 3) * 25) + m).toNat (zI 1000) := ⟨_, rfl⟩
  have hs_es4 : sh es4 := by rw [e_es4]; exact sh_sA hs_es3
  rw [← e_es4]
  refine x_ret (v := none) i_14_14 rfl (fun _ => rfl) rfl rfl rfl ?_
  show aW _ _ _ _ _ _ (14, [some (.ref 132), some (.int (zI (((m * 3) + bk) + 3))), some (.int (zI m)), some (.int (zI 1000))], [], es4)
  refine x0 (r := (15, [some (.ref 132), some (.int (zI (((m * 3) + bk) + 3))), some (.int (zI m)), some (.int (zI 1000))], [.int (zI 1000)], es4)) i_27_14 rfl ?_
  refine x0 (r := (18, [some (.ref 132), some (.int (zI (((m * 3) + bk) + 3))), some (.int (zI m)), some (.int (zI 1000))], [.int (zI 1000), .int (zI 1000)], es4)) i_27_15 (by rfl) ?_
  refine x_cmpT i_27_18 (by unfold i32 iLO iHI; omega) (by unfold i32 iLO iHI; omega) rfl (by simp only [zC, cR]; omega) ?_
  refine x_ret (v := none) i_27_70 rfl (fun _ => rfl) rfl rfl rfl ?_
  show aW _ _ _ _ _ _ (366, [some (.ref 132), some (.int (zI m)), some (.int (zI kd)), some (.int (zI mo)), some (.int (zI 0)), some (.int (zI 0)), some (.int (zI 0)), some (.int (zI 0)), some (.int (zI bk)), some (.int (zI ((m * 3) + bk))), some (.int (zI (((m * 3) + bk) + 3))), some (.int (zI m)), some (.int (zI 0)), some (.int (zI 0)), some (.int (zI 1000)), some (.int (zI m)), some (.int (zI 0)), some (.int (zI 1000)), some (.int (zI (-1)))], [], es4)
  refine x_iinc (x := m) i_53_366 rfl (by show 15 < 19; decide) ?_
  show aW _ _ _ _ _ _ (369, [some (.ref 132), some (.int (zI m)), some (.int (zI kd)), some (.int (zI mo)), some (.int (zI 0)), some (.int (zI 0)), some (.int (zI 0)), some (.int (zI 0)), some (.int (zI bk)), some (.int (zI ((m * 3) + bk))), some (.int (zI (((m * 3) + bk) + 3))), some (.int (zI m)), some (.int (zI 0)), some (.int (zI 0)), some (.int (zI 1000)), some (.int (zI (m + 1))), some (.int (zI 0)), some (.int (zI 1000)), some (.int (zI (-1)))], [], es4)
  refine x0 (r := (146, [some (.ref 132), some (.int (zI m)), some (.int (zI kd)), some (.int (zI mo)), some (.int (zI 0)), some (.int (zI 0)), some (.int (zI 0)), some (.int (zI 0)), some (.int (zI bk)), some (.int (zI ((m * 3) + bk))), some (.int (zI (((m * 3) + bk) + 3))), some (.int (zI m)), some (.int (zI 0)), some (.int (zI 0)), some (.int (zI 1000)), some (.int (zI (m + 1))), some (.int (zI 0)), some (.int (zI 1000)), some (.int (zI (-1)))], [], es4)) i_53_369 rfl ?_
  refine x0 (r := (148, [some (.ref 132), some (.int (zI m)), some (.int (zI kd)), some (.int (zI mo)), some (.int (zI 0)), some (.int (zI 0)), some (.int (zI 0)), some (.int (zI 0)), some (.int (zI bk)), some (.int (zI ((m * 3) + bk))), some (.int (zI (((m * 3) + bk) + 3))), some (.int (zI m)), some (.int (zI 0)), some (.int (zI 0)), some (.int (zI 1000)), some (.int (zI (m + 1))), some (.int (zI 0)), some (.int (zI 1000)), some (.int (zI (-1)))], [.int (zI (m + 1))], es4)) i_53_146 rfl ?_
  refine x0 (r := (149, [some (.ref 132), some (.int (zI m)), some (.int (zI kd)), some (.int (zI mo)), some (.int (zI 0)), some (.int (zI 0)), some (.int (zI 0)), some (.int (zI 0)), some (.int (zI bk)), some (.int (zI ((m * 3) + bk))), some (.int (zI (((m * 3) + bk) + 3))), some (.int (zI m)), some (.int (zI 0)), some (.int (zI 0)), some (.int (zI 1000)), some (.int (zI (m + 1))), some (.int (zI 0)), some (.int (zI 1000)), some (.int (zI (-1)))], [.ref 132, .int (zI (m + 1))], es4)) i_53_148 rfl ?_
  refine x_getr (p := 68) (k := 71) i_53_149 hs_es4 rfl rfl ?_
  show aW _ _ _ _ _ _ (152, [some (.ref 132), some (.int (zI m)), some (.int (zI kd)), some (.int (zI mo)), some (.int (zI 0)), some (.int (zI 0)), some (.int (zI 0)), some (.int (zI 0)), some (.int (zI bk)), some (.int (zI ((m * 3) + bk))), some (.int (zI (((m * 3) + bk) + 3))), some (.int (zI m)), some (.int (zI 0)), some (.int (zI 0)), some (.int (zI 1000)), some (.int (zI (m + 1))), some (.int (zI 0)), some (.int (zI 1000)), some (.int (zI (-1)))], [.ref 71, .int (zI (m + 1))], es4)
  refine x0 (r := (154, [some (.ref 132), some (.int (zI m)), some (.int (zI kd)), some (.int (zI mo)), some (.int (zI 0)), some (.int (zI 0)), some (.int (zI 0)), some (.int (zI 0)), some (.int (zI bk)), some (.int (zI ((m * 3) + bk))), some (.int (zI (((m * 3) + bk) + 3))), some (.int (zI m)), some (.int (zI 0)), some (.int (zI 0)), some (.int (zI 1000)), some (.int (zI (m + 1))), some (.int (zI 0)), some (.int (zI 1000)), some (.int (zI (-1)))], [.int (zI bk), .ref 71, .int (zI (m + 1))], es4)) i_53_152 rfl ?_
  refine x_call (vs := [.ref 71, .int (zI bk)]) (rs := [.int (zI (m + 1))]) i_53_154 rfl (fun _ => rfl) rfl rfl rfl rfl rfl (pCall_v (p := 7) hs_es4 rfl rfl rfl rfl rfl (by decide) rfl rfl rfl rfl rfl) ?_
  show aW _ _ _ _ _ _ (0, [some (.ref 71), some (.int (zI bk))], [], es4)
  refine x0 (r := (1, [some (.ref 71), some (.int (zI bk))], [.ref 71], es4)) i_35_0 rfl ?_
  refine x_getr (p := 7) (k := 77) i_35_1 hs_es4 rfl rfl ?_
  show aW _ _ _ _ _ _ (4, [some (.ref 71), some (.int (zI bk))], [.ref 77], es4)
  refine x0 (r := (5, [some (.ref 71), some (.int (zI bk))], [.int (zI bk), .ref 77], es4)) i_35_4 rfl ?_
  refine x_call (vs := [.ref 77, .int (zI bk)]) (rs := []) i_35_5 rfl (fun _ => rfl) rfl rfl rfl rfl rfl rfl ?_
  show aW _ _ _ _ _ _ (0, [some (.ref 77), some (.int (zI bk))], [], es4)
  refine x0 (r := (1, [some (.ref 77), some (.int (zI bk))], [.int (zI bk)], es4)) i_28_0 rfl ?_
  refine x_ifF i_28_1 (by unfold i32 iLO iHI; omega) rfl (by simp only [zC, cR]; omega) ?_
  refine x0 (r := (5, [some (.ref 77), some (.int (zI bk))], [.int (zI bk)], es4)) i_28_4 rfl ?_
  refine x0 (r := (6, [some (.ref 77), some (.int (zI bk))], [.ref 77, .int (zI bk)], es4)) i_28_5 rfl ?_
  refine x_alen (p := 13) (n := 3) i_28_6 hs_es4 rfl ?_
  refine x_cmpF i_28_7 (by unfold i32 iLO iHI; omega) (by unfold i32 iLO iHI; omega) rfl (by simp only [zC, cR]; omega) ?_
  refine x0 (r := (11, [some (.ref 77), some (.int (zI bk))], [.ref 77], es4)) i_28_10 rfl ?_
  refine x0 (r := (12, [some (.ref 77), some (.int (zI bk))], [.int (zI bk), .ref 77], es4)) i_28_11 rfl ?_
  refine x_iald (p := 13) i_28_12 hs_es4 rfl (by unfold i32 iLO iHI; omega) (by omega) (by omega) ?_
  rw [show (gA es4 13 bk.toNat).toInt = nb from by rw [e_es4, gA_sA_ne (by decide), e_es3, gA_sA_ne (by decide), e_es2, gA_sA_ne (by decide), e_es1, gA_sA_ne (by decide)]; exact hnb]
  have r_nb : -2147483648 ≤ nb ∧ nb ≤ 2147483647 := by
    have hh := i32_rng (gA es 13 bk.toNat)
    rw [hnb] at hh
    exact hh
  refine x0 (r := (17, [some (.ref 77), some (.int (zI bk))], [.int (zI nb)], es4)) i_28_13 rfl ?_
  refine x_ret (v := some (.int (zI nb))) i_28_17 rfl (fun _ => rfl) rfl rfl rfl ?_
  show aW _ _ _ _ _ _ (8, [some (.ref 71), some (.int (zI bk))], [.int (zI nb)], es4)
  refine x_ret (v := some (.int (zI nb))) i_35_8 rfl (fun _ => rfl) rfl rfl rfl ?_
  show aW _ _ _ _ _ _ (157, [some (.ref 132), some (.int (zI m)), some (.int (zI kd)), some (.int (zI mo)), some (.int (zI 0)), some (.int (zI 0)), some (.int (zI 0)), some (.int (zI 0)), some (.int (zI bk)), some (.int (zI ((m * 3) + bk))), some (.int (zI (((m * 3) + bk) + 3))), some (.int (zI m)), some (.int (zI 0)), some (.int (zI 0)), some (.int (zI 1000)), some (.int (zI (m + 1))), some (.int (zI 0)), some (.int (zI 1000)), some (.int (zI (-1)))], [.int (zI nb), .int (zI (m + 1))], es4)
  refine x_cmpF i_53_157 (by unfold i32 iLO iHI; omega) (by unfold i32 iLO iHI; omega) rfl (by simp only [zC, cR]; omega) ?_
  refine x0 (r := (162, [some (.ref 132), some (.int (zI m)), some (.int (zI kd)), some (.int (zI mo)), some (.int (zI 0)), some (.int (zI 0)), some (.int (zI 0)), some (.int (zI 0)), some (.int (zI bk)), some (.int (zI ((m * 3) + bk))), some (.int (zI (((m * 3) + bk) + 3))), some (.int (zI m)), some (.int (zI 0)), some (.int (zI 0)), some (.int (zI 1000)), some (.int (zI (m + 1))), some (.int (zI 0)), some (.int (zI 1000)), some (.int (zI (-1)))], [.int (zI (m + 1))], es4)) i_53_160 rfl ?_
  refine x0 (r := (164, [some (.ref 132), some (.int (zI m)), some (.int (zI kd)), some (.int (zI mo)), some (.int (zI 0)), some (.int (zI 0)), some (.int (zI 0)), some (.int (zI 0)), some (.int (zI bk)), some (.int (zI ((m * 3) + bk))), some (.int (zI (((m * 3) + bk) + 3))), some (.int (zI m)), some (.int (zI 0)), some (.int (zI 0)), some (.int (zI 1000)), some (.int (zI (m + 1))), some (.int (zI 0)), some (.int (zI 1000)), some (.int (zI (-1)))], [.int (zI m), .int (zI (m + 1))], es4)) i_53_162 rfl ?_
  refine x0 (r := (165, [some (.ref 132), some (.int (zI m)), some (.int (zI kd)), some (.int (zI mo)), some (.int (zI 0)), some (.int (zI 0)), some (.int (zI 0)), some (.int (zI 0)), some (.int (zI bk)), some (.int (zI ((m * 3) + bk))), some (.int (zI (((m * 3) + bk) + 3))), some (.int (zI m)), some (.int (zI 0)), some (.int (zI 0)), some (.int (zI 1000)), some (.int (zI (m + 1))), some (.int (zI 0)), some (.int (zI 1000)), some (.int (zI (-1)))], [.int (zI 1), .int (zI m), .int (zI (m + 1))], es4)) i_53_164 (by rfl) ?_
  refine x_iadd i_53_165 ?_
  refine x_cmpT i_53_166 (by unfold i32 iLO iHI; omega) (by unfold i32 iLO iHI; omega) rfl (by simp only [zC, cR]; omega) ?_
  refine x0 (r := (179, [some (.ref 132), some (.int (zI m)), some (.int (zI kd)), some (.int (zI mo)), some (.int (zI 0)), some (.int (zI 0)), some (.int (zI 0)), some (.int (zI 0)), some (.int (zI bk)), some (.int (zI ((m * 3) + bk))), some (.int (zI (((m * 3) + bk) + 3))), some (.int (zI m)), some (.int (zI 0)), some (.int (zI 0)), some (.int (zI 1000)), some (.int (zI (m + 1))), some (.int (zI 0)), some (.int (zI 1000)), some (.int (zI (-1)))], [.int (zI (m + 1))], es4)) i_53_177 rfl ?_
  refine x0 (r := (181, [some (.ref 132), some (.int (zI m)), some (.int (zI kd)), some (.int (zI mo)), some (.int (zI 0)), some (.int (zI 0)), some (.int (zI 0)), some (.int (zI 0)), some (.int (zI bk)), some (.int (zI ((m * 3) + bk))), some (.int (zI (((m * 3) + bk) + 3))), some (.int (zI m)), some (.int (zI 0)), some (.int (zI 0)), some (.int (zI 1000)), some (.int (zI (m + 1))), some (.int (zI 0)), some (.int (zI 1000)), some (.int (zI (-1)))], [.int (zI m), .int (zI (m + 1))], es4)) i_53_179 rfl ?_
  refine x_cmpT i_53_181 (by unfold i32 iLO iHI; omega) (by unfold i32 iLO iHI; omega) rfl (by simp only [zC, cR]; omega) ?_
  refine x0 (r := (205, [some (.ref 132), some (.int (zI m)), some (.int (zI kd)), some (.int (zI mo)), some (.int (zI 0)), some (.int (zI 0)), some (.int (zI 0)), some (.int (zI 0)), some (.int (zI bk)), some (.int (zI ((m * 3) + bk))), some (.int (zI (((m * 3) + bk) + 3))), some (.int (zI m)), some (.int (zI 0)), some (.int (zI 0)), some (.int (zI 1000)), some (.int (zI (m + 1))), some (.int (zI 0)), some (.int (zI 1000)), some (.int (zI (-1)))], [.int (zI 1000)], es4)) i_53_202 (by rfl) ?_
  refine x0 (r := (207, [some (.ref 132), some (.int (zI m)), some (.int (zI kd)), some (.int (zI mo)), some (.int (zI 0)), some (.int (zI 0)), some (.int (zI 0)), some (.int (zI 0)), some (.int (zI bk)), some (.int (zI ((m * 3) + bk))), some (.int (zI (((m * 3) + bk) + 3))), some (.int (zI m)), some (.int (zI 0)), some (.int (zI 0)), some (.int (zI 1000)), some (.int (zI (m + 1))), some (.int (zI 1000)), some (.int (zI 1000)), some (.int (zI (-1)))], [], es4)) i_53_205 rfl ?_
  refine x0 (r := (209, [some (.ref 132), some (.int (zI m)), some (.int (zI kd)), some (.int (zI mo)), some (.int (zI 0)), some (.int (zI 0)), some (.int (zI 0)), some (.int (zI 0)), some (.int (zI bk)), some (.int (zI ((m * 3) + bk))), some (.int (zI (((m * 3) + bk) + 3))), some (.int (zI m)), some (.int (zI 0)), some (.int (zI 0)), some (.int (zI 1000)), some (.int (zI (m + 1))), some (.int (zI 1000)), some (.int (zI 1000)), some (.int (zI (-1)))], [.int (zI 0)], es4)) i_53_207 rfl ?_
  refine x_ifT i_53_209 (by unfold i32 iLO iHI; omega) rfl (by simp only [zC, cR]; omega) ?_
  refine x0 (r := (223, [some (.ref 132), some (.int (zI m)), some (.int (zI kd)), some (.int (zI mo)), some (.int (zI 0)), some (.int (zI 0)), some (.int (zI 0)), some (.int (zI 0)), some (.int (zI bk)), some (.int (zI ((m * 3) + bk))), some (.int (zI (((m * 3) + bk) + 3))), some (.int (zI m)), some (.int (zI 0)), some (.int (zI 0)), some (.int (zI 1000)), some (.int (zI (m + 1))), some (.int (zI 1000)), some (.int (zI 1000)), some (.int (zI (-1)))], [.int (zI 1000)], es4)) i_53_220 (by rfl) ?_
  refine x0 (r := (225, [some (.ref 132), some (.int (zI m)), some (.int (zI kd)), some (.int (zI mo)), some (.int (zI 0)), some (.int (zI 0)), some (.int (zI 0)), some (.int (zI 0)), some (.int (zI bk)), some (.int (zI ((m * 3) + bk))), some (.int (zI (((m * 3) + bk) + 3))), some (.int (zI m)), some (.int (zI 0)), some (.int (zI 0)), some (.int (zI 1000)), some (.int (zI (m + 1))), some (.int (zI 1000)), some (.int (zI 1000)), some (.int (zI (-1)))], [], es4)) i_53_223 rfl ?_
  refine x0 (r := (227, [some (.ref 132), some (.int (zI m)), some (.int (zI kd)), some (.int (zI mo)), some (.int (zI 0)), some (.int (zI 0)), some (.int (zI 0)), some (.int (zI 0)), some (.int (zI bk)), some (.int (zI ((m * 3) + bk))), some (.int (zI (((m * 3) + bk) + 3))), some (.int (zI m)), some (.int (zI 0)), some (.int (zI 0)), some (.int (zI 1000)), some (.int (zI (m + 1))), some (.int (zI 1000)), some (.int (zI 1000)), some (.int (zI (-1)))], [.int (zI 0)], es4)) i_53_225 rfl ?_
  refine x0 (r := (230, [some (.ref 132), some (.int (zI m)), some (.int (zI kd)), some (.int (zI mo)), some (.int (zI 0)), some (.int (zI 0)), some (.int (zI 0)), some (.int (zI 0)), some (.int (zI bk)), some (.int (zI ((m * 3) + bk))), some (.int (zI (((m * 3) + bk) + 3))), some (.int (zI m)), some (.int (zI 0)), some (.int (zI 0)), some (.int (zI 1000)), some (.int (zI (m + 1))), some (.int (zI 1000)), some (.int (zI 1000)), some (.int (zI (-1)))], [.int (zI 1000), .int (zI 0)], es4)) i_53_227 (by rfl) ?_
  refine x_cmpF i_53_230 (by unfold i32 iLO iHI; omega) (by unfold i32 iLO iHI; omega) rfl (by simp only [zC, cR]; omega) ?_
  refine x0 (r := (234, [some (.ref 132), some (.int (zI m)), some (.int (zI kd)), some (.int (zI mo)), some (.int (zI 0)), some (.int (zI 0)), some (.int (zI 0)), some (.int (zI 0)), some (.int (zI bk)), some (.int (zI ((m * 3) + bk))), some (.int (zI (((m * 3) + bk) + 3))), some (.int (zI m)), some (.int (zI 0)), some (.int (zI 0)), some (.int (zI 1000)), some (.int (zI (m + 1))), some (.int (zI 1000)), some (.int (zI 1000)), some (.int (zI (-1)))], [.ref 132], es4)) i_53_233 rfl ?_
  refine x0 (r := (236, [some (.ref 132), some (.int (zI m)), some (.int (zI kd)), some (.int (zI mo)), some (.int (zI 0)), some (.int (zI 0)), some (.int (zI 0)), some (.int (zI 0)), some (.int (zI bk)), some (.int (zI ((m * 3) + bk))), some (.int (zI (((m * 3) + bk) + 3))), some (.int (zI m)), some (.int (zI 0)), some (.int (zI 0)), some (.int (zI 1000)), some (.int (zI (m + 1))), some (.int (zI 1000)), some (.int (zI 1000)), some (.int (zI (-1)))], [.int (zI bk), .ref 132], es4)) i_53_234 rfl ?_
  refine x0 (r := (238, [some (.ref 132), some (.int (zI m)), some (.int (zI kd)), some (.int (zI mo)), some (.int (zI 0)), some (.int (zI 0)), some (.int (zI 0)), some (.int (zI 0)), some (.int (zI bk)), some (.int (zI ((m * 3) + bk))), some (.int (zI (((m * 3) + bk) + 3))), some (.int (zI m)), some (.int (zI 0)), some (.int (zI 0)), some (.int (zI 1000)), some (.int (zI (m + 1))), some (.int (zI 1000)), some (.int (zI 1000)), some (.int (zI (-1)))], [.int (zI (m + 1)), .int (zI bk), .ref 132], es4)) i_53_236 rfl ?_
  refine x0 (r := (239, [some (.ref 132), some (.int (zI m)), some (.int (zI kd)), some (.int (zI mo)), some (.int (zI 0)), some (.int (zI 0)), some (.int (zI 0)), some (.int (zI 0)), some (.int (zI bk)), some (.int (zI ((m * 3) + bk))), some (.int (zI (((m * 3) + bk) + 3))), some (.int (zI m)), some (.int (zI 0)), some (.int (zI 0)), some (.int (zI 1000)), some (.int (zI (m + 1))), some (.int (zI 1000)), some (.int (zI 1000)), some (.int (zI (-1)))], [.int (zI 1), .int (zI (m + 1)), .int (zI bk), .ref 132], es4)) i_53_238 (by rfl) ?_
  refine x_isub i_53_239 ?_
  refine x0 (r := (241, [some (.ref 132), some (.int (zI m)), some (.int (zI kd)), some (.int (zI mo)), some (.int (zI 0)), some (.int (zI 0)), some (.int (zI 0)), some (.int (zI 0)), some (.int (zI bk)), some (.int (zI ((m * 3) + bk))), some (.int (zI (((m * 3) + bk) + 3))), some (.int (zI m)), some (.int (zI 0)), some (.int (zI 0)), some (.int (zI 1000)), some (.int (zI (m + 1))), some (.int (zI 1000)), some (.int (zI 1000)), some (.int (zI (-1)))], [.int (zI kd), .int (zI ((m + 1) - 1)), .int (zI bk), .ref 132], es4)) i_53_240 rfl ?_
  refine x0 (r := (242, [some (.ref 132), some (.int (zI m)), some (.int (zI kd)), some (.int (zI mo)), some (.int (zI 0)), some (.int (zI 0)), some (.int (zI 0)), some (.int (zI 0)), some (.int (zI bk)), some (.int (zI ((m * 3) + bk))), some (.int (zI (((m * 3) + bk) + 3))), some (.int (zI m)), some (.int (zI 0)), some (.int (zI 0)), some (.int (zI 1000)), some (.int (zI (m + 1))), some (.int (zI 1000)), some (.int (zI 1000)), some (.int (zI (-1)))], [.int (zI mo), .int (zI kd), .int (zI ((m + 1) - 1)), .int (zI bk), .ref 132], es4)) i_53_241 rfl ?_
  refine x0 (r := (243, [some (.ref 132), some (.int (zI m)), some (.int (zI kd)), some (.int (zI mo)), some (.int (zI 0)), some (.int (zI 0)), some (.int (zI 0)), some (.int (zI 0)), some (.int (zI bk)), some (.int (zI ((m * 3) + bk))), some (.int (zI (((m * 3) + bk) + 3))), some (.int (zI m)), some (.int (zI 0)), some (.int (zI 0)), some (.int (zI 1000)), some (.int (zI (m + 1))), some (.int (zI 1000)), some (.int (zI 1000)), some (.int (zI (-1)))], [.int (zI m), .int (zI mo), .int (zI kd), .int (zI ((m + 1) - 1)), .int (zI bk), .ref 132], es4)) i_53_242 rfl ?_
  refine x0 (r := (244, [some (.ref 132), some (.int (zI m)), some (.int (zI kd)), some (.int (zI mo)), some (.int (zI 0)), some (.int (zI 0)), some (.int (zI 0)), some (.int (zI 0)), some (.int (zI bk)), some (.int (zI ((m * 3) + bk))), some (.int (zI (((m * 3) + bk) + 3))), some (.int (zI m)), some (.int (zI 0)), some (.int (zI 0)), some (.int (zI 1000)), some (.int (zI (m + 1))), some (.int (zI 1000)), some (.int (zI 1000)), some (.int (zI (-1)))], [.int (zI 1), .int (zI m), .int (zI mo), .int (zI kd), .int (zI ((m + 1) - 1)), .int (zI bk), .ref 132], es4)) i_53_243 (by rfl) ?_
  refine x_op i_53_244 (w := (zI m &&& zI 1)) rfl rfl ?_
  obtain ⟨v5, e_v5⟩ : ∃ z : Int, z = (zI m &&& zI 1).toInt := ⟨_, rfl⟩
  rw [← e_v5]
  have r_v5 : iLO ≤ v5 ∧ v5 ≤ iHI := by rw [e_v5]; exact i32_rng _
  unfold iLO iHI at r_v5
  refine x_call (vs := [.ref 132, .int (zI bk), .int (zI ((m + 1) - 1)), .int (zI kd), .int (zI mo), .int (zI v5)]) (rs := []) i_53_245 rfl (fun _ => rfl) rfl rfl rfl rfl rfl (pCall_v (p := 68) hs_es4 rfl rfl rfl rfl rfl (by decide) rfl rfl rfl rfl rfl) ?_
  show aW _ _ _ _ _ _ (0, [some (.ref 132), some (.int (zI bk)), some (.int (zI ((m + 1) - 1))), some (.int (zI kd)), some (.int (zI mo)), some (.int (zI v5)), none, none, none, none, none, none, none, none, none], [], es4)
  refine slip_sp hs_es4 hb ⟨by omega, by omega⟩ hk hmo ⟨by rw [e_v5, and1 (by unfold i32 iLO iHI; omega)]; omega, by rw [e_v5, and1 (by unfold i32 iLO iHI; omega)]; omega⟩ (fun i hi => by rw [e_es4, gA_sA_ne (by decide), e_es3, gA_sA_ne (by decide), e_es2, gA_sA_ne (by decide), e_es1, gA_sA_ne (by decide)]; exact hpo i hi) (by rw [e_es4, gA_sA_ne (by decide), e_es3, gA_sA_ne (by decide), e_es2, gA_sA_ne (by decide), e_es1, gA_sA_ne (by decide), show ((m + 1) - 1) = m by omega]; exact hw2) (by rw [e_es4, gA_sA_ne (by decide), e_es3, gA_sA_ne (by decide), e_es2, gA_sA_ne (by decide), e_es1, gA_sA_ne (by decide), show ((m + 1) - 1) = m by omega]; exact hw3) (fun v6 p_v6 => ?_)
  have r_v6 := slipP_rng p_v6
  show aW _ _ _ _ _ _ (248, [some (.ref 132), some (.int (zI m)), some (.int (zI kd)), some (.int (zI mo)), some (.int (zI 0)), some (.int (zI 0)), some (.int (zI 0)), some (.int (zI 0)), some (.int (zI bk)), some (.int (zI ((m * 3) + bk))), some (.int (zI (((m * 3) + bk) + 3))), some (.int (zI m)), some (.int (zI 0)), some (.int (zI 0)), some (.int (zI 1000)), some (.int (zI (m + 1))), some (.int (zI 1000)), some (.int (zI 1000)), some (.int (zI (-1)))], [.int (zI v6)], es4)
  refine x0 (r := (252, [some (.ref 132), some (.int (zI m)), some (.int (zI kd)), some (.int (zI mo)), some (.int (zI 0)), some (.int (zI 0)), some (.int (zI 0)), some (.int (zI 0)), some (.int (zI bk)), some (.int (zI ((m * 3) + bk))), some (.int (zI (((m * 3) + bk) + 3))), some (.int (zI m)), some (.int (zI 0)), some (.int (zI 0)), some (.int (zI 1000)), some (.int (zI (m + 1))), some (.int (zI 1000)), some (.int (zI 1000)), some (.int (zI (-1)))], [.int (zI v6)], es4)) i_53_248 rfl ?_
  refine x0 (r := (254, [some (.ref 132), some (.int (zI m)), some (.int (zI kd)), some (.int (zI mo)), some (.int (zI 0)), some (.int (zI 0)), some (.int (zI 0)), some (.int (zI 0)), some (.int (zI bk)), some (.int (zI ((m * 3) + bk))), some (.int (zI (((m * 3) + bk) + 3))), some (.int (zI m)), some (.int (zI 0)), some (.int (zI 0)), some (.int (zI 1000)), some (.int (zI (m + 1))), some (.int (zI 1000)), some (.int (zI 1000)), some (.int (zI v6))], [], es4)) i_53_252 rfl ?_
  refine x0 (r := (256, [some (.ref 132), some (.int (zI m)), some (.int (zI kd)), some (.int (zI mo)), some (.int (zI 0)), some (.int (zI 0)), some (.int (zI 0)), some (.int (zI 0)), some (.int (zI bk)), some (.int (zI ((m * 3) + bk))), some (.int (zI (((m * 3) + bk) + 3))), some (.int (zI m)), some (.int (zI 0)), some (.int (zI 0)), some (.int (zI 1000)), some (.int (zI (m + 1))), some (.int (zI 1000)), some (.int (zI 1000)), some (.int (zI v6))], [.int (zI v6)], es4)) i_53_254 rfl ?_
  refine x0 (r := (257, [some (.ref 132), some (.int (zI m)), some (.int (zI kd)), some (.int (zI mo)), some (.int (zI 0)), some (.int (zI 0)), some (.int (zI 0)), some (.int (zI 0)), some (.int (zI bk)), some (.int (zI ((m * 3) + bk))), some (.int (zI (((m * 3) + bk) + 3))), some (.int (zI m)), some (.int (zI 0)), some (.int (zI 0)), some (.int (zI 1000)), some (.int (zI (m + 1))), some (.int (zI 1000)), some (.int (zI 1000)), some (.int (zI v6))], [.int (zI (-1)), .int (zI v6)], es4)) i_53_256 (by rfl) ?_
  by_cases c7 : v6 = (-1)
  · refine x_cmpT i_53_257 (by unfold i32 iLO iHI; omega) (by unfold i32 iLO iHI; omega) rfl (by simp only [zC, cR]; omega) ?_
    refine x0 (r := (284, [some (.ref 132), some (.int (zI m)), some (.int (zI kd)), some (.int (zI mo)), some (.int (zI 0)), some (.int (zI 0)), some (.int (zI 0)), some (.int (zI 0)), some (.int (zI bk)), some (.int (zI ((m * 3) + bk))), some (.int (zI (((m * 3) + bk) + 3))), some (.int (zI m)), some (.int (zI 0)), some (.int (zI 0)), some (.int (zI 1000)), some (.int (zI (m + 1))), some (.int (zI 1000)), some (.int (zI 1000)), some (.int (zI v6))], [.int (zI 1000)], es4)) i_53_282 rfl ?_
    refine x0 (r := (287, [some (.ref 132), some (.int (zI m)), some (.int (zI kd)), some (.int (zI mo)), some (.int (zI 0)), some (.int (zI 0)), some (.int (zI 0)), some (.int (zI 0)), some (.int (zI bk)), some (.int (zI ((m * 3) + bk))), some (.int (zI (((m * 3) + bk) + 3))), some (.int (zI m)), some (.int (zI 0)), some (.int (zI 0)), some (.int (zI 1000)), some (.int (zI (m + 1))), some (.int (zI 1000)), some (.int (zI 1000)), some (.int (zI v6))], [.int (zI 1000), .int (zI 1000)], es4)) i_53_284 (by rfl) ?_
    refine x_cmpT i_53_287 (by unfold i32 iLO iHI; omega) (by unfold i32 iLO iHI; omega) rfl (by simp only [zC, cR]; omega) ?_
    refine x0 (r := (337, [some (.ref 132), some (.int (zI m)), some (.int (zI kd)), some (.int (zI mo)), some (.int (zI 0)), some (.int (zI 0)), some (.int (zI 0)), some (.int (zI 0)), some (.int (zI bk)), some (.int (zI ((m * 3) + bk))), some (.int (zI (((m * 3) + bk) + 3))), some (.int (zI m)), some (.int (zI 0)), some (.int (zI 0)), some (.int (zI 1000)), some (.int (zI (m + 1))), some (.int (zI 1000)), some (.int (zI 1000)), some (.int (zI v6))], [.int (zI 1000)], es4)) i_53_335 rfl ?_
    refine x0 (r := (339, [some (.ref 132), some (.int (zI m)), some (.int (zI kd)), some (.int (zI mo)), some (.int (zI 0)), some (.int (zI 0)), some (.int (zI 0)), some (.int (zI 0)), some (.int (zI bk)), some (.int (zI ((m * 3) + bk))), some (.int (zI (((m * 3) + bk) + 3))), some (.int (zI m)), some (.int (zI 0)), some (.int (zI 1000)), some (.int (zI 1000)), some (.int (zI (m + 1))), some (.int (zI 1000)), some (.int (zI 1000)), some (.int (zI v6))], [], es4)) i_53_337 rfl ?_
    refine x0 (r := (341, [some (.ref 132), some (.int (zI m)), some (.int (zI kd)), some (.int (zI mo)), some (.int (zI 0)), some (.int (zI 0)), some (.int (zI 0)), some (.int (zI 0)), some (.int (zI bk)), some (.int (zI ((m * 3) + bk))), some (.int (zI (((m * 3) + bk) + 3))), some (.int (zI m)), some (.int (zI 0)), some (.int (zI 1000)), some (.int (zI 1000)), some (.int (zI (m + 1))), some (.int (zI 1000)), some (.int (zI 1000)), some (.int (zI v6))], [.int (zI 1000)], es4)) i_53_339 rfl ?_
    refine x0 (r := (343, [some (.ref 132), some (.int (zI m)), some (.int (zI kd)), some (.int (zI mo)), some (.int (zI 0)), some (.int (zI 0)), some (.int (zI 0)), some (.int (zI 0)), some (.int (zI bk)), some (.int (zI ((m * 3) + bk))), some (.int (zI (((m * 3) + bk) + 3))), some (.int (zI m)), some (.int (zI 0)), some (.int (zI 1000)), some (.int (zI 1000)), some (.int (zI (m + 1))), some (.int (zI 1000)), some (.int (zI 1000)), some (.int (zI v6))], [.int (zI 0), .int (zI 1000)], es4)) i_53_341 rfl ?_
    refine x_cmpF i_53_343 (by unfold i32 iLO iHI; omega) (by unfold i32 iLO iHI; omega) rfl (by simp only [zC, cR]; omega) ?_
    refine x0 (r := (349, [some (.ref 132), some (.int (zI m)), some (.int (zI kd)), some (.int (zI mo)), some (.int (zI 0)), some (.int (zI 0)), some (.int (zI 0)), some (.int (zI 0)), some (.int (zI bk)), some (.int (zI ((m * 3) + bk))), some (.int (zI (((m * 3) + bk) + 3))), some (.int (zI m)), some (.int (zI 0)), some (.int (zI 1000)), some (.int (zI 1000)), some (.int (zI (m + 1))), some (.int (zI 1000)), some (.int (zI 1000)), some (.int (zI v6))], [.int (zI 1000)], es4)) i_53_346 (by rfl) ?_
    refine x0 (r := (354, [some (.ref 132), some (.int (zI m)), some (.int (zI kd)), some (.int (zI mo)), some (.int (zI 0)), some (.int (zI 0)), some (.int (zI 0)), some (.int (zI 0)), some (.int (zI bk)), some (.int (zI ((m * 3) + bk))), some (.int (zI (((m * 3) + bk) + 3))), some (.int (zI m)), some (.int (zI 0)), some (.int (zI 1000)), some (.int (zI 1000)), some (.int (zI (m + 1))), some (.int (zI 1000)), some (.int (zI 1000)), some (.int (zI v6))], [.int (zI 1000)], es4)) i_53_349 rfl ?_
    refine x0 (r := (356, [some (.ref 132), some (.int (zI m)), some (.int (zI kd)), some (.int (zI mo)), some (.int (zI 0)), some (.int (zI 0)), some (.int (zI 0)), some (.int (zI 0)), some (.int (zI bk)), some (.int (zI ((m * 3) + bk))), some (.int (zI (((m * 3) + bk) + 3))), some (.int (zI m)), some (.int (zI 0)), some (.int (zI 1000)), some (.int (zI 1000)), some (.int (zI (m + 1))), some (.int (zI 1000)), some (.int (zI 1000)), some (.int (zI v6))], [], es4)) i_53_354 rfl ?_
    refine x0 (r := (357, [some (.ref 132), some (.int (zI m)), some (.int (zI kd)), some (.int (zI mo)), some (.int (zI 0)), some (.int (zI 0)), some (.int (zI 0)), some (.int (zI 0)), some (.int (zI bk)), some (.int (zI ((m * 3) + bk))), some (.int (zI (((m * 3) + bk) + 3))), some (.int (zI m)), some (.int (zI 0)), some (.int (zI 1000)), some (.int (zI 1000)), some (.int (zI (m + 1))), some (.int (zI 1000)), some (.int (zI 1000)), some (.int (zI v6))], [.ref 132], es4)) i_53_356 rfl ?_
    refine x0 (r := (359, [some (.ref 132), some (.int (zI m)), some (.int (zI kd)), some (.int (zI mo)), some (.int (zI 0)), some (.int (zI 0)), some (.int (zI 0)), some (.int (zI 0)), some (.int (zI bk)), some (.int (zI ((m * 3) + bk))), some (.int (zI (((m * 3) + bk) + 3))), some (.int (zI m)), some (.int (zI 0)), some (.int (zI 1000)), some (.int (zI 1000)), some (.int (zI (m + 1))), some (.int (zI 1000)), some (.int (zI 1000)), some (.int (zI v6))], [.int (zI (((m * 3) + bk) + 3)), .ref 132], es4)) i_53_357 rfl ?_
    refine x0 (r := (361, [some (.ref 132), some (.int (zI m)), some (.int (zI kd)), some (.int (zI mo)), some (.int (zI 0)), some (.int (zI 0)), some (.int (zI 0)), some (.int (zI 0)), some (.int (zI bk)), some (.int (zI ((m * 3) + bk))), some (.int (zI (((m * 3) + bk) + 3))), some (.int (zI m)), some (.int (zI 0)), some (.int (zI 1000)), some (.int (zI 1000)), some (.int (zI (m + 1))), some (.int (zI 1000)), some (.int (zI 1000)), some (.int (zI v6))], [.int (zI (m + 1)), .int (zI (((m * 3) + bk) + 3)), .ref 132], es4)) i_53_359 rfl ?_
    refine x0 (r := (363, [some (.ref 132), some (.int (zI m)), some (.int (zI kd)), some (.int (zI mo)), some (.int (zI 0)), some (.int (zI 0)), some (.int (zI 0)), some (.int (zI 0)), some (.int (zI bk)), some (.int (zI ((m * 3) + bk))), some (.int (zI (((m * 3) + bk) + 3))), some (.int (zI m)), some (.int (zI 0)), some (.int (zI 1000)), some (.int (zI 1000)), some (.int (zI (m + 1))), some (.int (zI 1000)), some (.int (zI 1000)), some (.int (zI v6))], [.int (zI 1000), .int (zI (m + 1)), .int (zI (((m * 3) + bk) + 3)), .ref 132], es4)) i_53_361 rfl ?_
    refine x_call (vs := [.ref 132, .int (zI (((m * 3) + bk) + 3)), .int (zI (m + 1)), .int (zI 1000)]) (rs := []) i_53_363 rfl (fun _ => rfl) rfl rfl rfl rfl rfl (pCall_v (p := 68) hs_es4 rfl rfl rfl rfl rfl (by decide) rfl rfl rfl rfl rfl) ?_
    show aW _ _ _ _ _ _ (0, [some (.ref 132), some (.int (zI (((m * 3) + bk) + 3))), some (.int (zI (m + 1))), some (.int (zI 1000))], [], es4)
    refine x0 (r := (1, [some (.ref 132), some (.int (zI (((m * 3) + bk) + 3))), some (.int (zI (m + 1))), some (.int (zI 1000))], [.ref 132], es4)) i_27_0 rfl ?_
    refine x_getr (p := 68) (k := 133) i_27_1 hs_es4 rfl rfl ?_
    show aW _ _ _ _ _ _ (4, [some (.ref 132), some (.int (zI (((m * 3) + bk) + 3))), some (.int (zI (m + 1))), some (.int (zI 1000))], [.ref 133], es4)
    refine x0 (r := (5, [some (.ref 132), some (.int (zI (((m * 3) + bk) + 3))), some (.int (zI (m + 1))), some (.int (zI 1000))], [.int (zI (((m * 3) + bk) + 3)), .ref 133], es4)) i_27_4 rfl ?_
    refine x0 (r := (7, [some (.ref 132), some (.int (zI (((m * 3) + bk) + 3))), some (.int (zI (m + 1))), some (.int (zI 1000))], [.int (zI 25), .int (zI (((m * 3) + bk) + 3)), .ref 133], es4)) i_27_5 (by rfl) ?_
    refine x_imul i_27_7 ?_
    refine x0 (r := (9, [some (.ref 132), some (.int (zI (((m * 3) + bk) + 3))), some (.int (zI (m + 1))), some (.int (zI 1000))], [.int (zI (m + 1)), .int (zI ((((m * 3) + bk) + 3) * 25)), .ref 133], es4)) i_27_8 rfl ?_
    refine x_iadd i_27_9 ?_
    refine x0 (r := (11, [some (.ref 132), some (.int (zI (((m * 3) + bk) + 3))), some (.int (zI (m + 1))), some (.int (zI 1000))], [.int (zI 1000), .int (zI (((((m * 3) + bk) + 3) * 25) + (m + 1))), .ref 133], es4)) i_27_10 rfl ?_
    refine x_call (vs := [.ref 133, .int (zI (((((m * 3) + bk) + 3) * 25) + (m + 1))), .int (zI 1000)]) (rs := []) i_27_11 rfl (fun _ => rfl) rfl rfl rfl rfl rfl rfl ?_
    show aW _ _ _ _ _ _ (0, [some (.ref 133), some (.int (zI (((((m * 3) + bk) + 3) * 25) + (m + 1)))), some (.int (zI 1000))], [], es4)
    refine x0 (r := (1, [some (.ref 133), some (.int (zI (((((m * 3) + bk) + 3) * 25) + (m + 1)))), some (.int (zI 1000))], [.int (zI (((((m * 3) + bk) + 3) * 25) + (m + 1)))], es4)) i_14_0 rfl ?_
    refine x_ifF i_14_1 (by unfold i32 iLO iHI; omega) rfl (by simp only [zC, cR]; omega) ?_
    refine x0 (r := (5, [some (.ref 133), some (.int (zI (((((m * 3) + bk) + 3) * 25) + (m + 1)))), some (.int (zI 1000))], [.int (zI (((((m * 3) + bk) + 3) * 25) + (m + 1)))], es4)) i_14_4 rfl ?_
    refine x0 (r := (6, [some (.ref 133), some (.int (zI (((((m * 3) + bk) + 3) * 25) + (m + 1)))), some (.int (zI 1000))], [.ref 133, .int (zI (((((m * 3) + bk) + 3) * 25) + (m + 1)))], es4)) i_14_5 rfl ?_
    refine x_alen (p := 69) (n := 2325) i_14_6 hs_es4 rfl ?_
    refine x_cmpF i_14_7 (by unfold i32 iLO iHI; omega) (by unfold i32 iLO iHI; omega) rfl (by simp only [zC, cR]; omega) ?_
    refine x0 (r := (11, [some (.ref 133), some (.int (zI (((((m * 3) + bk) + 3) * 25) + (m + 1)))), some (.int (zI 1000))], [.ref 133], es4)) i_14_10 rfl ?_
    refine x0 (r := (12, [some (.ref 133), some (.int (zI (((((m * 3) + bk) + 3) * 25) + (m + 1)))), some (.int (zI 1000))], [.int (zI (((((m * 3) + bk) + 3) * 25) + (m + 1))), .ref 133], es4)) i_14_11 rfl ?_
    refine x0 (r := (13, [some (.ref 133), some (.int (zI (((((m * 3) + bk) + 3) * 25) + (m + 1)))), some (.int (zI 1000))], [.int (zI 1000), .int (zI (((((m * 3) + bk) + 3) * 25) + (m + 1))), .ref 133], es4)) i_14_12 rfl ?_
    refine x_iast (p := 69) i_14_13 hs_es4 rfl (by unfold i32 iLO iHI; omega) (by omega) (by omega) ?_
    obtain ⟨es8, e_es8⟩ : ∃ z : PH, z = sA es4 69 (((((m * 3) + bk) + 3) * 25) + (m + 1)).toNat (zI 1000) := ⟨_, rfl⟩
    have hs_es8 : sh es8 := by rw [e_es8]; exact sh_sA hs_es4
    rw [← e_es8]
    refine x_ret (v := none) i_14_14 rfl (fun _ => rfl) rfl rfl rfl ?_
    show aW _ _ _ _ _ _ (14, [some (.ref 132), some (.int (zI (((m * 3) + bk) + 3))), some (.int (zI (m + 1))), some (.int (zI 1000))], [], es8)
    refine x0 (r := (15, [some (.ref 132), some (.int (zI (((m * 3) + bk) + 3))), some (.int (zI (m + 1))), some (.int (zI 1000))], [.int (zI 1000)], es8)) i_27_14 rfl ?_
    refine x0 (r := (18, [some (.ref 132), some (.int (zI (((m * 3) + bk) + 3))), some (.int (zI (m + 1))), some (.int (zI 1000))], [.int (zI 1000), .int (zI 1000)], es8)) i_27_15 (by rfl) ?_
    refine x_cmpT i_27_18 (by unfold i32 iLO iHI; omega) (by unfold i32 iLO iHI; omega) rfl (by simp only [zC, cR]; omega) ?_
    refine x_ret (v := none) i_27_70 rfl (fun _ => rfl) rfl rfl rfl ?_
    show aW _ _ _ _ _ _ (366, [some (.ref 132), some (.int (zI m)), some (.int (zI kd)), some (.int (zI mo)), some (.int (zI 0)), some (.int (zI 0)), some (.int (zI 0)), some (.int (zI 0)), some (.int (zI bk)), some (.int (zI ((m * 3) + bk))), some (.int (zI (((m * 3) + bk) + 3))), some (.int (zI m)), some (.int (zI 0)), some (.int (zI 1000)), some (.int (zI 1000)), some (.int (zI (m + 1))), some (.int (zI 1000)), some (.int (zI 1000)), some (.int (zI v6))], [], es8)
    refine x_iinc (x := (m + 1)) i_53_366 rfl (by show 15 < 19; decide) ?_
    show aW _ _ _ _ _ _ (369, [some (.ref 132), some (.int (zI m)), some (.int (zI kd)), some (.int (zI mo)), some (.int (zI 0)), some (.int (zI 0)), some (.int (zI 0)), some (.int (zI 0)), some (.int (zI bk)), some (.int (zI ((m * 3) + bk))), some (.int (zI (((m * 3) + bk) + 3))), some (.int (zI m)), some (.int (zI 0)), some (.int (zI 1000)), some (.int (zI 1000)), some (.int (zI ((m + 1) + 1))), some (.int (zI 1000)), some (.int (zI 1000)), some (.int (zI v6))], [], es8)
    refine x0 (r := (146, [some (.ref 132), some (.int (zI m)), some (.int (zI kd)), some (.int (zI mo)), some (.int (zI 0)), some (.int (zI 0)), some (.int (zI 0)), some (.int (zI 0)), some (.int (zI bk)), some (.int (zI ((m * 3) + bk))), some (.int (zI (((m * 3) + bk) + 3))), some (.int (zI m)), some (.int (zI 0)), some (.int (zI 1000)), some (.int (zI 1000)), some (.int (zI ((m + 1) + 1))), some (.int (zI 1000)), some (.int (zI 1000)), some (.int (zI v6))], [], es8)) i_53_369 rfl ?_
    refine x0 (r := (148, [some (.ref 132), some (.int (zI m)), some (.int (zI kd)), some (.int (zI mo)), some (.int (zI 0)), some (.int (zI 0)), some (.int (zI 0)), some (.int (zI 0)), some (.int (zI bk)), some (.int (zI ((m * 3) + bk))), some (.int (zI (((m * 3) + bk) + 3))), some (.int (zI m)), some (.int (zI 0)), some (.int (zI 1000)), some (.int (zI 1000)), some (.int (zI ((m + 1) + 1))), some (.int (zI 1000)), some (.int (zI 1000)), some (.int (zI v6))], [.int (zI ((m + 1) + 1))], es8)) i_53_146 rfl ?_
    refine x0 (r := (149, [some (.ref 132), some (.int (zI m)), some (.int (zI kd)), some (.int (zI mo)), some (.int (zI 0)), some (.int (zI 0)), some (.int (zI 0)), some (.int (zI 0)), some (.int (zI bk)), some (.int (zI ((m * 3) + bk))), some (.int (zI (((m * 3) + bk) + 3))), some (.int (zI m)), some (.int (zI 0)), some (.int (zI 1000)), some (.int (zI 1000)), some (.int (zI ((m + 1) + 1))), some (.int (zI 1000)), some (.int (zI 1000)), some (.int (zI v6))], [.ref 132, .int (zI ((m + 1) + 1))], es8)) i_53_148 rfl ?_
    refine x_getr (p := 68) (k := 71) i_53_149 hs_es8 rfl rfl ?_
    show aW _ _ _ _ _ _ (152, [some (.ref 132), some (.int (zI m)), some (.int (zI kd)), some (.int (zI mo)), some (.int (zI 0)), some (.int (zI 0)), some (.int (zI 0)), some (.int (zI 0)), some (.int (zI bk)), some (.int (zI ((m * 3) + bk))), some (.int (zI (((m * 3) + bk) + 3))), some (.int (zI m)), some (.int (zI 0)), some (.int (zI 1000)), some (.int (zI 1000)), some (.int (zI ((m + 1) + 1))), some (.int (zI 1000)), some (.int (zI 1000)), some (.int (zI v6))], [.ref 71, .int (zI ((m + 1) + 1))], es8)
    refine x0 (r := (154, [some (.ref 132), some (.int (zI m)), some (.int (zI kd)), some (.int (zI mo)), some (.int (zI 0)), some (.int (zI 0)), some (.int (zI 0)), some (.int (zI 0)), some (.int (zI bk)), some (.int (zI ((m * 3) + bk))), some (.int (zI (((m * 3) + bk) + 3))), some (.int (zI m)), some (.int (zI 0)), some (.int (zI 1000)), some (.int (zI 1000)), some (.int (zI ((m + 1) + 1))), some (.int (zI 1000)), some (.int (zI 1000)), some (.int (zI v6))], [.int (zI bk), .ref 71, .int (zI ((m + 1) + 1))], es8)) i_53_152 rfl ?_
    refine x_call (vs := [.ref 71, .int (zI bk)]) (rs := [.int (zI ((m + 1) + 1))]) i_53_154 rfl (fun _ => rfl) rfl rfl rfl rfl rfl (pCall_v (p := 7) hs_es8 rfl rfl rfl rfl rfl (by decide) rfl rfl rfl rfl rfl) ?_
    show aW _ _ _ _ _ _ (0, [some (.ref 71), some (.int (zI bk))], [], es8)
    refine x0 (r := (1, [some (.ref 71), some (.int (zI bk))], [.ref 71], es8)) i_35_0 rfl ?_
    refine x_getr (p := 7) (k := 77) i_35_1 hs_es8 rfl rfl ?_
    show aW _ _ _ _ _ _ (4, [some (.ref 71), some (.int (zI bk))], [.ref 77], es8)
    refine x0 (r := (5, [some (.ref 71), some (.int (zI bk))], [.int (zI bk), .ref 77], es8)) i_35_4 rfl ?_
    refine x_call (vs := [.ref 77, .int (zI bk)]) (rs := []) i_35_5 rfl (fun _ => rfl) rfl rfl rfl rfl rfl rfl ?_
    show aW _ _ _ _ _ _ (0, [some (.ref 77), some (.int (zI bk))], [], es8)
    refine x0 (r := (1, [some (.ref 77), some (.int (zI bk))], [.int (zI bk)], es8)) i_28_0 rfl ?_
    refine x_ifF i_28_1 (by unfold i32 iLO iHI; omega) rfl (by simp only [zC, cR]; omega) ?_
    refine x0 (r := (5, [some (.ref 77), some (.int (zI bk))], [.int (zI bk)], es8)) i_28_4 rfl ?_
    refine x0 (r := (6, [some (.ref 77), some (.int (zI bk))], [.ref 77, .int (zI bk)], es8)) i_28_5 rfl ?_
    refine x_alen (p := 13) (n := 3) i_28_6 hs_es8 rfl ?_
    refine x_cmpF i_28_7 (by unfold i32 iLO iHI; omega) (by unfold i32 iLO iHI; omega) rfl (by simp only [zC, cR]; omega) ?_
    refine x0 (r := (11, [some (.ref 77), some (.int (zI bk))], [.ref 77], es8)) i_28_10 rfl ?_
    refine x0 (r := (12, [some (.ref 77), some (.int (zI bk))], [.int (zI bk), .ref 77], es8)) i_28_11 rfl ?_
    refine x_iald (p := 13) i_28_12 hs_es8 rfl (by unfold i32 iLO iHI; omega) (by omega) (by omega) ?_
    rw [show (gA es8 13 bk.toNat).toInt = nb from by rw [e_es8, gA_sA_ne (by decide), e_es4, gA_sA_ne (by decide), e_es3, gA_sA_ne (by decide), e_es2, gA_sA_ne (by decide), e_es1, gA_sA_ne (by decide)]; exact hnb]
    have r_nb : -2147483648 ≤ nb ∧ nb ≤ 2147483647 := by
      have hh := i32_rng (gA es 13 bk.toNat)
      rw [hnb] at hh
      exact hh
    refine x0 (r := (17, [some (.ref 77), some (.int (zI bk))], [.int (zI nb)], es8)) i_28_13 rfl ?_
    refine x_ret (v := some (.int (zI nb))) i_28_17 rfl (fun _ => rfl) rfl rfl rfl ?_
    show aW _ _ _ _ _ _ (8, [some (.ref 71), some (.int (zI bk))], [.int (zI nb)], es8)
    refine x_ret (v := some (.int (zI nb))) i_35_8 rfl (fun _ => rfl) rfl rfl rfl ?_
    show aW _ _ _ _ _ _ (157, [some (.ref 132), some (.int (zI m)), some (.int (zI kd)), some (.int (zI mo)), some (.int (zI 0)), some (.int (zI 0)), some (.int (zI 0)), some (.int (zI 0)), some (.int (zI bk)), some (.int (zI ((m * 3) + bk))), some (.int (zI (((m * 3) + bk) + 3))), some (.int (zI m)), some (.int (zI 0)), some (.int (zI 1000)), some (.int (zI 1000)), some (.int (zI ((m + 1) + 1))), some (.int (zI 1000)), some (.int (zI 1000)), some (.int (zI v6))], [.int (zI nb), .int (zI ((m + 1) + 1))], es8)
    by_cases c9 : nb < ((m + 1) + 1)
    · refine x_cmpT i_53_157 (by unfold i32 iLO iHI; omega) (by unfold i32 iLO iHI; omega) rfl (by simp only [zC, cR]; omega) ?_
      refine x0 (r := (374, [some (.ref 132), some (.int (zI m)), some (.int (zI kd)), some (.int (zI mo)), some (.int (zI 0)), some (.int (zI 0)), some (.int (zI 0)), some (.int (zI 0)), some (.int (zI bk)), some (.int (zI ((m * 3) + bk))), some (.int (zI (((m * 3) + bk) + 3))), some (.int (zI m)), some (.int (zI 0)), some (.int (zI 1000)), some (.int (zI 1000)), some (.int (zI ((m + 1) + 1))), some (.int (zI 1000)), some (.int (zI 1000)), some (.int (zI v6))], [.int (zI 0)], es8)) i_53_372 rfl ?_
      refine x0 (r := (375, [some (.ref 132), some (.int (zI m)), some (.int (zI kd)), some (.int (zI mo)), some (.int (zI 0)), some (.int (zI 0)), some (.int (zI 0)), some (.int (zI 0)), some (.int (zI bk)), some (.int (zI ((m * 3) + bk))), some (.int (zI (((m * 3) + bk) + 3))), some (.int (zI m)), some (.int (zI 0)), some (.int (zI 1000)), some (.int (zI 1000)), some (.int (zI ((m + 1) + 1))), some (.int (zI 1000)), some (.int (zI 1000)), some (.int (zI v6))], [.ref 132, .int (zI 0)], es8)) i_53_374 rfl ?_
      refine x_getr (p := 68) (k := 136) i_53_375 hs_es8 rfl rfl ?_
      show aW _ _ _ _ _ _ (378, [some (.ref 132), some (.int (zI m)), some (.int (zI kd)), some (.int (zI mo)), some (.int (zI 0)), some (.int (zI 0)), some (.int (zI 0)), some (.int (zI 0)), some (.int (zI bk)), some (.int (zI ((m * 3) + bk))), some (.int (zI (((m * 3) + bk) + 3))), some (.int (zI m)), some (.int (zI 0)), some (.int (zI 1000)), some (.int (zI 1000)), some (.int (zI ((m + 1) + 1))), some (.int (zI 1000)), some (.int (zI 1000)), some (.int (zI v6))], [.ref 136, .int (zI 0)], es8)
      refine x0 (r := (380, [some (.ref 132), some (.int (zI m)), some (.int (zI kd)), some (.int (zI mo)), some (.int (zI 0)), some (.int (zI 0)), some (.int (zI 0)), some (.int (zI 0)), some (.int (zI bk)), some (.int (zI ((m * 3) + bk))), some (.int (zI (((m * 3) + bk) + 3))), some (.int (zI m)), some (.int (zI 0)), some (.int (zI 1000)), some (.int (zI 1000)), some (.int (zI ((m + 1) + 1))), some (.int (zI 1000)), some (.int (zI 1000)), some (.int (zI v6))], [.int (zI (((m * 3) + bk) + 3)), .ref 136, .int (zI 0)], es8)) i_53_378 rfl ?_
      refine x_call (vs := [.ref 136, .int (zI (((m * 3) + bk) + 3))]) (rs := [.int (zI 0)]) i_53_380 rfl (fun _ => rfl) rfl rfl rfl rfl rfl rfl ?_
      show aW _ _ _ _ _ _ (0, [some (.ref 136), some (.int (zI (((m * 3) + bk) + 3)))], [], es8)
      refine x0 (r := (1, [some (.ref 136), some (.int (zI (((m * 3) + bk) + 3)))], [.int (zI (((m * 3) + bk) + 3))], es8)) i_28_0 rfl ?_
      refine x_ifF i_28_1 (by unfold i32 iLO iHI; omega) rfl (by simp only [zC, cR]; omega) ?_
      refine x0 (r := (5, [some (.ref 136), some (.int (zI (((m * 3) + bk) + 3)))], [.int (zI (((m * 3) + bk) + 3))], es8)) i_28_4 rfl ?_
      refine x0 (r := (6, [some (.ref 136), some (.int (zI (((m * 3) + bk) + 3)))], [.ref 136, .int (zI (((m * 3) + bk) + 3))], es8)) i_28_5 rfl ?_
      refine x_alen (p := 72) (n := 93) i_28_6 hs_es8 rfl ?_
      refine x_cmpF i_28_7 (by unfold i32 iLO iHI; omega) (by unfold i32 iLO iHI; omega) rfl (by simp only [zC, cR]; omega) ?_
      refine x0 (r := (11, [some (.ref 136), some (.int (zI (((m * 3) + bk) + 3)))], [.ref 136], es8)) i_28_10 rfl ?_
      refine x0 (r := (12, [some (.ref 136), some (.int (zI (((m * 3) + bk) + 3)))], [.int (zI (((m * 3) + bk) + 3)), .ref 136], es8)) i_28_11 rfl ?_
      refine x_iald (p := 72) i_28_12 hs_es8 rfl (by unfold i32 iLO iHI; omega) (by omega) (by omega) ?_
      obtain ⟨v10, e_v10⟩ : ∃ z : Int, z = (gA es8 72 (((m * 3) + bk) + 3).toNat).toInt := ⟨_, rfl⟩
      rw [← e_v10]
      have r_v10 : iLO ≤ v10 ∧ v10 ≤ iHI := by rw [e_v10]; exact i32_rng _
      unfold iLO iHI at r_v10
      refine x0 (r := (17, [some (.ref 136), some (.int (zI (((m * 3) + bk) + 3)))], [.int (zI v10)], es8)) i_28_13 rfl ?_
      refine x_ret (v := some (.int (zI v10))) i_28_17 rfl (fun _ => rfl) rfl rfl rfl ?_
      show aW _ _ _ _ _ _ (383, [some (.ref 132), some (.int (zI m)), some (.int (zI kd)), some (.int (zI mo)), some (.int (zI 0)), some (.int (zI 0)), some (.int (zI 0)), some (.int (zI 0)), some (.int (zI bk)), some (.int (zI ((m * 3) + bk))), some (.int (zI (((m * 3) + bk) + 3))), some (.int (zI m)), some (.int (zI 0)), some (.int (zI 1000)), some (.int (zI 1000)), some (.int (zI ((m + 1) + 1))), some (.int (zI 1000)), some (.int (zI 1000)), some (.int (zI v6))], [.int (zI v10), .int (zI 0)], es8)
      refine x_iadd i_53_383 ?_
      refine x0 (r := (386, [some (.ref 132), some (.int (zI m)), some (.int (zI kd)), some (.int (zI mo)), some (.int (zI 0)), some (.int (zI 0)), some (.int (zI (0 + v10))), some (.int (zI 0)), some (.int (zI bk)), some (.int (zI ((m * 3) + bk))), some (.int (zI (((m * 3) + bk) + 3))), some (.int (zI m)), some (.int (zI 0)), some (.int (zI 1000)), some (.int (zI 1000)), some (.int (zI ((m + 1) + 1))), some (.int (zI 1000)), some (.int (zI 1000)), some (.int (zI v6))], [], es8)) i_53_384 rfl ?_
      refine x_iinc (x := bk) i_53_386 rfl (by show 8 < 19; decide) ?_
      show aW _ _ _ _ _ _ (389, [some (.ref 132), some (.int (zI m)), some (.int (zI kd)), some (.int (zI mo)), some (.int (zI 0)), some (.int (zI 0)), some (.int (zI (0 + v10))), some (.int (zI 0)), some (.int (zI (bk + 1))), some (.int (zI ((m * 3) + bk))), some (.int (zI (((m * 3) + bk) + 3))), some (.int (zI m)), some (.int (zI 0)), some (.int (zI 1000)), some (.int (zI 1000)), some (.int (zI ((m + 1) + 1))), some (.int (zI 1000)), some (.int (zI 1000)), some (.int (zI v6))], [], es8)
      refine x0 (r := (47, [some (.ref 132), some (.int (zI m)), some (.int (zI kd)), some (.int (zI mo)), some (.int (zI 0)), some (.int (zI 0)), some (.int (zI (0 + v10))), some (.int (zI 0)), some (.int (zI (bk + 1))), some (.int (zI ((m * 3) + bk))), some (.int (zI (((m * 3) + bk) + 3))), some (.int (zI m)), some (.int (zI 0)), some (.int (zI 1000)), some (.int (zI 1000)), some (.int (zI ((m + 1) + 1))), some (.int (zI 1000)), some (.int (zI 1000)), some (.int (zI v6))], [], es8)) i_53_389 rfl ?_
      refine x0 (r := (49, [some (.ref 132), some (.int (zI m)), some (.int (zI kd)), some (.int (zI mo)), some (.int (zI 0)), some (.int (zI 0)), some (.int (zI (0 + v10))), some (.int (zI 0)), some (.int (zI (bk + 1))), some (.int (zI ((m * 3) + bk))), some (.int (zI (((m * 3) + bk) + 3))), some (.int (zI m)), some (.int (zI 0)), some (.int (zI 1000)), some (.int (zI 1000)), some (.int (zI ((m + 1) + 1))), some (.int (zI 1000)), some (.int (zI 1000)), some (.int (zI v6))], [.int (zI (bk + 1))], es8)) i_53_47 rfl ?_
      refine x0 (r := (50, [some (.ref 132), some (.int (zI m)), some (.int (zI kd)), some (.int (zI mo)), some (.int (zI 0)), some (.int (zI 0)), some (.int (zI (0 + v10))), some (.int (zI 0)), some (.int (zI (bk + 1))), some (.int (zI ((m * 3) + bk))), some (.int (zI (((m * 3) + bk) + 3))), some (.int (zI m)), some (.int (zI 0)), some (.int (zI 1000)), some (.int (zI 1000)), some (.int (zI ((m + 1) + 1))), some (.int (zI 1000)), some (.int (zI 1000)), some (.int (zI v6))], [.ref 132, .int (zI (bk + 1))], es8)) i_53_49 rfl ?_
      refine x_getr (p := 68) (k := 117) i_53_50 hs_es8 rfl rfl ?_
      show aW _ _ _ _ _ _ (53, [some (.ref 132), some (.int (zI m)), some (.int (zI kd)), some (.int (zI mo)), some (.int (zI 0)), some (.int (zI 0)), some (.int (zI (0 + v10))), some (.int (zI 0)), some (.int (zI (bk + 1))), some (.int (zI ((m * 3) + bk))), some (.int (zI (((m * 3) + bk) + 3))), some (.int (zI m)), some (.int (zI 0)), some (.int (zI 1000)), some (.int (zI 1000)), some (.int (zI ((m + 1) + 1))), some (.int (zI 1000)), some (.int (zI 1000)), some (.int (zI v6))], [.ref 117, .int (zI (bk + 1))], es8)
      refine x_geti (p := 53) i_53_53 hs_es8 rfl rfl ?_
      rw [show (gI es8 53 1).toInt = (bk + 1) from by rw [e_es8, gI_sA, e_es4, gI_sA, e_es3, gI_sA, e_es2, gI_sA, e_es1, gI_sA]; exact hq1]
      refine x_cmpT i_53_56 (by unfold i32 iLO iHI; omega) (by unfold i32 iLO iHI; omega) rfl (by simp only [zC, cR]; omega) ?_
      refine x0 (r := (394, [some (.ref 132), some (.int (zI m)), some (.int (zI kd)), some (.int (zI mo)), some (.int (zI 0)), some (.int (zI 0)), some (.int (zI (0 + v10))), some (.int (zI 0)), some (.int (zI (bk + 1))), some (.int (zI ((m * 3) + bk))), some (.int (zI (((m * 3) + bk) + 3))), some (.int (zI m)), some (.int (zI 0)), some (.int (zI 1000)), some (.int (zI 1000)), some (.int (zI ((m + 1) + 1))), some (.int (zI 1000)), some (.int (zI 1000)), some (.int (zI v6))], [.int (zI (0 + v10))], es8)) i_53_392 rfl ?_
      refine x_ret (v := some (.int (zI (0 + v10)))) i_53_394 rfl (fun _ => rfl) rfl rfl rfl ?_
      exact K1 es1 e_es1 es2 e_es2 es3 e_es3 es4 e_es4 v5 e_v5 v6 p_v6 c7 es8 e_es8 c9 v10 e_v10
    · refine x_cmpF i_53_157 (by unfold i32 iLO iHI; omega) (by unfold i32 iLO iHI; omega) rfl (by simp only [zC, cR]; omega) ?_
      refine x0 (r := (162, [some (.ref 132), some (.int (zI m)), some (.int (zI kd)), some (.int (zI mo)), some (.int (zI 0)), some (.int (zI 0)), some (.int (zI 0)), some (.int (zI 0)), some (.int (zI bk)), some (.int (zI ((m * 3) + bk))), some (.int (zI (((m * 3) + bk) + 3))), some (.int (zI m)), some (.int (zI 0)), some (.int (zI 1000)), some (.int (zI 1000)), some (.int (zI ((m + 1) + 1))), some (.int (zI 1000)), some (.int (zI 1000)), some (.int (zI v6))], [.int (zI ((m + 1) + 1))], es8)) i_53_160 rfl ?_
      refine x0 (r := (164, [some (.ref 132), some (.int (zI m)), some (.int (zI kd)), some (.int (zI mo)), some (.int (zI 0)), some (.int (zI 0)), some (.int (zI 0)), some (.int (zI 0)), some (.int (zI bk)), some (.int (zI ((m * 3) + bk))), some (.int (zI (((m * 3) + bk) + 3))), some (.int (zI m)), some (.int (zI 0)), some (.int (zI 1000)), some (.int (zI 1000)), some (.int (zI ((m + 1) + 1))), some (.int (zI 1000)), some (.int (zI 1000)), some (.int (zI v6))], [.int (zI m), .int (zI ((m + 1) + 1))], es8)) i_53_162 rfl ?_
      refine x0 (r := (165, [some (.ref 132), some (.int (zI m)), some (.int (zI kd)), some (.int (zI mo)), some (.int (zI 0)), some (.int (zI 0)), some (.int (zI 0)), some (.int (zI 0)), some (.int (zI bk)), some (.int (zI ((m * 3) + bk))), some (.int (zI (((m * 3) + bk) + 3))), some (.int (zI m)), some (.int (zI 0)), some (.int (zI 1000)), some (.int (zI 1000)), some (.int (zI ((m + 1) + 1))), some (.int (zI 1000)), some (.int (zI 1000)), some (.int (zI v6))], [.int (zI 1), .int (zI m), .int (zI ((m + 1) + 1))], es8)) i_53_164 (by rfl) ?_
      refine x_iadd i_53_165 ?_
      refine x_cmpF i_53_166 (by unfold i32 iLO iHI; omega) (by unfold i32 iLO iHI; omega) rfl (by simp only [zC, cR]; omega) ?_
      refine x0 (r := (171, [some (.ref 132), some (.int (zI m)), some (.int (zI kd)), some (.int (zI mo)), some (.int (zI 0)), some (.int (zI 0)), some (.int (zI 0)), some (.int (zI 0)), some (.int (zI bk)), some (.int (zI ((m * 3) + bk))), some (.int (zI (((m * 3) + bk) + 3))), some (.int (zI m)), some (.int (zI 0)), some (.int (zI 1000)), some (.int (zI 1000)), some (.int (zI ((m + 1) + 1))), some (.int (zI 1000)), some (.int (zI 1000)), some (.int (zI v6))], [.int (zI 1000)], es8)) i_53_169 rfl ?_
      refine x0 (r := (174, [some (.ref 132), some (.int (zI m)), some (.int (zI kd)), some (.int (zI mo)), some (.int (zI 0)), some (.int (zI 0)), some (.int (zI 0)), some (.int (zI 0)), some (.int (zI bk)), some (.int (zI ((m * 3) + bk))), some (.int (zI (((m * 3) + bk) + 3))), some (.int (zI m)), some (.int (zI 0)), some (.int (zI 1000)), some (.int (zI 1000)), some (.int (zI ((m + 1) + 1))), some (.int (zI 1000)), some (.int (zI 1000)), some (.int (zI v6))], [.int (zI 1000), .int (zI 1000)], es8)) i_53_171 (by rfl) ?_
      refine x_cmpT i_53_174 (by unfold i32 iLO iHI; omega) (by unfold i32 iLO iHI; omega) rfl (by simp only [zC, cR]; omega) ?_
      refine x0 (r := (374, [some (.ref 132), some (.int (zI m)), some (.int (zI kd)), some (.int (zI mo)), some (.int (zI 0)), some (.int (zI 0)), some (.int (zI 0)), some (.int (zI 0)), some (.int (zI bk)), some (.int (zI ((m * 3) + bk))), some (.int (zI (((m * 3) + bk) + 3))), some (.int (zI m)), some (.int (zI 0)), some (.int (zI 1000)), some (.int (zI 1000)), some (.int (zI ((m + 1) + 1))), some (.int (zI 1000)), some (.int (zI 1000)), some (.int (zI v6))], [.int (zI 0)], es8)) i_53_372 rfl ?_
      refine x0 (r := (375, [some (.ref 132), some (.int (zI m)), some (.int (zI kd)), some (.int (zI mo)), some (.int (zI 0)), some (.int (zI 0)), some (.int (zI 0)), some (.int (zI 0)), some (.int (zI bk)), some (.int (zI ((m * 3) + bk))), some (.int (zI (((m * 3) + bk) + 3))), some (.int (zI m)), some (.int (zI 0)), some (.int (zI 1000)), some (.int (zI 1000)), some (.int (zI ((m + 1) + 1))), some (.int (zI 1000)), some (.int (zI 1000)), some (.int (zI v6))], [.ref 132, .int (zI 0)], es8)) i_53_374 rfl ?_
      refine x_getr (p := 68) (k := 136) i_53_375 hs_es8 rfl rfl ?_
      show aW _ _ _ _ _ _ (378, [some (.ref 132), some (.int (zI m)), some (.int (zI kd)), some (.int (zI mo)), some (.int (zI 0)), some (.int (zI 0)), some (.int (zI 0)), some (.int (zI 0)), some (.int (zI bk)), some (.int (zI ((m * 3) + bk))), some (.int (zI (((m * 3) + bk) + 3))), some (.int (zI m)), some (.int (zI 0)), some (.int (zI 1000)), some (.int (zI 1000)), some (.int (zI ((m + 1) + 1))), some (.int (zI 1000)), some (.int (zI 1000)), some (.int (zI v6))], [.ref 136, .int (zI 0)], es8)
      refine x0 (r := (380, [some (.ref 132), some (.int (zI m)), some (.int (zI kd)), some (.int (zI mo)), some (.int (zI 0)), some (.int (zI 0)), some (.int (zI 0)), some (.int (zI 0)), some (.int (zI bk)), some (.int (zI ((m * 3) + bk))), some (.int (zI (((m * 3) + bk) + 3))), some (.int (zI m)), some (.int (zI 0)), some (.int (zI 1000)), some (.int (zI 1000)), some (.int (zI ((m + 1) + 1))), some (.int (zI 1000)), some (.int (zI 1000)), some (.int (zI v6))], [.int (zI (((m * 3) + bk) + 3)), .ref 136, .int (zI 0)], es8)) i_53_378 rfl ?_
      refine x_call (vs := [.ref 136, .int (zI (((m * 3) + bk) + 3))]) (rs := [.int (zI 0)]) i_53_380 rfl (fun _ => rfl) rfl rfl rfl rfl rfl rfl ?_
      show aW _ _ _ _ _ _ (0, [some (.ref 136), some (.int (zI (((m * 3) + bk) + 3)))], [], es8)
      refine x0 (r := (1, [some (.ref 136), some (.int (zI (((m * 3) + bk) + 3)))], [.int (zI (((m * 3) + bk) + 3))], es8)) i_28_0 rfl ?_
      refine x_ifF i_28_1 (by unfold i32 iLO iHI; omega) rfl (by simp only [zC, cR]; omega) ?_
      refine x0 (r := (5, [some (.ref 136), some (.int (zI (((m * 3) + bk) + 3)))], [.int (zI (((m * 3) + bk) + 3))], es8)) i_28_4 rfl ?_
      refine x0 (r := (6, [some (.ref 136), some (.int (zI (((m * 3) + bk) + 3)))], [.ref 136, .int (zI (((m * 3) + bk) + 3))], es8)) i_28_5 rfl ?_
      refine x_alen (p := 72) (n := 93) i_28_6 hs_es8 rfl ?_
      refine x_cmpF i_28_7 (by unfold i32 iLO iHI; omega) (by unfold i32 iLO iHI; omega) rfl (by simp only [zC, cR]; omega) ?_
      refine x0 (r := (11, [some (.ref 136), some (.int (zI (((m * 3) + bk) + 3)))], [.ref 136], es8)) i_28_10 rfl ?_
      refine x0 (r := (12, [some (.ref 136), some (.int (zI (((m * 3) + bk) + 3)))], [.int (zI (((m * 3) + bk) + 3)), .ref 136], es8)) i_28_11 rfl ?_
      refine x_iald (p := 72) i_28_12 hs_es8 rfl (by unfold i32 iLO iHI; omega) (by omega) (by omega) ?_
      obtain ⟨v11, e_v11⟩ : ∃ z : Int, z = (gA es8 72 (((m * 3) + bk) + 3).toNat).toInt := ⟨_, rfl⟩
      rw [← e_v11]
      have r_v11 : iLO ≤ v11 ∧ v11 ≤ iHI := by rw [e_v11]; exact i32_rng _
      unfold iLO iHI at r_v11
      refine x0 (r := (17, [some (.ref 136), some (.int (zI (((m * 3) + bk) + 3)))], [.int (zI v11)], es8)) i_28_13 rfl ?_
      refine x_ret (v := some (.int (zI v11))) i_28_17 rfl (fun _ => rfl) rfl rfl rfl ?_
      show aW _ _ _ _ _ _ (383, [some (.ref 132), some (.int (zI m)), some (.int (zI kd)), some (.int (zI mo)), some (.int (zI 0)), some (.int (zI 0)), some (.int (zI 0)), some (.int (zI 0)), some (.int (zI bk)), some (.int (zI ((m * 3) + bk))), some (.int (zI (((m * 3) + bk) + 3))), some (.int (zI m)), some (.int (zI 0)), some (.int (zI 1000)), some (.int (zI 1000)), some (.int (zI ((m + 1) + 1))), some (.int (zI 1000)), some (.int (zI 1000)), some (.int (zI v6))], [.int (zI v11), .int (zI 0)], es8)
      refine x_iadd i_53_383 ?_
      refine x0 (r := (386, [some (.ref 132), some (.int (zI m)), some (.int (zI kd)), some (.int (zI mo)), some (.int (zI 0)), some (.int (zI 0)), some (.int (zI (0 + v11))), some (.int (zI 0)), some (.int (zI bk)), some (.int (zI ((m * 3) + bk))), some (.int (zI (((m * 3) + bk) + 3))), some (.int (zI m)), some (.int (zI 0)), some (.int (zI 1000)), some (.int (zI 1000)), some (.int (zI ((m + 1) + 1))), some (.int (zI 1000)), some (.int (zI 1000)), some (.int (zI v6))], [], es8)) i_53_384 rfl ?_
      refine x_iinc (x := bk) i_53_386 rfl (by show 8 < 19; decide) ?_
      show aW _ _ _ _ _ _ (389, [some (.ref 132), some (.int (zI m)), some (.int (zI kd)), some (.int (zI mo)), some (.int (zI 0)), some (.int (zI 0)), some (.int (zI (0 + v11))), some (.int (zI 0)), some (.int (zI (bk + 1))), some (.int (zI ((m * 3) + bk))), some (.int (zI (((m * 3) + bk) + 3))), some (.int (zI m)), some (.int (zI 0)), some (.int (zI 1000)), some (.int (zI 1000)), some (.int (zI ((m + 1) + 1))), some (.int (zI 1000)), some (.int (zI 1000)), some (.int (zI v6))], [], es8)
      refine x0 (r := (47, [some (.ref 132), some (.int (zI m)), some (.int (zI kd)), some (.int (zI mo)), some (.int (zI 0)), some (.int (zI 0)), some (.int (zI (0 + v11))), some (.int (zI 0)), some (.int (zI (bk + 1))), some (.int (zI ((m * 3) + bk))), some (.int (zI (((m * 3) + bk) + 3))), some (.int (zI m)), some (.int (zI 0)), some (.int (zI 1000)), some (.int (zI 1000)), some (.int (zI ((m + 1) + 1))), some (.int (zI 1000)), some (.int (zI 1000)), some (.int (zI v6))], [], es8)) i_53_389 rfl ?_
      refine x0 (r := (49, [some (.ref 132), some (.int (zI m)), some (.int (zI kd)), some (.int (zI mo)), some (.int (zI 0)), some (.int (zI 0)), some (.int (zI (0 + v11))), some (.int (zI 0)), some (.int (zI (bk + 1))), some (.int (zI ((m * 3) + bk))), some (.int (zI (((m * 3) + bk) + 3))), some (.int (zI m)), some (.int (zI 0)), some (.int (zI 1000)), some (.int (zI 1000)), some (.int (zI ((m + 1) + 1))), some (.int (zI 1000)), some (.int (zI 1000)), some (.int (zI v6))], [.int (zI (bk + 1))], es8)) i_53_47 rfl ?_
      refine x0 (r := (50, [some (.ref 132), some (.int (zI m)), some (.int (zI kd)), some (.int (zI mo)), some (.int (zI 0)), some (.int (zI 0)), some (.int (zI (0 + v11))), some (.int (zI 0)), some (.int (zI (bk + 1))), some (.int (zI ((m * 3) + bk))), some (.int (zI (((m * 3) + bk) + 3))), some (.int (zI m)), some (.int (zI 0)), some (.int (zI 1000)), some (.int (zI 1000)), some (.int (zI ((m + 1) + 1))), some (.int (zI 1000)), some (.int (zI 1000)), some (.int (zI v6))], [.ref 132, .int (zI (bk + 1))], es8)) i_53_49 rfl ?_
      refine x_getr (p := 68) (k := 117) i_53_50 hs_es8 rfl rfl ?_
      show aW _ _ _ _ _ _ (53, [some (.ref 132), some (.int (zI m)), some (.int (zI kd)), some (.int (zI mo)), some (.int (zI 0)), some (.int (zI 0)), some (.int (zI (0 + v11))), some (.int (zI 0)), some (.int (zI (bk + 1))), some (.int (zI ((m * 3) + bk))), some (.int (zI (((m * 3) + bk) + 3))), some (.int (zI m)), some (.int (zI 0)), some (.int (zI 1000)), some (.int (zI 1000)), some (.int (zI ((m + 1) + 1))), some (.int (zI 1000)), some (.int (zI 1000)), some (.int (zI v6))], [.ref 117, .int (zI (bk + 1))], es8)
      refine x_geti (p := 53) i_53_53 hs_es8 rfl rfl ?_
      rw [show (gI es8 53 1).toInt = (bk + 1) from by rw [e_es8, gI_sA, e_es4, gI_sA, e_es3, gI_sA, e_es2, gI_sA, e_es1, gI_sA]; exact hq1]
      refine x_cmpT i_53_56 (by unfold i32 iLO iHI; omega) (by unfold i32 iLO iHI; omega) rfl (by simp only [zC, cR]; omega) ?_
      refine x0 (r := (394, [some (.ref 132), some (.int (zI m)), some (.int (zI kd)), some (.int (zI mo)), some (.int (zI 0)), some (.int (zI 0)), some (.int (zI (0 + v11))), some (.int (zI 0)), some (.int (zI (bk + 1))), some (.int (zI ((m * 3) + bk))), some (.int (zI (((m * 3) + bk) + 3))), some (.int (zI m)), some (.int (zI 0)), some (.int (zI 1000)), some (.int (zI 1000)), some (.int (zI ((m + 1) + 1))), some (.int (zI 1000)), some (.int (zI 1000)), some (.int (zI v6))], [.int (zI (0 + v11))], es8)) i_53_392 rfl ?_
      refine x_ret (v := some (.int (zI (0 + v11)))) i_53_394 rfl (fun _ => rfl) rfl rfl rfl ?_
      exact K2 es1 e_es1 es2 e_es2 es3 e_es3 es4 e_es4 v5 e_v5 v6 p_v6 c7 es8 e_es8 c9 v11 e_v11
  · refine x_cmpF i_53_257 (by unfold i32 iLO iHI; omega) (by unfold i32 iLO iHI; omega) rfl (by simp only [zC, cR]; omega) ?_
    refine x0 (r := (262, [some (.ref 132), some (.int (zI m)), some (.int (zI kd)), some (.int (zI mo)), some (.int (zI 0)), some (.int (zI 0)), some (.int (zI 0)), some (.int (zI 0)), some (.int (zI bk)), some (.int (zI ((m * 3) + bk))), some (.int (zI (((m * 3) + bk) + 3))), some (.int (zI m)), some (.int (zI 0)), some (.int (zI 0)), some (.int (zI 1000)), some (.int (zI (m + 1))), some (.int (zI 1000)), some (.int (zI 1000)), some (.int (zI v6))], [.int (zI 1000)], es4)) i_53_260 rfl ?_
    refine x0 (r := (264, [some (.ref 132), some (.int (zI m)), some (.int (zI kd)), some (.int (zI mo)), some (.int (zI 0)), some (.int (zI 0)), some (.int (zI 0)), some (.int (zI 0)), some (.int (zI bk)), some (.int (zI ((m * 3) + bk))), some (.int (zI (((m * 3) + bk) + 3))), some (.int (zI m)), some (.int (zI 0)), some (.int (zI 0)), some (.int (zI 1000)), some (.int (zI (m + 1))), some (.int (zI 1000)), some (.int (zI 1000)), some (.int (zI v6))], [.int (zI 0), .int (zI 1000)], es4)) i_53_262 rfl ?_
    refine x0 (r := (265, [some (.ref 132), some (.int (zI m)), some (.int (zI kd)), some (.int (zI mo)), some (.int (zI 0)), some (.int (zI 0)), some (.int (zI 0)), some (.int (zI 0)), some (.int (zI bk)), some (.int (zI ((m * 3) + bk))), some (.int (zI (((m * 3) + bk) + 3))), some (.int (zI m)), some (.int (zI 0)), some (.int (zI 0)), some (.int (zI 1000)), some (.int (zI (m + 1))), some (.int (zI 1000)), some (.int (zI 1000)), some (.int (zI v6))], [.ref 132, .int (zI 0), .int (zI 1000)], es4)) i_53_264 rfl ?_
    refine x_getr (p := 68) (k := 117) i_53_265 hs_es4 rfl rfl ?_
    show aW _ _ _ _ _ _ (268, [some (.ref 132), some (.int (zI m)), some (.int (zI kd)), some (.int (zI mo)), some (.int (zI 0)), some (.int (zI 0)), some (.int (zI 0)), some (.int (zI 0)), some (.int (zI bk)), some (.int (zI ((m * 3) + bk))), some (.int (zI (((m * 3) + bk) + 3))), some (.int (zI m)), some (.int (zI 0)), some (.int (zI 0)), some (.int (zI 1000)), some (.int (zI (m + 1))), some (.int (zI 1000)), some (.int (zI 1000)), some (.int (zI v6))], [.ref 117, .int (zI 0), .int (zI 1000)], es4)
    refine x_getr (p := 53) (k := 119) i_53_268 hs_es4 rfl rfl ?_
    show aW _ _ _ _ _ _ (271, [some (.ref 132), some (.int (zI m)), some (.int (zI kd)), some (.int (zI mo)), some (.int (zI 0)), some (.int (zI 0)), some (.int (zI 0)), some (.int (zI 0)), some (.int (zI bk)), some (.int (zI ((m * 3) + bk))), some (.int (zI (((m * 3) + bk) + 3))), some (.int (zI m)), some (.int (zI 0)), some (.int (zI 0)), some (.int (zI 1000)), some (.int (zI (m + 1))), some (.int (zI 1000)), some (.int (zI 1000)), some (.int (zI v6))], [.ref 119, .int (zI 0), .int (zI 1000)], es4)
    refine x0 (r := (273, [some (.ref 132), some (.int (zI m)), some (.int (zI kd)), some (.int (zI mo)), some (.int (zI 0)), some (.int (zI 0)), some (.int (zI 0)), some (.int (zI 0)), some (.int (zI bk)), some (.int (zI ((m * 3) + bk))), some (.int (zI (((m * 3) + bk) + 3))), some (.int (zI m)), some (.int (zI 0)), some (.int (zI 0)), some (.int (zI 1000)), some (.int (zI (m + 1))), some (.int (zI 1000)), some (.int (zI 1000)), some (.int (zI v6))], [.int (zI v6), .ref 119, .int (zI 0), .int (zI 1000)], es4)) i_53_271 rfl ?_
    refine x_call (vs := [.ref 119, .int (zI v6)]) (rs := [.int (zI 0), .int (zI 1000)]) i_53_273 rfl (fun _ => rfl) rfl rfl rfl rfl rfl rfl ?_
    show aW _ _ _ _ _ _ (0, [some (.ref 119), some (.int (zI v6))], [], es4)
    refine x0 (r := (1, [some (.ref 119), some (.int (zI v6))], [.int (zI v6)], es4)) i_28_0 rfl ?_
    refine x_ifF i_28_1 (by unfold i32 iLO iHI; omega) rfl (by simp only [zC, cR]; omega) ?_
    refine x0 (r := (5, [some (.ref 119), some (.int (zI v6))], [.int (zI v6)], es4)) i_28_4 rfl ?_
    refine x0 (r := (6, [some (.ref 119), some (.int (zI v6))], [.ref 119, .int (zI v6)], es4)) i_28_5 rfl ?_
    refine x_alen (p := 55) (n := 8) i_28_6 hs_es4 rfl ?_
    refine x_cmpF i_28_7 (by unfold i32 iLO iHI; omega) (by unfold i32 iLO iHI; omega) rfl (by simp only [zC, cR]; omega) ?_
    refine x0 (r := (11, [some (.ref 119), some (.int (zI v6))], [.ref 119], es4)) i_28_10 rfl ?_
    refine x0 (r := (12, [some (.ref 119), some (.int (zI v6))], [.int (zI v6), .ref 119], es4)) i_28_11 rfl ?_
    refine x_iald (p := 55) i_28_12 hs_es4 rfl (by unfold i32 iLO iHI; omega) (by omega) (by omega) ?_
    rw [show (gA es4 55 v6.toNat).toInt = 0 from by rw [e_es4, gA_sA_ne (by decide), e_es3, gA_sA_ne (by decide), e_es2, gA_sA_ne (by decide), e_es1, gA_sA_ne (by decide)]; exact (hpo _ (by omega))]
    refine x0 (r := (17, [some (.ref 119), some (.int (zI v6))], [.int (zI 0)], es4)) i_28_13 rfl ?_
    refine x_ret (v := some (.int (zI 0))) i_28_17 rfl (fun _ => rfl) rfl rfl rfl ?_
    show aW _ _ _ _ _ _ (276, [some (.ref 132), some (.int (zI m)), some (.int (zI kd)), some (.int (zI mo)), some (.int (zI 0)), some (.int (zI 0)), some (.int (zI 0)), some (.int (zI 0)), some (.int (zI bk)), some (.int (zI ((m * 3) + bk))), some (.int (zI (((m * 3) + bk) + 3))), some (.int (zI m)), some (.int (zI 0)), some (.int (zI 0)), some (.int (zI 1000)), some (.int (zI (m + 1))), some (.int (zI 1000)), some (.int (zI 1000)), some (.int (zI v6))], [.int (zI 0), .int (zI 0), .int (zI 1000)], es4)
    refine x_iadd i_53_276 ?_
    show aW _ _ _ _ _ _ (277, [some (.ref 132), some (.int (zI m)), some (.int (zI kd)), some (.int (zI mo)), some (.int (zI 0)), some (.int (zI 0)), some (.int (zI 0)), some (.int (zI 0)), some (.int (zI bk)), some (.int (zI ((m * 3) + bk))), some (.int (zI (((m * 3) + bk) + 3))), some (.int (zI m)), some (.int (zI 0)), some (.int (zI 0)), some (.int (zI 1000)), some (.int (zI (m + 1))), some (.int (zI 1000)), some (.int (zI 1000)), some (.int (zI v6))], [.int (zI 0), .int (zI 1000)], es4)
    refine x_min i_53_277 (by unfold i32 iLO iHI; omega) (by unfold i32 iLO iHI; omega) (Nat.le_of_ble_eq_true rfl) ?_
    show aW _ _ _ _ _ _ (280, [some (.ref 132), some (.int (zI m)), some (.int (zI kd)), some (.int (zI mo)), some (.int (zI 0)), some (.int (zI 0)), some (.int (zI 0)), some (.int (zI 0)), some (.int (zI bk)), some (.int (zI ((m * 3) + bk))), some (.int (zI (((m * 3) + bk) + 3))), some (.int (zI m)), some (.int (zI 0)), some (.int (zI 0)), some (.int (zI 1000)), some (.int (zI (m + 1))), some (.int (zI 1000)), some (.int (zI 1000)), some (.int (zI v6))], [.int (zI 0)], es4)
    refine x0 (r := (282, [some (.ref 132), some (.int (zI m)), some (.int (zI kd)), some (.int (zI mo)), some (.int (zI 0)), some (.int (zI 0)), some (.int (zI 0)), some (.int (zI 0)), some (.int (zI bk)), some (.int (zI ((m * 3) + bk))), some (.int (zI (((m * 3) + bk) + 3))), some (.int (zI m)), some (.int (zI 0)), some (.int (zI 0)), some (.int (zI 1000)), some (.int (zI (m + 1))), some (.int (zI 1000)), some (.int (zI 0)), some (.int (zI v6))], [], es4)) i_53_280 rfl ?_
    refine x0 (r := (284, [some (.ref 132), some (.int (zI m)), some (.int (zI kd)), some (.int (zI mo)), some (.int (zI 0)), some (.int (zI 0)), some (.int (zI 0)), some (.int (zI 0)), some (.int (zI bk)), some (.int (zI ((m * 3) + bk))), some (.int (zI (((m * 3) + bk) + 3))), some (.int (zI m)), some (.int (zI 0)), some (.int (zI 0)), some (.int (zI 1000)), some (.int (zI (m + 1))), some (.int (zI 1000)), some (.int (zI 0)), some (.int (zI v6))], [.int (zI 1000)], es4)) i_53_282 rfl ?_
    refine x0 (r := (287, [some (.ref 132), some (.int (zI m)), some (.int (zI kd)), some (.int (zI mo)), some (.int (zI 0)), some (.int (zI 0)), some (.int (zI 0)), some (.int (zI 0)), some (.int (zI bk)), some (.int (zI ((m * 3) + bk))), some (.int (zI (((m * 3) + bk) + 3))), some (.int (zI m)), some (.int (zI 0)), some (.int (zI 0)), some (.int (zI 1000)), some (.int (zI (m + 1))), some (.int (zI 1000)), some (.int (zI 0)), some (.int (zI v6))], [.int (zI 1000), .int (zI 1000)], es4)) i_53_284 (by rfl) ?_
    refine x_cmpT i_53_287 (by unfold i32 iLO iHI; omega) (by unfold i32 iLO iHI; omega) rfl (by simp only [zC, cR]; omega) ?_
    refine x0 (r := (337, [some (.ref 132), some (.int (zI m)), some (.int (zI kd)), some (.int (zI mo)), some (.int (zI 0)), some (.int (zI 0)), some (.int (zI 0)), some (.int (zI 0)), some (.int (zI bk)), some (.int (zI ((m * 3) + bk))), some (.int (zI (((m * 3) + bk) + 3))), some (.int (zI m)), some (.int (zI 0)), some (.int (zI 0)), some (.int (zI 1000)), some (.int (zI (m + 1))), some (.int (zI 1000)), some (.int (zI 0)), some (.int (zI v6))], [.int (zI 1000)], es4)) i_53_335 rfl ?_
    refine x0 (r := (339, [some (.ref 132), some (.int (zI m)), some (.int (zI kd)), some (.int (zI mo)), some (.int (zI 0)), some (.int (zI 0)), some (.int (zI 0)), some (.int (zI 0)), some (.int (zI bk)), some (.int (zI ((m * 3) + bk))), some (.int (zI (((m * 3) + bk) + 3))), some (.int (zI m)), some (.int (zI 0)), some (.int (zI 1000)), some (.int (zI 1000)), some (.int (zI (m + 1))), some (.int (zI 1000)), some (.int (zI 0)), some (.int (zI v6))], [], es4)) i_53_337 rfl ?_
    refine x0 (r := (341, [some (.ref 132), some (.int (zI m)), some (.int (zI kd)), some (.int (zI mo)), some (.int (zI 0)), some (.int (zI 0)), some (.int (zI 0)), some (.int (zI 0)), some (.int (zI bk)), some (.int (zI ((m * 3) + bk))), some (.int (zI (((m * 3) + bk) + 3))), some (.int (zI m)), some (.int (zI 0)), some (.int (zI 1000)), some (.int (zI 1000)), some (.int (zI (m + 1))), some (.int (zI 1000)), some (.int (zI 0)), some (.int (zI v6))], [.int (zI 0)], es4)) i_53_339 rfl ?_
    refine x0 (r := (343, [some (.ref 132), some (.int (zI m)), some (.int (zI kd)), some (.int (zI mo)), some (.int (zI 0)), some (.int (zI 0)), some (.int (zI 0)), some (.int (zI 0)), some (.int (zI bk)), some (.int (zI ((m * 3) + bk))), some (.int (zI (((m * 3) + bk) + 3))), some (.int (zI m)), some (.int (zI 0)), some (.int (zI 1000)), some (.int (zI 1000)), some (.int (zI (m + 1))), some (.int (zI 1000)), some (.int (zI 0)), some (.int (zI v6))], [.int (zI 0), .int (zI 0)], es4)) i_53_341 rfl ?_
    refine x_cmpT i_53_343 (by unfold i32 iLO iHI; omega) (by unfold i32 iLO iHI; omega) rfl (by simp only [zC, cR]; omega) ?_
    refine x0 (r := (354, [some (.ref 132), some (.int (zI m)), some (.int (zI kd)), some (.int (zI mo)), some (.int (zI 0)), some (.int (zI 0)), some (.int (zI 0)), some (.int (zI 0)), some (.int (zI bk)), some (.int (zI ((m * 3) + bk))), some (.int (zI (((m * 3) + bk) + 3))), some (.int (zI m)), some (.int (zI 0)), some (.int (zI 1000)), some (.int (zI 1000)), some (.int (zI (m + 1))), some (.int (zI 1000)), some (.int (zI 0)), some (.int (zI v6))], [.int (zI 0)], es4)) i_53_352 rfl ?_
    refine x0 (r := (356, [some (.ref 132), some (.int (zI m)), some (.int (zI kd)), some (.int (zI mo)), some (.int (zI 0)), some (.int (zI 0)), some (.int (zI 0)), some (.int (zI 0)), some (.int (zI bk)), some (.int (zI ((m * 3) + bk))), some (.int (zI (((m * 3) + bk) + 3))), some (.int (zI m)), some (.int (zI 0)), some (.int (zI 1000)), some (.int (zI 0)), some (.int (zI (m + 1))), some (.int (zI 1000)), some (.int (zI 0)), some (.int (zI v6))], [], es4)) i_53_354 rfl ?_
    refine x0 (r := (357, [some (.ref 132), some (.int (zI m)), some (.int (zI kd)), some (.int (zI mo)), some (.int (zI 0)), some (.int (zI 0)), some (.int (zI 0)), some (.int (zI 0)), some (.int (zI bk)), some (.int (zI ((m * 3) + bk))), some (.int (zI (((m * 3) + bk) + 3))), some (.int (zI m)), some (.int (zI 0)), some (.int (zI 1000)), some (.int (zI 0)), some (.int (zI (m + 1))), some (.int (zI 1000)), some (.int (zI 0)), some (.int (zI v6))], [.ref 132], es4)) i_53_356 rfl ?_
    refine x0 (r := (359, [some (.ref 132), some (.int (zI m)), some (.int (zI kd)), some (.int (zI mo)), some (.int (zI 0)), some (.int (zI 0)), some (.int (zI 0)), some (.int (zI 0)), some (.int (zI bk)), some (.int (zI ((m * 3) + bk))), some (.int (zI (((m * 3) + bk) + 3))), some (.int (zI m)), some (.int (zI 0)), some (.int (zI 1000)), some (.int (zI 0)), some (.int (zI (m + 1))), some (.int (zI 1000)), some (.int (zI 0)), some (.int (zI v6))], [.int (zI (((m * 3) + bk) + 3)), .ref 132], es4)) i_53_357 rfl ?_
    refine x0 (r := (361, [some (.ref 132), some (.int (zI m)), some (.int (zI kd)), some (.int (zI mo)), some (.int (zI 0)), some (.int (zI 0)), some (.int (zI 0)), some (.int (zI 0)), some (.int (zI bk)), some (.int (zI ((m * 3) + bk))), some (.int (zI (((m * 3) + bk) + 3))), some (.int (zI m)), some (.int (zI 0)), some (.int (zI 1000)), some (.int (zI 0)), some (.int (zI (m + 1))), some (.int (zI 1000)), some (.int (zI 0)), some (.int (zI v6))], [.int (zI (m + 1)), .int (zI (((m * 3) + bk) + 3)), .ref 132], es4)) i_53_359 rfl ?_
    refine x0 (r := (363, [some (.ref 132), some (.int (zI m)), some (.int (zI kd)), some (.int (zI mo)), some (.int (zI 0)), some (.int (zI 0)), some (.int (zI 0)), some (.int (zI 0)), some (.int (zI bk)), some (.int (zI ((m * 3) + bk))), some (.int (zI (((m * 3) + bk) + 3))), some (.int (zI m)), some (.int (zI 0)), some (.int (zI 1000)), some (.int (zI 0)), some (.int (zI (m + 1))), some (.int (zI 1000)), some (.int (zI 0)), some (.int (zI v6))], [.int (zI 0), .int (zI (m + 1)), .int (zI (((m * 3) + bk) + 3)), .ref 132], es4)) i_53_361 rfl ?_
    refine x_call (vs := [.ref 132, .int (zI (((m * 3) + bk) + 3)), .int (zI (m + 1)), .int (zI 0)]) (rs := []) i_53_363 rfl (fun _ => rfl) rfl rfl rfl rfl rfl (pCall_v (p := 68) hs_es4 rfl rfl rfl rfl rfl (by decide) rfl rfl rfl rfl rfl) ?_
    show aW _ _ _ _ _ _ (0, [some (.ref 132), some (.int (zI (((m * 3) + bk) + 3))), some (.int (zI (m + 1))), some (.int (zI 0))], [], es4)
    refine x0 (r := (1, [some (.ref 132), some (.int (zI (((m * 3) + bk) + 3))), some (.int (zI (m + 1))), some (.int (zI 0))], [.ref 132], es4)) i_27_0 rfl ?_
    refine x_getr (p := 68) (k := 133) i_27_1 hs_es4 rfl rfl ?_
    show aW _ _ _ _ _ _ (4, [some (.ref 132), some (.int (zI (((m * 3) + bk) + 3))), some (.int (zI (m + 1))), some (.int (zI 0))], [.ref 133], es4)
    refine x0 (r := (5, [some (.ref 132), some (.int (zI (((m * 3) + bk) + 3))), some (.int (zI (m + 1))), some (.int (zI 0))], [.int (zI (((m * 3) + bk) + 3)), .ref 133], es4)) i_27_4 rfl ?_
    refine x0 (r := (7, [some (.ref 132), some (.int (zI (((m * 3) + bk) + 3))), some (.int (zI (m + 1))), some (.int (zI 0))], [.int (zI 25), .int (zI (((m * 3) + bk) + 3)), .ref 133], es4)) i_27_5 (by rfl) ?_
    refine x_imul i_27_7 ?_
    refine x0 (r := (9, [some (.ref 132), some (.int (zI (((m * 3) + bk) + 3))), some (.int (zI (m + 1))), some (.int (zI 0))], [.int (zI (m + 1)), .int (zI ((((m * 3) + bk) + 3) * 25)), .ref 133], es4)) i_27_8 rfl ?_
    refine x_iadd i_27_9 ?_
    refine x0 (r := (11, [some (.ref 132), some (.int (zI (((m * 3) + bk) + 3))), some (.int (zI (m + 1))), some (.int (zI 0))], [.int (zI 0), .int (zI (((((m * 3) + bk) + 3) * 25) + (m + 1))), .ref 133], es4)) i_27_10 rfl ?_
    refine x_call (vs := [.ref 133, .int (zI (((((m * 3) + bk) + 3) * 25) + (m + 1))), .int (zI 0)]) (rs := []) i_27_11 rfl (fun _ => rfl) rfl rfl rfl rfl rfl rfl ?_
    show aW _ _ _ _ _ _ (0, [some (.ref 133), some (.int (zI (((((m * 3) + bk) + 3) * 25) + (m + 1)))), some (.int (zI 0))], [], es4)
    refine x0 (r := (1, [some (.ref 133), some (.int (zI (((((m * 3) + bk) + 3) * 25) + (m + 1)))), some (.int (zI 0))], [.int (zI (((((m * 3) + bk) + 3) * 25) + (m + 1)))], es4)) i_14_0 rfl ?_
    refine x_ifF i_14_1 (by unfold i32 iLO iHI; omega) rfl (by simp only [zC, cR]; omega) ?_
    refine x0 (r := (5, [some (.ref 133), some (.int (zI (((((m * 3) + bk) + 3) * 25) + (m + 1)))), some (.int (zI 0))], [.int (zI (((((m * 3) + bk) + 3) * 25) + (m + 1)))], es4)) i_14_4 rfl ?_
    refine x0 (r := (6, [some (.ref 133), some (.int (zI (((((m * 3) + bk) + 3) * 25) + (m + 1)))), some (.int (zI 0))], [.ref 133, .int (zI (((((m * 3) + bk) + 3) * 25) + (m + 1)))], es4)) i_14_5 rfl ?_
    refine x_alen (p := 69) (n := 2325) i_14_6 hs_es4 rfl ?_
    refine x_cmpF i_14_7 (by unfold i32 iLO iHI; omega) (by unfold i32 iLO iHI; omega) rfl (by simp only [zC, cR]; omega) ?_
    refine x0 (r := (11, [some (.ref 133), some (.int (zI (((((m * 3) + bk) + 3) * 25) + (m + 1)))), some (.int (zI 0))], [.ref 133], es4)) i_14_10 rfl ?_
    refine x0 (r := (12, [some (.ref 133), some (.int (zI (((((m * 3) + bk) + 3) * 25) + (m + 1)))), some (.int (zI 0))], [.int (zI (((((m * 3) + bk) + 3) * 25) + (m + 1))), .ref 133], es4)) i_14_11 rfl ?_
    refine x0 (r := (13, [some (.ref 133), some (.int (zI (((((m * 3) + bk) + 3) * 25) + (m + 1)))), some (.int (zI 0))], [.int (zI 0), .int (zI (((((m * 3) + bk) + 3) * 25) + (m + 1))), .ref 133], es4)) i_14_12 rfl ?_
    refine x_iast (p := 69) i_14_13 hs_es4 rfl (by unfold i32 iLO iHI; omega) (by omega) (by omega) ?_
    obtain ⟨es12, e_es12⟩ : ∃ z : PH, z = sA es4 69 (((((m * 3) + bk) + 3) * 25) + (m + 1)).toNat (zI 0) := ⟨_, rfl⟩
    have hs_es12 : sh es12 := by rw [e_es12]; exact sh_sA hs_es4
    rw [← e_es12]
    refine x_ret (v := none) i_14_14 rfl (fun _ => rfl) rfl rfl rfl ?_
    show aW _ _ _ _ _ _ (14, [some (.ref 132), some (.int (zI (((m * 3) + bk) + 3))), some (.int (zI (m + 1))), some (.int (zI 0))], [], es12)
    refine x0 (r := (15, [some (.ref 132), some (.int (zI (((m * 3) + bk) + 3))), some (.int (zI (m + 1))), some (.int (zI 0))], [.int (zI 0)], es12)) i_27_14 rfl ?_
    refine x0 (r := (18, [some (.ref 132), some (.int (zI (((m * 3) + bk) + 3))), some (.int (zI (m + 1))), some (.int (zI 0))], [.int (zI 1000), .int (zI 0)], es12)) i_27_15 (by rfl) ?_
    refine x_cmpF i_27_18 (by unfold i32 iLO iHI; omega) (by unfold i32 iLO iHI; omega) rfl (by simp only [zC, cR]; omega) ?_
    refine x0 (r := (22, [some (.ref 132), some (.int (zI (((m * 3) + bk) + 3))), some (.int (zI (m + 1))), some (.int (zI 0))], [.ref 132], es12)) i_27_21 rfl ?_
    refine x_getr (p := 68) (k := 134) i_27_22 hs_es12 rfl rfl ?_
    show aW _ _ _ _ _ _ (25, [some (.ref 132), some (.int (zI (((m * 3) + bk) + 3))), some (.int (zI (m + 1))), some (.int (zI 0))], [.ref 134], es12)
    refine x0 (r := (26, [some (.ref 132), some (.int (zI (((m * 3) + bk) + 3))), some (.int (zI (m + 1))), some (.int (zI 0))], [.int (zI (((m * 3) + bk) + 3)), .ref 134], es12)) i_27_25 rfl ?_
    refine x0 (r := (27, [some (.ref 132), some (.int (zI (((m * 3) + bk) + 3))), some (.int (zI (m + 1))), some (.int (zI 0))], [.ref 132, .int (zI (((m * 3) + bk) + 3)), .ref 134], es12)) i_27_26 rfl ?_
    refine x_getr (p := 68) (k := 134) i_27_27 hs_es12 rfl rfl ?_
    show aW _ _ _ _ _ _ (30, [some (.ref 132), some (.int (zI (((m * 3) + bk) + 3))), some (.int (zI (m + 1))), some (.int (zI 0))], [.ref 134, .int (zI (((m * 3) + bk) + 3)), .ref 134], es12)
    refine x0 (r := (31, [some (.ref 132), some (.int (zI (((m * 3) + bk) + 3))), some (.int (zI (m + 1))), some (.int (zI 0))], [.int (zI (((m * 3) + bk) + 3)), .ref 134, .int (zI (((m * 3) + bk) + 3)), .ref 134], es12)) i_27_30 rfl ?_
    refine x_call (vs := [.ref 134, .int (zI (((m * 3) + bk) + 3))]) (rs := [.int (zI (((m * 3) + bk) + 3)), .ref 134]) i_27_31 rfl (fun _ => rfl) rfl rfl rfl rfl rfl rfl ?_
    show aW _ _ _ _ _ _ (0, [some (.ref 134), some (.int (zI (((m * 3) + bk) + 3)))], [], es12)
    refine x0 (r := (1, [some (.ref 134), some (.int (zI (((m * 3) + bk) + 3)))], [.int (zI (((m * 3) + bk) + 3))], es12)) i_28_0 rfl ?_
    refine x_ifF i_28_1 (by unfold i32 iLO iHI; omega) rfl (by simp only [zC, cR]; omega) ?_
    refine x0 (r := (5, [some (.ref 134), some (.int (zI (((m * 3) + bk) + 3)))], [.int (zI (((m * 3) + bk) + 3))], es12)) i_28_4 rfl ?_
    refine x0 (r := (6, [some (.ref 134), some (.int (zI (((m * 3) + bk) + 3)))], [.ref 134, .int (zI (((m * 3) + bk) + 3))], es12)) i_28_5 rfl ?_
    refine x_alen (p := 70) (n := 93) i_28_6 hs_es12 rfl ?_
    refine x_cmpF i_28_7 (by unfold i32 iLO iHI; omega) (by unfold i32 iLO iHI; omega) rfl (by simp only [zC, cR]; omega) ?_
    refine x0 (r := (11, [some (.ref 134), some (.int (zI (((m * 3) + bk) + 3)))], [.ref 134], es12)) i_28_10 rfl ?_
    refine x0 (r := (12, [some (.ref 134), some (.int (zI (((m * 3) + bk) + 3)))], [.int (zI (((m * 3) + bk) + 3)), .ref 134], es12)) i_28_11 rfl ?_
    refine x_iald (p := 70) i_28_12 hs_es12 rfl (by unfold i32 iLO iHI; omega) (by omega) (by omega) ?_
    obtain ⟨v13, e_v13⟩ : ∃ z : Int, z = (gA es12 70 (((m * 3) + bk) + 3).toNat).toInt := ⟨_, rfl⟩
    rw [← e_v13]
    have r_v13 : iLO ≤ v13 ∧ v13 ≤ iHI := by rw [e_v13]; exact i32_rng _
    unfold iLO iHI at r_v13
    refine x0 (r := (17, [some (.ref 134), some (.int (zI (((m * 3) + bk) + 3)))], [.int (zI v13)], es12)) i_28_13 rfl ?_
    refine x_ret (v := some (.int (zI v13))) i_28_17 rfl (fun _ => rfl) rfl rfl rfl ?_
    show aW _ _ _ _ _ _ (34, [some (.ref 132), some (.int (zI (((m * 3) + bk) + 3))), some (.int (zI (m + 1))), some (.int (zI 0))], [.int (zI v13), .int (zI (((m * 3) + bk) + 3)), .ref 134], es12)
    refine x0 (r := (35, [some (.ref 132), some (.int (zI (((m * 3) + bk) + 3))), some (.int (zI (m + 1))), some (.int (zI 0))], [.int (zI (m + 1)), .int (zI v13), .int (zI (((m * 3) + bk) + 3)), .ref 134], es12)) i_27_34 rfl ?_
    refine x_min i_27_35 (by unfold i32 iLO iHI; omega) (by unfold i32 iLO iHI; omega) (Nat.le_of_ble_eq_true rfl) ?_
    obtain ⟨v14, e_v14⟩ : ∃ z : Int, z = min v13 (m + 1) := ⟨_, rfl⟩
    rw [← e_v14]
    refine x_call (vs := [.ref 134, .int (zI (((m * 3) + bk) + 3)), .int (zI v14)]) (rs := []) i_27_38 rfl (fun _ => rfl) rfl rfl rfl rfl rfl rfl ?_
    show aW _ _ _ _ _ _ (0, [some (.ref 134), some (.int (zI (((m * 3) + bk) + 3))), some (.int (zI v14))], [], es12)
    refine x0 (r := (1, [some (.ref 134), some (.int (zI (((m * 3) + bk) + 3))), some (.int (zI v14))], [.int (zI (((m * 3) + bk) + 3))], es12)) i_14_0 rfl ?_
    refine x_ifF i_14_1 (by unfold i32 iLO iHI; omega) rfl (by simp only [zC, cR]; omega) ?_
    refine x0 (r := (5, [some (.ref 134), some (.int (zI (((m * 3) + bk) + 3))), some (.int (zI v14))], [.int (zI (((m * 3) + bk) + 3))], es12)) i_14_4 rfl ?_
    refine x0 (r := (6, [some (.ref 134), some (.int (zI (((m * 3) + bk) + 3))), some (.int (zI v14))], [.ref 134, .int (zI (((m * 3) + bk) + 3))], es12)) i_14_5 rfl ?_
    refine x_alen (p := 70) (n := 93) i_14_6 hs_es12 rfl ?_
    refine x_cmpF i_14_7 (by unfold i32 iLO iHI; omega) (by unfold i32 iLO iHI; omega) rfl (by simp only [zC, cR]; omega) ?_
    refine x0 (r := (11, [some (.ref 134), some (.int (zI (((m * 3) + bk) + 3))), some (.int (zI v14))], [.ref 134], es12)) i_14_10 rfl ?_
    refine x0 (r := (12, [some (.ref 134), some (.int (zI (((m * 3) + bk) + 3))), some (.int (zI v14))], [.int (zI (((m * 3) + bk) + 3)), .ref 134], es12)) i_14_11 rfl ?_
    refine x0 (r := (13, [some (.ref 134), some (.int (zI (((m * 3) + bk) + 3))), some (.int (zI v14))], [.int (zI v14), .int (zI (((m * 3) + bk) + 3)), .ref 134], es12)) i_14_12 rfl ?_
    refine x_iast (p := 70) i_14_13 hs_es12 rfl (by unfold i32 iLO iHI; omega) (by omega) (by omega) ?_
    obtain ⟨es15, e_es15⟩ : ∃ z : PH, z = sA es12 70 (((m * 3) + bk) + 3).toNat (zI v14) := ⟨_, rfl⟩
    have hs_es15 : sh es15 := by rw [e_es15]; exact sh_sA hs_es12
    rw [← e_es15]
    refine x_ret (v := none) i_14_14 rfl (fun _ => rfl) rfl rfl rfl ?_
    show aW _ _ _ _ _ _ (41, [some (.ref 132), some (.int (zI (((m * 3) + bk) + 3))), some (.int (zI (m + 1))), some (.int (zI 0))], [], es15)
    refine x0 (r := (42, [some (.ref 132), some (.int (zI (((m * 3) + bk) + 3))), some (.int (zI (m + 1))), some (.int (zI 0))], [.ref 132], es15)) i_27_41 rfl ?_
    refine x_getr (p := 68) (k := 135) i_27_42 hs_es15 rfl rfl ?_
    show aW _ _ _ _ _ _ (45, [some (.ref 132), some (.int (zI (((m * 3) + bk) + 3))), some (.int (zI (m + 1))), some (.int (zI 0))], [.ref 135], es15)
    refine x0 (r := (46, [some (.ref 132), some (.int (zI (((m * 3) + bk) + 3))), some (.int (zI (m + 1))), some (.int (zI 0))], [.int (zI (((m * 3) + bk) + 3)), .ref 135], es15)) i_27_45 rfl ?_
    refine x0 (r := (47, [some (.ref 132), some (.int (zI (((m * 3) + bk) + 3))), some (.int (zI (m + 1))), some (.int (zI 0))], [.int (zI (m + 1)), .int (zI (((m * 3) + bk) + 3)), .ref 135], es15)) i_27_46 rfl ?_
    refine x_call (vs := [.ref 135, .int (zI (((m * 3) + bk) + 3)), .int (zI (m + 1))]) (rs := []) i_27_47 rfl (fun _ => rfl) rfl rfl rfl rfl rfl rfl ?_
    show aW _ _ _ _ _ _ (0, [some (.ref 135), some (.int (zI (((m * 3) + bk) + 3))), some (.int (zI (m + 1)))], [], es15)
    refine x0 (r := (1, [some (.ref 135), some (.int (zI (((m * 3) + bk) + 3))), some (.int (zI (m + 1)))], [.int (zI (((m * 3) + bk) + 3))], es15)) i_14_0 rfl ?_
    refine x_ifF i_14_1 (by unfold i32 iLO iHI; omega) rfl (by simp only [zC, cR]; omega) ?_
    refine x0 (r := (5, [some (.ref 135), some (.int (zI (((m * 3) + bk) + 3))), some (.int (zI (m + 1)))], [.int (zI (((m * 3) + bk) + 3))], es15)) i_14_4 rfl ?_
    refine x0 (r := (6, [some (.ref 135), some (.int (zI (((m * 3) + bk) + 3))), some (.int (zI (m + 1)))], [.ref 135, .int (zI (((m * 3) + bk) + 3))], es15)) i_14_5 rfl ?_
    refine x_alen (p := 71) (n := 93) i_14_6 hs_es15 rfl ?_
    refine x_cmpF i_14_7 (by unfold i32 iLO iHI; omega) (by unfold i32 iLO iHI; omega) rfl (by simp only [zC, cR]; omega) ?_
    refine x0 (r := (11, [some (.ref 135), some (.int (zI (((m * 3) + bk) + 3))), some (.int (zI (m + 1)))], [.ref 135], es15)) i_14_10 rfl ?_
    refine x0 (r := (12, [some (.ref 135), some (.int (zI (((m * 3) + bk) + 3))), some (.int (zI (m + 1)))], [.int (zI (((m * 3) + bk) + 3)), .ref 135], es15)) i_14_11 rfl ?_
    refine x0 (r := (13, [some (.ref 135), some (.int (zI (((m * 3) + bk) + 3))), some (.int (zI (m + 1)))], [.int (zI (m + 1)), .int (zI (((m * 3) + bk) + 3)), .ref 135], es15)) i_14_12 rfl ?_
    refine x_iast (p := 71) i_14_13 hs_es15 rfl (by unfold i32 iLO iHI; omega) (by omega) (by omega) ?_
    obtain ⟨es16, e_es16⟩ : ∃ z : PH, z = sA es15 71 (((m * 3) + bk) + 3).toNat (zI (m + 1)) := ⟨_, rfl⟩
    have hs_es16 : sh es16 := by rw [e_es16]; exact sh_sA hs_es15
    rw [← e_es16]
    refine x_ret (v := none) i_14_14 rfl (fun _ => rfl) rfl rfl rfl ?_
    show aW _ _ _ _ _ _ (50, [some (.ref 132), some (.int (zI (((m * 3) + bk) + 3))), some (.int (zI (m + 1))), some (.int (zI 0))], [], es16)
    refine x0 (r := (51, [some (.ref 132), some (.int (zI (((m * 3) + bk) + 3))), some (.int (zI (m + 1))), some (.int (zI 0))], [.ref 132], es16)) i_27_50 rfl ?_
    refine x_getr (p := 68) (k := 136) i_27_51 hs_es16 rfl rfl ?_
    show aW _ _ _ _ _ _ (54, [some (.ref 132), some (.int (zI (((m * 3) + bk) + 3))), some (.int (zI (m + 1))), some (.int (zI 0))], [.ref 136], es16)
    refine x0 (r := (55, [some (.ref 132), some (.int (zI (((m * 3) + bk) + 3))), some (.int (zI (m + 1))), some (.int (zI 0))], [.int (zI (((m * 3) + bk) + 3)), .ref 136], es16)) i_27_54 rfl ?_
    refine x0 (r := (56, [some (.ref 132), some (.int (zI (((m * 3) + bk) + 3))), some (.int (zI (m + 1))), some (.int (zI 0))], [.ref 132, .int (zI (((m * 3) + bk) + 3)), .ref 136], es16)) i_27_55 rfl ?_
    refine x_getr (p := 68) (k := 136) i_27_56 hs_es16 rfl rfl ?_
    show aW _ _ _ _ _ _ (59, [some (.ref 132), some (.int (zI (((m * 3) + bk) + 3))), some (.int (zI (m + 1))), some (.int (zI 0))], [.ref 136, .int (zI (((m * 3) + bk) + 3)), .ref 136], es16)
    refine x0 (r := (60, [some (.ref 132), some (.int (zI (((m * 3) + bk) + 3))), some (.int (zI (m + 1))), some (.int (zI 0))], [.int (zI (((m * 3) + bk) + 3)), .ref 136, .int (zI (((m * 3) + bk) + 3)), .ref 136], es16)) i_27_59 rfl ?_
    refine x_call (vs := [.ref 136, .int (zI (((m * 3) + bk) + 3))]) (rs := [.int (zI (((m * 3) + bk) + 3)), .ref 136]) i_27_60 rfl (fun _ => rfl) rfl rfl rfl rfl rfl rfl ?_
    show aW _ _ _ _ _ _ (0, [some (.ref 136), some (.int (zI (((m * 3) + bk) + 3)))], [], es16)
    refine x0 (r := (1, [some (.ref 136), some (.int (zI (((m * 3) + bk) + 3)))], [.int (zI (((m * 3) + bk) + 3))], es16)) i_28_0 rfl ?_
    refine x_ifF i_28_1 (by unfold i32 iLO iHI; omega) rfl (by simp only [zC, cR]; omega) ?_
    refine x0 (r := (5, [some (.ref 136), some (.int (zI (((m * 3) + bk) + 3)))], [.int (zI (((m * 3) + bk) + 3))], es16)) i_28_4 rfl ?_
    refine x0 (r := (6, [some (.ref 136), some (.int (zI (((m * 3) + bk) + 3)))], [.ref 136, .int (zI (((m * 3) + bk) + 3))], es16)) i_28_5 rfl ?_
    refine x_alen (p := 72) (n := 93) i_28_6 hs_es16 rfl ?_
    refine x_cmpF i_28_7 (by unfold i32 iLO iHI; omega) (by unfold i32 iLO iHI; omega) rfl (by simp only [zC, cR]; omega) ?_
    refine x0 (r := (11, [some (.ref 136), some (.int (zI (((m * 3) + bk) + 3)))], [.ref 136], es16)) i_28_10 rfl ?_
    refine x0 (r := (12, [some (.ref 136), some (.int (zI (((m * 3) + bk) + 3)))], [.int (zI (((m * 3) + bk) + 3)), .ref 136], es16)) i_28_11 rfl ?_
    refine x_iald (p := 72) i_28_12 hs_es16 rfl (by unfold i32 iLO iHI; omega) (by omega) (by omega) ?_
    obtain ⟨v17, e_v17⟩ : ∃ z : Int, z = (gA es16 72 (((m * 3) + bk) + 3).toNat).toInt := ⟨_, rfl⟩
    rw [← e_v17]
    have r_v17 : iLO ≤ v17 ∧ v17 ≤ iHI := by rw [e_v17]; exact i32_rng _
    unfold iLO iHI at r_v17
    refine x0 (r := (17, [some (.ref 136), some (.int (zI (((m * 3) + bk) + 3)))], [.int (zI v17)], es16)) i_28_13 rfl ?_
    refine x_ret (v := some (.int (zI v17))) i_28_17 rfl (fun _ => rfl) rfl rfl rfl ?_
    show aW _ _ _ _ _ _ (63, [some (.ref 132), some (.int (zI (((m * 3) + bk) + 3))), some (.int (zI (m + 1))), some (.int (zI 0))], [.int (zI v17), .int (zI (((m * 3) + bk) + 3)), .ref 136], es16)
    refine x0 (r := (64, [some (.ref 132), some (.int (zI (((m * 3) + bk) + 3))), some (.int (zI (m + 1))), some (.int (zI 0))], [.int (zI 0), .int (zI v17), .int (zI (((m * 3) + bk) + 3)), .ref 136], es16)) i_27_63 rfl ?_
    refine x_min i_27_64 (by unfold i32 iLO iHI; omega) (by unfold i32 iLO iHI; omega) (Nat.le_of_ble_eq_true rfl) ?_
    obtain ⟨v18, e_v18⟩ : ∃ z : Int, z = min v17 0 := ⟨_, rfl⟩
    rw [← e_v18]
    refine x_call (vs := [.ref 136, .int (zI (((m * 3) + bk) + 3)), .int (zI v18)]) (rs := []) i_27_67 rfl (fun _ => rfl) rfl rfl rfl rfl rfl rfl ?_
    show aW _ _ _ _ _ _ (0, [some (.ref 136), some (.int (zI (((m * 3) + bk) + 3))), some (.int (zI v18))], [], es16)
    refine x0 (r := (1, [some (.ref 136), some (.int (zI (((m * 3) + bk) + 3))), some (.int (zI v18))], [.int (zI (((m * 3) + bk) + 3))], es16)) i_14_0 rfl ?_
    refine x_ifF i_14_1 (by unfold i32 iLO iHI; omega) rfl (by simp only [zC, cR]; omega) ?_
    refine x0 (r := (5, [some (.ref 136), some (.int (zI (((m * 3) + bk) + 3))), some (.int (zI v18))], [.int (zI (((m * 3) + bk) + 3))], es16)) i_14_4 rfl ?_
    refine x0 (r := (6, [some (.ref 136), some (.int (zI (((m * 3) + bk) + 3))), some (.int (zI v18))], [.ref 136, .int (zI (((m * 3) + bk) + 3))], es16)) i_14_5 rfl ?_
    refine x_alen (p := 72) (n := 93) i_14_6 hs_es16 rfl ?_
    refine x_cmpF i_14_7 (by unfold i32 iLO iHI; omega) (by unfold i32 iLO iHI; omega) rfl (by simp only [zC, cR]; omega) ?_
    refine x0 (r := (11, [some (.ref 136), some (.int (zI (((m * 3) + bk) + 3))), some (.int (zI v18))], [.ref 136], es16)) i_14_10 rfl ?_
    refine x0 (r := (12, [some (.ref 136), some (.int (zI (((m * 3) + bk) + 3))), some (.int (zI v18))], [.int (zI (((m * 3) + bk) + 3)), .ref 136], es16)) i_14_11 rfl ?_
    refine x0 (r := (13, [some (.ref 136), some (.int (zI (((m * 3) + bk) + 3))), some (.int (zI v18))], [.int (zI v18), .int (zI (((m * 3) + bk) + 3)), .ref 136], es16)) i_14_12 rfl ?_
    refine x_iast (p := 72) i_14_13 hs_es16 rfl (by unfold i32 iLO iHI; omega) (by omega) (by omega) ?_
    obtain ⟨es19, e_es19⟩ : ∃ z : PH, z = sA es16 72 (((m * 3) + bk) + 3).toNat (zI v18) := ⟨_, rfl⟩
    have hs_es19 : sh es19 := by rw [e_es19]; exact sh_sA hs_es16
    rw [← e_es19]
    refine x_ret (v := none) i_14_14 rfl (fun _ => rfl) rfl rfl rfl ?_
    show aW _ _ _ _ _ _ (70, [some (.ref 132), some (.int (zI (((m * 3) + bk) + 3))), some (.int (zI (m + 1))), some (.int (zI 0))], [], es19)
    refine x_ret (v := none) i_27_70 rfl (fun _ => rfl) rfl rfl rfl ?_
    show aW _ _ _ _ _ _ (366, [some (.ref 132), some (.int (zI m)), some (.int (zI kd)), some (.int (zI mo)), some (.int (zI 0)), some (.int (zI 0)), some (.int (zI 0)), some (.int (zI 0)), some (.int (zI bk)), some (.int (zI ((m * 3) + bk))), some (.int (zI (((m * 3) + bk) + 3))), some (.int (zI m)), some (.int (zI 0)), some (.int (zI 1000)), some (.int (zI 0)), some (.int (zI (m + 1))), some (.int (zI 1000)), some (.int (zI 0)), some (.int (zI v6))], [], es19)
    refine x_iinc (x := (m + 1)) i_53_366 rfl (by show 15 < 19; decide) ?_
    show aW _ _ _ _ _ _ (369, [some (.ref 132), some (.int (zI m)), some (.int (zI kd)), some (.int (zI mo)), some (.int (zI 0)), some (.int (zI 0)), some (.int (zI 0)), some (.int (zI 0)), some (.int (zI bk)), some (.int (zI ((m * 3) + bk))), some (.int (zI (((m * 3) + bk) + 3))), some (.int (zI m)), some (.int (zI 0)), some (.int (zI 1000)), some (.int (zI 0)), some (.int (zI ((m + 1) + 1))), some (.int (zI 1000)), some (.int (zI 0)), some (.int (zI v6))], [], es19)
    refine x0 (r := (146, [some (.ref 132), some (.int (zI m)), some (.int (zI kd)), some (.int (zI mo)), some (.int (zI 0)), some (.int (zI 0)), some (.int (zI 0)), some (.int (zI 0)), some (.int (zI bk)), some (.int (zI ((m * 3) + bk))), some (.int (zI (((m * 3) + bk) + 3))), some (.int (zI m)), some (.int (zI 0)), some (.int (zI 1000)), some (.int (zI 0)), some (.int (zI ((m + 1) + 1))), some (.int (zI 1000)), some (.int (zI 0)), some (.int (zI v6))], [], es19)) i_53_369 rfl ?_
    refine x0 (r := (148, [some (.ref 132), some (.int (zI m)), some (.int (zI kd)), some (.int (zI mo)), some (.int (zI 0)), some (.int (zI 0)), some (.int (zI 0)), some (.int (zI 0)), some (.int (zI bk)), some (.int (zI ((m * 3) + bk))), some (.int (zI (((m * 3) + bk) + 3))), some (.int (zI m)), some (.int (zI 0)), some (.int (zI 1000)), some (.int (zI 0)), some (.int (zI ((m + 1) + 1))), some (.int (zI 1000)), some (.int (zI 0)), some (.int (zI v6))], [.int (zI ((m + 1) + 1))], es19)) i_53_146 rfl ?_
    refine x0 (r := (149, [some (.ref 132), some (.int (zI m)), some (.int (zI kd)), some (.int (zI mo)), some (.int (zI 0)), some (.int (zI 0)), some (.int (zI 0)), some (.int (zI 0)), some (.int (zI bk)), some (.int (zI ((m * 3) + bk))), some (.int (zI (((m * 3) + bk) + 3))), some (.int (zI m)), some (.int (zI 0)), some (.int (zI 1000)), some (.int (zI 0)), some (.int (zI ((m + 1) + 1))), some (.int (zI 1000)), some (.int (zI 0)), some (.int (zI v6))], [.ref 132, .int (zI ((m + 1) + 1))], es19)) i_53_148 rfl ?_
    refine x_getr (p := 68) (k := 71) i_53_149 hs_es19 rfl rfl ?_
    show aW _ _ _ _ _ _ (152, [some (.ref 132), some (.int (zI m)), some (.int (zI kd)), some (.int (zI mo)), some (.int (zI 0)), some (.int (zI 0)), some (.int (zI 0)), some (.int (zI 0)), some (.int (zI bk)), some (.int (zI ((m * 3) + bk))), some (.int (zI (((m * 3) + bk) + 3))), some (.int (zI m)), some (.int (zI 0)), some (.int (zI 1000)), some (.int (zI 0)), some (.int (zI ((m + 1) + 1))), some (.int (zI 1000)), some (.int (zI 0)), some (.int (zI v6))], [.ref 71, .int (zI ((m + 1) + 1))], es19)
    refine x0 (r := (154, [some (.ref 132), some (.int (zI m)), some (.int (zI kd)), some (.int (zI mo)), some (.int (zI 0)), some (.int (zI 0)), some (.int (zI 0)), some (.int (zI 0)), some (.int (zI bk)), some (.int (zI ((m * 3) + bk))), some (.int (zI (((m * 3) + bk) + 3))), some (.int (zI m)), some (.int (zI 0)), some (.int (zI 1000)), some (.int (zI 0)), some (.int (zI ((m + 1) + 1))), some (.int (zI 1000)), some (.int (zI 0)), some (.int (zI v6))], [.int (zI bk), .ref 71, .int (zI ((m + 1) + 1))], es19)) i_53_152 rfl ?_
    refine x_call (vs := [.ref 71, .int (zI bk)]) (rs := [.int (zI ((m + 1) + 1))]) i_53_154 rfl (fun _ => rfl) rfl rfl rfl rfl rfl (pCall_v (p := 7) hs_es19 rfl rfl rfl rfl rfl (by decide) rfl rfl rfl rfl rfl) ?_
    show aW _ _ _ _ _ _ (0, [some (.ref 71), some (.int (zI bk))], [], es19)
    refine x0 (r := (1, [some (.ref 71), some (.int (zI bk))], [.ref 71], es19)) i_35_0 rfl ?_
    refine x_getr (p := 7) (k := 77) i_35_1 hs_es19 rfl rfl ?_
    show aW _ _ _ _ _ _ (4, [some (.ref 71), some (.int (zI bk))], [.ref 77], es19)
    refine x0 (r := (5, [some (.ref 71), some (.int (zI bk))], [.int (zI bk), .ref 77], es19)) i_35_4 rfl ?_
    refine x_call (vs := [.ref 77, .int (zI bk)]) (rs := []) i_35_5 rfl (fun _ => rfl) rfl rfl rfl rfl rfl rfl ?_
    show aW _ _ _ _ _ _ (0, [some (.ref 77), some (.int (zI bk))], [], es19)
    refine x0 (r := (1, [some (.ref 77), some (.int (zI bk))], [.int (zI bk)], es19)) i_28_0 rfl ?_
    refine x_ifF i_28_1 (by unfold i32 iLO iHI; omega) rfl (by simp only [zC, cR]; omega) ?_
    refine x0 (r := (5, [some (.ref 77), some (.int (zI bk))], [.int (zI bk)], es19)) i_28_4 rfl ?_
    refine x0 (r := (6, [some (.ref 77), some (.int (zI bk))], [.ref 77, .int (zI bk)], es19)) i_28_5 rfl ?_
    refine x_alen (p := 13) (n := 3) i_28_6 hs_es19 rfl ?_
    refine x_cmpF i_28_7 (by unfold i32 iLO iHI; omega) (by unfold i32 iLO iHI; omega) rfl (by simp only [zC, cR]; omega) ?_
    refine x0 (r := (11, [some (.ref 77), some (.int (zI bk))], [.ref 77], es19)) i_28_10 rfl ?_
    refine x0 (r := (12, [some (.ref 77), some (.int (zI bk))], [.int (zI bk), .ref 77], es19)) i_28_11 rfl ?_
    refine x_iald (p := 13) i_28_12 hs_es19 rfl (by unfold i32 iLO iHI; omega) (by omega) (by omega) ?_
    rw [show (gA es19 13 bk.toNat).toInt = nb from by rw [e_es19, gA_sA_ne (by decide), e_es16, gA_sA_ne (by decide), e_es15, gA_sA_ne (by decide), e_es12, gA_sA_ne (by decide), e_es4, gA_sA_ne (by decide), e_es3, gA_sA_ne (by decide), e_es2, gA_sA_ne (by decide), e_es1, gA_sA_ne (by decide)]; exact hnb]
    have r_nb : -2147483648 ≤ nb ∧ nb ≤ 2147483647 := by
      have hh := i32_rng (gA es 13 bk.toNat)
      rw [hnb] at hh
      exact hh
    refine x0 (r := (17, [some (.ref 77), some (.int (zI bk))], [.int (zI nb)], es19)) i_28_13 rfl ?_
    refine x_ret (v := some (.int (zI nb))) i_28_17 rfl (fun _ => rfl) rfl rfl rfl ?_
    show aW _ _ _ _ _ _ (8, [some (.ref 71), some (.int (zI bk))], [.int (zI nb)], es19)
    refine x_ret (v := some (.int (zI nb))) i_35_8 rfl (fun _ => rfl) rfl rfl rfl ?_
    show aW _ _ _ _ _ _ (157, [some (.ref 132), some (.int (zI m)), some (.int (zI kd)), some (.int (zI mo)), some (.int (zI 0)), some (.int (zI 0)), some (.int (zI 0)), some (.int (zI 0)), some (.int (zI bk)), some (.int (zI ((m * 3) + bk))), some (.int (zI (((m * 3) + bk) + 3))), some (.int (zI m)), some (.int (zI 0)), some (.int (zI 1000)), some (.int (zI 0)), some (.int (zI ((m + 1) + 1))), some (.int (zI 1000)), some (.int (zI 0)), some (.int (zI v6))], [.int (zI nb), .int (zI ((m + 1) + 1))], es19)
    by_cases c20 : nb < ((m + 1) + 1)
    · refine x_cmpT i_53_157 (by unfold i32 iLO iHI; omega) (by unfold i32 iLO iHI; omega) rfl (by simp only [zC, cR]; omega) ?_
      refine x0 (r := (374, [some (.ref 132), some (.int (zI m)), some (.int (zI kd)), some (.int (zI mo)), some (.int (zI 0)), some (.int (zI 0)), some (.int (zI 0)), some (.int (zI 0)), some (.int (zI bk)), some (.int (zI ((m * 3) + bk))), some (.int (zI (((m * 3) + bk) + 3))), some (.int (zI m)), some (.int (zI 0)), some (.int (zI 1000)), some (.int (zI 0)), some (.int (zI ((m + 1) + 1))), some (.int (zI 1000)), some (.int (zI 0)), some (.int (zI v6))], [.int (zI 0)], es19)) i_53_372 rfl ?_
      refine x0 (r := (375, [some (.ref 132), some (.int (zI m)), some (.int (zI kd)), some (.int (zI mo)), some (.int (zI 0)), some (.int (zI 0)), some (.int (zI 0)), some (.int (zI 0)), some (.int (zI bk)), some (.int (zI ((m * 3) + bk))), some (.int (zI (((m * 3) + bk) + 3))), some (.int (zI m)), some (.int (zI 0)), some (.int (zI 1000)), some (.int (zI 0)), some (.int (zI ((m + 1) + 1))), some (.int (zI 1000)), some (.int (zI 0)), some (.int (zI v6))], [.ref 132, .int (zI 0)], es19)) i_53_374 rfl ?_
      refine x_getr (p := 68) (k := 136) i_53_375 hs_es19 rfl rfl ?_
      show aW _ _ _ _ _ _ (378, [some (.ref 132), some (.int (zI m)), some (.int (zI kd)), some (.int (zI mo)), some (.int (zI 0)), some (.int (zI 0)), some (.int (zI 0)), some (.int (zI 0)), some (.int (zI bk)), some (.int (zI ((m * 3) + bk))), some (.int (zI (((m * 3) + bk) + 3))), some (.int (zI m)), some (.int (zI 0)), some (.int (zI 1000)), some (.int (zI 0)), some (.int (zI ((m + 1) + 1))), some (.int (zI 1000)), some (.int (zI 0)), some (.int (zI v6))], [.ref 136, .int (zI 0)], es19)
      refine x0 (r := (380, [some (.ref 132), some (.int (zI m)), some (.int (zI kd)), some (.int (zI mo)), some (.int (zI 0)), some (.int (zI 0)), some (.int (zI 0)), some (.int (zI 0)), some (.int (zI bk)), some (.int (zI ((m * 3) + bk))), some (.int (zI (((m * 3) + bk) + 3))), some (.int (zI m)), some (.int (zI 0)), some (.int (zI 1000)), some (.int (zI 0)), some (.int (zI ((m + 1) + 1))), some (.int (zI 1000)), some (.int (zI 0)), some (.int (zI v6))], [.int (zI (((m * 3) + bk) + 3)), .ref 136, .int (zI 0)], es19)) i_53_378 rfl ?_
      refine x_call (vs := [.ref 136, .int (zI (((m * 3) + bk) + 3))]) (rs := [.int (zI 0)]) i_53_380 rfl (fun _ => rfl) rfl rfl rfl rfl rfl rfl ?_
      show aW _ _ _ _ _ _ (0, [some (.ref 136), some (.int (zI (((m * 3) + bk) + 3)))], [], es19)
      refine x0 (r := (1, [some (.ref 136), some (.int (zI (((m * 3) + bk) + 3)))], [.int (zI (((m * 3) + bk) + 3))], es19)) i_28_0 rfl ?_
      refine x_ifF i_28_1 (by unfold i32 iLO iHI; omega) rfl (by simp only [zC, cR]; omega) ?_
      refine x0 (r := (5, [some (.ref 136), some (.int (zI (((m * 3) + bk) + 3)))], [.int (zI (((m * 3) + bk) + 3))], es19)) i_28_4 rfl ?_
      refine x0 (r := (6, [some (.ref 136), some (.int (zI (((m * 3) + bk) + 3)))], [.ref 136, .int (zI (((m * 3) + bk) + 3))], es19)) i_28_5 rfl ?_
      refine x_alen (p := 72) (n := 93) i_28_6 hs_es19 rfl ?_
      refine x_cmpF i_28_7 (by unfold i32 iLO iHI; omega) (by unfold i32 iLO iHI; omega) rfl (by simp only [zC, cR]; omega) ?_
      refine x0 (r := (11, [some (.ref 136), some (.int (zI (((m * 3) + bk) + 3)))], [.ref 136], es19)) i_28_10 rfl ?_
      refine x0 (r := (12, [some (.ref 136), some (.int (zI (((m * 3) + bk) + 3)))], [.int (zI (((m * 3) + bk) + 3)), .ref 136], es19)) i_28_11 rfl ?_
      refine x_iald (p := 72) i_28_12 hs_es19 rfl (by unfold i32 iLO iHI; omega) (by omega) (by omega) ?_
      obtain ⟨v21, e_v21⟩ : ∃ z : Int, z = (gA es19 72 (((m * 3) + bk) + 3).toNat).toInt := ⟨_, rfl⟩
      rw [← e_v21]
      have r_v21 : iLO ≤ v21 ∧ v21 ≤ iHI := by rw [e_v21]; exact i32_rng _
      unfold iLO iHI at r_v21
      refine x0 (r := (17, [some (.ref 136), some (.int (zI (((m * 3) + bk) + 3)))], [.int (zI v21)], es19)) i_28_13 rfl ?_
      refine x_ret (v := some (.int (zI v21))) i_28_17 rfl (fun _ => rfl) rfl rfl rfl ?_
      show aW _ _ _ _ _ _ (383, [some (.ref 132), some (.int (zI m)), some (.int (zI kd)), some (.int (zI mo)), some (.int (zI 0)), some (.int (zI 0)), some (.int (zI 0)), some (.int (zI 0)), some (.int (zI bk)), some (.int (zI ((m * 3) + bk))), some (.int (zI (((m * 3) + bk) + 3))), some (.int (zI m)), some (.int (zI 0)), some (.int (zI 1000)), some (.int (zI 0)), some (.int (zI ((m + 1) + 1))), some (.int (zI 1000)), some (.int (zI 0)), some (.int (zI v6))], [.int (zI v21), .int (zI 0)], es19)
      refine x_iadd i_53_383 ?_
      refine x0 (r := (386, [some (.ref 132), some (.int (zI m)), some (.int (zI kd)), some (.int (zI mo)), some (.int (zI 0)), some (.int (zI 0)), some (.int (zI (0 + v21))), some (.int (zI 0)), some (.int (zI bk)), some (.int (zI ((m * 3) + bk))), some (.int (zI (((m * 3) + bk) + 3))), some (.int (zI m)), some (.int (zI 0)), some (.int (zI 1000)), some (.int (zI 0)), some (.int (zI ((m + 1) + 1))), some (.int (zI 1000)), some (.int (zI 0)), some (.int (zI v6))], [], es19)) i_53_384 rfl ?_
      refine x_iinc (x := bk) i_53_386 rfl (by show 8 < 19; decide) ?_
      show aW _ _ _ _ _ _ (389, [some (.ref 132), some (.int (zI m)), some (.int (zI kd)), some (.int (zI mo)), some (.int (zI 0)), some (.int (zI 0)), some (.int (zI (0 + v21))), some (.int (zI 0)), some (.int (zI (bk + 1))), some (.int (zI ((m * 3) + bk))), some (.int (zI (((m * 3) + bk) + 3))), some (.int (zI m)), some (.int (zI 0)), some (.int (zI 1000)), some (.int (zI 0)), some (.int (zI ((m + 1) + 1))), some (.int (zI 1000)), some (.int (zI 0)), some (.int (zI v6))], [], es19)
      refine x0 (r := (47, [some (.ref 132), some (.int (zI m)), some (.int (zI kd)), some (.int (zI mo)), some (.int (zI 0)), some (.int (zI 0)), some (.int (zI (0 + v21))), some (.int (zI 0)), some (.int (zI (bk + 1))), some (.int (zI ((m * 3) + bk))), some (.int (zI (((m * 3) + bk) + 3))), some (.int (zI m)), some (.int (zI 0)), some (.int (zI 1000)), some (.int (zI 0)), some (.int (zI ((m + 1) + 1))), some (.int (zI 1000)), some (.int (zI 0)), some (.int (zI v6))], [], es19)) i_53_389 rfl ?_
      refine x0 (r := (49, [some (.ref 132), some (.int (zI m)), some (.int (zI kd)), some (.int (zI mo)), some (.int (zI 0)), some (.int (zI 0)), some (.int (zI (0 + v21))), some (.int (zI 0)), some (.int (zI (bk + 1))), some (.int (zI ((m * 3) + bk))), some (.int (zI (((m * 3) + bk) + 3))), some (.int (zI m)), some (.int (zI 0)), some (.int (zI 1000)), some (.int (zI 0)), some (.int (zI ((m + 1) + 1))), some (.int (zI 1000)), some (.int (zI 0)), some (.int (zI v6))], [.int (zI (bk + 1))], es19)) i_53_47 rfl ?_
      refine x0 (r := (50, [some (.ref 132), some (.int (zI m)), some (.int (zI kd)), some (.int (zI mo)), some (.int (zI 0)), some (.int (zI 0)), some (.int (zI (0 + v21))), some (.int (zI 0)), some (.int (zI (bk + 1))), some (.int (zI ((m * 3) + bk))), some (.int (zI (((m * 3) + bk) + 3))), some (.int (zI m)), some (.int (zI 0)), some (.int (zI 1000)), some (.int (zI 0)), some (.int (zI ((m + 1) + 1))), some (.int (zI 1000)), some (.int (zI 0)), some (.int (zI v6))], [.ref 132, .int (zI (bk + 1))], es19)) i_53_49 rfl ?_
      refine x_getr (p := 68) (k := 117) i_53_50 hs_es19 rfl rfl ?_
      show aW _ _ _ _ _ _ (53, [some (.ref 132), some (.int (zI m)), some (.int (zI kd)), some (.int (zI mo)), some (.int (zI 0)), some (.int (zI 0)), some (.int (zI (0 + v21))), some (.int (zI 0)), some (.int (zI (bk + 1))), some (.int (zI ((m * 3) + bk))), some (.int (zI (((m * 3) + bk) + 3))), some (.int (zI m)), some (.int (zI 0)), some (.int (zI 1000)), some (.int (zI 0)), some (.int (zI ((m + 1) + 1))), some (.int (zI 1000)), some (.int (zI 0)), some (.int (zI v6))], [.ref 117, .int (zI (bk + 1))], es19)
      refine x_geti (p := 53) i_53_53 hs_es19 rfl rfl ?_
      rw [show (gI es19 53 1).toInt = (bk + 1) from by rw [e_es19, gI_sA, e_es16, gI_sA, e_es15, gI_sA, e_es12, gI_sA, e_es4, gI_sA, e_es3, gI_sA, e_es2, gI_sA, e_es1, gI_sA]; exact hq1]
      refine x_cmpT i_53_56 (by unfold i32 iLO iHI; omega) (by unfold i32 iLO iHI; omega) rfl (by simp only [zC, cR]; omega) ?_
      refine x0 (r := (394, [some (.ref 132), some (.int (zI m)), some (.int (zI kd)), some (.int (zI mo)), some (.int (zI 0)), some (.int (zI 0)), some (.int (zI (0 + v21))), some (.int (zI 0)), some (.int (zI (bk + 1))), some (.int (zI ((m * 3) + bk))), some (.int (zI (((m * 3) + bk) + 3))), some (.int (zI m)), some (.int (zI 0)), some (.int (zI 1000)), some (.int (zI 0)), some (.int (zI ((m + 1) + 1))), some (.int (zI 1000)), some (.int (zI 0)), some (.int (zI v6))], [.int (zI (0 + v21))], es19)) i_53_392 rfl ?_
      refine x_ret (v := some (.int (zI (0 + v21)))) i_53_394 rfl (fun _ => rfl) rfl rfl rfl ?_
      exact K3 es1 e_es1 es2 e_es2 es3 e_es3 es4 e_es4 v5 e_v5 v6 p_v6 c7 es12 e_es12 v13 e_v13 v14 e_v14 es15 e_es15 es16 e_es16 v17 e_v17 v18 e_v18 es19 e_es19 c20 v21 e_v21
    · refine x_cmpF i_53_157 (by unfold i32 iLO iHI; omega) (by unfold i32 iLO iHI; omega) rfl (by simp only [zC, cR]; omega) ?_
      refine x0 (r := (162, [some (.ref 132), some (.int (zI m)), some (.int (zI kd)), some (.int (zI mo)), some (.int (zI 0)), some (.int (zI 0)), some (.int (zI 0)), some (.int (zI 0)), some (.int (zI bk)), some (.int (zI ((m * 3) + bk))), some (.int (zI (((m * 3) + bk) + 3))), some (.int (zI m)), some (.int (zI 0)), some (.int (zI 1000)), some (.int (zI 0)), some (.int (zI ((m + 1) + 1))), some (.int (zI 1000)), some (.int (zI 0)), some (.int (zI v6))], [.int (zI ((m + 1) + 1))], es19)) i_53_160 rfl ?_
      refine x0 (r := (164, [some (.ref 132), some (.int (zI m)), some (.int (zI kd)), some (.int (zI mo)), some (.int (zI 0)), some (.int (zI 0)), some (.int (zI 0)), some (.int (zI 0)), some (.int (zI bk)), some (.int (zI ((m * 3) + bk))), some (.int (zI (((m * 3) + bk) + 3))), some (.int (zI m)), some (.int (zI 0)), some (.int (zI 1000)), some (.int (zI 0)), some (.int (zI ((m + 1) + 1))), some (.int (zI 1000)), some (.int (zI 0)), some (.int (zI v6))], [.int (zI m), .int (zI ((m + 1) + 1))], es19)) i_53_162 rfl ?_
      refine x0 (r := (165, [some (.ref 132), some (.int (zI m)), some (.int (zI kd)), some (.int (zI mo)), some (.int (zI 0)), some (.int (zI 0)), some (.int (zI 0)), some (.int (zI 0)), some (.int (zI bk)), some (.int (zI ((m * 3) + bk))), some (.int (zI (((m * 3) + bk) + 3))), some (.int (zI m)), some (.int (zI 0)), some (.int (zI 1000)), some (.int (zI 0)), some (.int (zI ((m + 1) + 1))), some (.int (zI 1000)), some (.int (zI 0)), some (.int (zI v6))], [.int (zI 1), .int (zI m), .int (zI ((m + 1) + 1))], es19)) i_53_164 (by rfl) ?_
      refine x_iadd i_53_165 ?_
      refine x_cmpF i_53_166 (by unfold i32 iLO iHI; omega) (by unfold i32 iLO iHI; omega) rfl (by simp only [zC, cR]; omega) ?_
      refine x0 (r := (171, [some (.ref 132), some (.int (zI m)), some (.int (zI kd)), some (.int (zI mo)), some (.int (zI 0)), some (.int (zI 0)), some (.int (zI 0)), some (.int (zI 0)), some (.int (zI bk)), some (.int (zI ((m * 3) + bk))), some (.int (zI (((m * 3) + bk) + 3))), some (.int (zI m)), some (.int (zI 0)), some (.int (zI 1000)), some (.int (zI 0)), some (.int (zI ((m + 1) + 1))), some (.int (zI 1000)), some (.int (zI 0)), some (.int (zI v6))], [.int (zI 0)], es19)) i_53_169 rfl ?_
      refine x0 (r := (174, [some (.ref 132), some (.int (zI m)), some (.int (zI kd)), some (.int (zI mo)), some (.int (zI 0)), some (.int (zI 0)), some (.int (zI 0)), some (.int (zI 0)), some (.int (zI bk)), some (.int (zI ((m * 3) + bk))), some (.int (zI (((m * 3) + bk) + 3))), some (.int (zI m)), some (.int (zI 0)), some (.int (zI 1000)), some (.int (zI 0)), some (.int (zI ((m + 1) + 1))), some (.int (zI 1000)), some (.int (zI 0)), some (.int (zI v6))], [.int (zI 1000), .int (zI 0)], es19)) i_53_171 (by rfl) ?_
      refine x_cmpF i_53_174 (by unfold i32 iLO iHI; omega) (by unfold i32 iLO iHI; omega) rfl (by simp only [zC, cR]; omega) ?_
      refine x0 (r := (179, [some (.ref 132), some (.int (zI m)), some (.int (zI kd)), some (.int (zI mo)), some (.int (zI 0)), some (.int (zI 0)), some (.int (zI 0)), some (.int (zI 0)), some (.int (zI bk)), some (.int (zI ((m * 3) + bk))), some (.int (zI (((m * 3) + bk) + 3))), some (.int (zI m)), some (.int (zI 0)), some (.int (zI 1000)), some (.int (zI 0)), some (.int (zI ((m + 1) + 1))), some (.int (zI 1000)), some (.int (zI 0)), some (.int (zI v6))], [.int (zI ((m + 1) + 1))], es19)) i_53_177 rfl ?_
      refine x0 (r := (181, [some (.ref 132), some (.int (zI m)), some (.int (zI kd)), some (.int (zI mo)), some (.int (zI 0)), some (.int (zI 0)), some (.int (zI 0)), some (.int (zI 0)), some (.int (zI bk)), some (.int (zI ((m * 3) + bk))), some (.int (zI (((m * 3) + bk) + 3))), some (.int (zI m)), some (.int (zI 0)), some (.int (zI 1000)), some (.int (zI 0)), some (.int (zI ((m + 1) + 1))), some (.int (zI 1000)), some (.int (zI 0)), some (.int (zI v6))], [.int (zI m), .int (zI ((m + 1) + 1))], es19)) i_53_179 rfl ?_
      refine x_cmpT i_53_181 (by unfold i32 iLO iHI; omega) (by unfold i32 iLO iHI; omega) rfl (by simp only [zC, cR]; omega) ?_
      refine x0 (r := (205, [some (.ref 132), some (.int (zI m)), some (.int (zI kd)), some (.int (zI mo)), some (.int (zI 0)), some (.int (zI 0)), some (.int (zI 0)), some (.int (zI 0)), some (.int (zI bk)), some (.int (zI ((m * 3) + bk))), some (.int (zI (((m * 3) + bk) + 3))), some (.int (zI m)), some (.int (zI 0)), some (.int (zI 1000)), some (.int (zI 0)), some (.int (zI ((m + 1) + 1))), some (.int (zI 1000)), some (.int (zI 0)), some (.int (zI v6))], [.int (zI 1000)], es19)) i_53_202 (by rfl) ?_
      refine x0 (r := (207, [some (.ref 132), some (.int (zI m)), some (.int (zI kd)), some (.int (zI mo)), some (.int (zI 0)), some (.int (zI 0)), some (.int (zI 0)), some (.int (zI 0)), some (.int (zI bk)), some (.int (zI ((m * 3) + bk))), some (.int (zI (((m * 3) + bk) + 3))), some (.int (zI m)), some (.int (zI 0)), some (.int (zI 1000)), some (.int (zI 0)), some (.int (zI ((m + 1) + 1))), some (.int (zI 1000)), some (.int (zI 0)), some (.int (zI v6))], [], es19)) i_53_205 rfl ?_
      refine x0 (r := (209, [some (.ref 132), some (.int (zI m)), some (.int (zI kd)), some (.int (zI mo)), some (.int (zI 0)), some (.int (zI 0)), some (.int (zI 0)), some (.int (zI 0)), some (.int (zI bk)), some (.int (zI ((m * 3) + bk))), some (.int (zI (((m * 3) + bk) + 3))), some (.int (zI m)), some (.int (zI 0)), some (.int (zI 1000)), some (.int (zI 0)), some (.int (zI ((m + 1) + 1))), some (.int (zI 1000)), some (.int (zI 0)), some (.int (zI v6))], [.int (zI 0)], es19)) i_53_207 rfl ?_
      refine x_ifT i_53_209 (by unfold i32 iLO iHI; omega) rfl (by simp only [zC, cR]; omega) ?_
      refine x0 (r := (223, [some (.ref 132), some (.int (zI m)), some (.int (zI kd)), some (.int (zI mo)), some (.int (zI 0)), some (.int (zI 0)), some (.int (zI 0)), some (.int (zI 0)), some (.int (zI bk)), some (.int (zI ((m * 3) + bk))), some (.int (zI (((m * 3) + bk) + 3))), some (.int (zI m)), some (.int (zI 0)), some (.int (zI 1000)), some (.int (zI 0)), some (.int (zI ((m + 1) + 1))), some (.int (zI 1000)), some (.int (zI 0)), some (.int (zI v6))], [.int (zI 1000)], es19)) i_53_220 (by rfl) ?_
      refine x0 (r := (225, [some (.ref 132), some (.int (zI m)), some (.int (zI kd)), some (.int (zI mo)), some (.int (zI 0)), some (.int (zI 0)), some (.int (zI 0)), some (.int (zI 0)), some (.int (zI bk)), some (.int (zI ((m * 3) + bk))), some (.int (zI (((m * 3) + bk) + 3))), some (.int (zI m)), some (.int (zI 0)), some (.int (zI 1000)), some (.int (zI 0)), some (.int (zI ((m + 1) + 1))), some (.int (zI 1000)), some (.int (zI 1000)), some (.int (zI v6))], [], es19)) i_53_223 rfl ?_
      refine x0 (r := (227, [some (.ref 132), some (.int (zI m)), some (.int (zI kd)), some (.int (zI mo)), some (.int (zI 0)), some (.int (zI 0)), some (.int (zI 0)), some (.int (zI 0)), some (.int (zI bk)), some (.int (zI ((m * 3) + bk))), some (.int (zI (((m * 3) + bk) + 3))), some (.int (zI m)), some (.int (zI 0)), some (.int (zI 1000)), some (.int (zI 0)), some (.int (zI ((m + 1) + 1))), some (.int (zI 1000)), some (.int (zI 1000)), some (.int (zI v6))], [.int (zI 1000)], es19)) i_53_225 rfl ?_
      refine x0 (r := (230, [some (.ref 132), some (.int (zI m)), some (.int (zI kd)), some (.int (zI mo)), some (.int (zI 0)), some (.int (zI 0)), some (.int (zI 0)), some (.int (zI 0)), some (.int (zI bk)), some (.int (zI ((m * 3) + bk))), some (.int (zI (((m * 3) + bk) + 3))), some (.int (zI m)), some (.int (zI 0)), some (.int (zI 1000)), some (.int (zI 0)), some (.int (zI ((m + 1) + 1))), some (.int (zI 1000)), some (.int (zI 1000)), some (.int (zI v6))], [.int (zI 1000), .int (zI 1000)], es19)) i_53_227 (by rfl) ?_
      refine x_cmpT i_53_230 (by unfold i32 iLO iHI; omega) (by unfold i32 iLO iHI; omega) rfl (by simp only [zC, cR]; omega) ?_
      refine x0 (r := (252, [some (.ref 132), some (.int (zI m)), some (.int (zI kd)), some (.int (zI mo)), some (.int (zI 0)), some (.int (zI 0)), some (.int (zI 0)), some (.int (zI 0)), some (.int (zI bk)), some (.int (zI ((m * 3) + bk))), some (.int (zI (((m * 3) + bk) + 3))), some (.int (zI m)), some (.int (zI 0)), some (.int (zI 1000)), some (.int (zI 0)), some (.int (zI ((m + 1) + 1))), some (.int (zI 1000)), some (.int (zI 1000)), some (.int (zI v6))], [.int (zI (-1))], es19)) i_53_251 (by rfl) ?_
      refine x0 (r := (254, [some (.ref 132), some (.int (zI m)), some (.int (zI kd)), some (.int (zI mo)), some (.int (zI 0)), some (.int (zI 0)), some (.int (zI 0)), some (.int (zI 0)), some (.int (zI bk)), some (.int (zI ((m * 3) + bk))), some (.int (zI (((m * 3) + bk) + 3))), some (.int (zI m)), some (.int (zI 0)), some (.int (zI 1000)), some (.int (zI 0)), some (.int (zI ((m + 1) + 1))), some (.int (zI 1000)), some (.int (zI 1000)), some (.int (zI (-1)))], [], es19)) i_53_252 rfl ?_
      refine x0 (r := (256, [some (.ref 132), some (.int (zI m)), some (.int (zI kd)), some (.int (zI mo)), some (.int (zI 0)), some (.int (zI 0)), some (.int (zI 0)), some (.int (zI 0)), some (.int (zI bk)), some (.int (zI ((m * 3) + bk))), some (.int (zI (((m * 3) + bk) + 3))), some (.int (zI m)), some (.int (zI 0)), some (.int (zI 1000)), some (.int (zI 0)), some (.int (zI ((m + 1) + 1))), some (.int (zI 1000)), some (.int (zI 1000)), some (.int (zI (-1)))], [.int (zI (-1))], es19)) i_53_254 rfl ?_
      refine x0 (r := (257, [some (.ref 132), some (.int (zI m)), some (.int (zI kd)), some (.int (zI mo)), some (.int (zI 0)), some (.int (zI 0)), some (.int (zI 0)), some (.int (zI 0)), some (.int (zI bk)), some (.int (zI ((m * 3) + bk))), some (.int (zI (((m * 3) + bk) + 3))), some (.int (zI m)), some (.int (zI 0)), some (.int (zI 1000)), some (.int (zI 0)), some (.int (zI ((m + 1) + 1))), some (.int (zI 1000)), some (.int (zI 1000)), some (.int (zI (-1)))], [.int (zI (-1)), .int (zI (-1))], es19)) i_53_256 (by rfl) ?_
      refine x_cmpT i_53_257 (by unfold i32 iLO iHI; omega) (by unfold i32 iLO iHI; omega) rfl (by simp only [zC, cR]; omega) ?_
      refine x0 (r := (284, [some (.ref 132), some (.int (zI m)), some (.int (zI kd)), some (.int (zI mo)), some (.int (zI 0)), some (.int (zI 0)), some (.int (zI 0)), some (.int (zI 0)), some (.int (zI bk)), some (.int (zI ((m * 3) + bk))), some (.int (zI (((m * 3) + bk) + 3))), some (.int (zI m)), some (.int (zI 0)), some (.int (zI 1000)), some (.int (zI 0)), some (.int (zI ((m + 1) + 1))), some (.int (zI 1000)), some (.int (zI 1000)), some (.int (zI (-1)))], [.int (zI 0)], es19)) i_53_282 rfl ?_
      refine x0 (r := (287, [some (.ref 132), some (.int (zI m)), some (.int (zI kd)), some (.int (zI mo)), some (.int (zI 0)), some (.int (zI 0)), some (.int (zI 0)), some (.int (zI 0)), some (.int (zI bk)), some (.int (zI ((m * 3) + bk))), some (.int (zI (((m * 3) + bk) + 3))), some (.int (zI m)), some (.int (zI 0)), some (.int (zI 1000)), some (.int (zI 0)), some (.int (zI ((m + 1) + 1))), some (.int (zI 1000)), some (.int (zI 1000)), some (.int (zI (-1)))], [.int (zI 1000), .int (zI 0)], es19)) i_53_284 (by rfl) ?_
      refine x_cmpF i_53_287 (by unfold i32 iLO iHI; omega) (by unfold i32 iLO iHI; omega) rfl (by simp only [zC, cR]; omega) ?_
      refine x0 (r := (292, [some (.ref 132), some (.int (zI m)), some (.int (zI kd)), some (.int (zI mo)), some (.int (zI 0)), some (.int (zI 0)), some (.int (zI 0)), some (.int (zI 0)), some (.int (zI bk)), some (.int (zI ((m * 3) + bk))), some (.int (zI (((m * 3) + bk) + 3))), some (.int (zI m)), some (.int (zI 0)), some (.int (zI 1000)), some (.int (zI 0)), some (.int (zI ((m + 1) + 1))), some (.int (zI 1000)), some (.int (zI 1000)), some (.int (zI (-1)))], [.int (zI 0)], es19)) i_53_290 rfl ?_
      refine x_ifT i_53_292 (by unfold i32 iLO iHI; omega) rfl (by simp only [zC, cR]; omega) ?_
      refine x0 (r := (337, [some (.ref 132), some (.int (zI m)), some (.int (zI kd)), some (.int (zI mo)), some (.int (zI 0)), some (.int (zI 0)), some (.int (zI 0)), some (.int (zI 0)), some (.int (zI bk)), some (.int (zI ((m * 3) + bk))), some (.int (zI (((m * 3) + bk) + 3))), some (.int (zI m)), some (.int (zI 0)), some (.int (zI 1000)), some (.int (zI 0)), some (.int (zI ((m + 1) + 1))), some (.int (zI 1000)), some (.int (zI 1000)), some (.int (zI (-1)))], [.int (zI 1000)], es19)) i_53_335 rfl ?_
      refine x0 (r := (339, [some (.ref 132), some (.int (zI m)), some (.int (zI kd)), some (.int (zI mo)), some (.int (zI 0)), some (.int (zI 0)), some (.int (zI 0)), some (.int (zI 0)), some (.int (zI bk)), some (.int (zI ((m * 3) + bk))), some (.int (zI (((m * 3) + bk) + 3))), some (.int (zI m)), some (.int (zI 0)), some (.int (zI 1000)), some (.int (zI 0)), some (.int (zI ((m + 1) + 1))), some (.int (zI 1000)), some (.int (zI 1000)), some (.int (zI (-1)))], [], es19)) i_53_337 rfl ?_
      refine x0 (r := (341, [some (.ref 132), some (.int (zI m)), some (.int (zI kd)), some (.int (zI mo)), some (.int (zI 0)), some (.int (zI 0)), some (.int (zI 0)), some (.int (zI 0)), some (.int (zI bk)), some (.int (zI ((m * 3) + bk))), some (.int (zI (((m * 3) + bk) + 3))), some (.int (zI m)), some (.int (zI 0)), some (.int (zI 1000)), some (.int (zI 0)), some (.int (zI ((m + 1) + 1))), some (.int (zI 1000)), some (.int (zI 1000)), some (.int (zI (-1)))], [.int (zI 1000)], es19)) i_53_339 rfl ?_
      refine x0 (r := (343, [some (.ref 132), some (.int (zI m)), some (.int (zI kd)), some (.int (zI mo)), some (.int (zI 0)), some (.int (zI 0)), some (.int (zI 0)), some (.int (zI 0)), some (.int (zI bk)), some (.int (zI ((m * 3) + bk))), some (.int (zI (((m * 3) + bk) + 3))), some (.int (zI m)), some (.int (zI 0)), some (.int (zI 1000)), some (.int (zI 0)), some (.int (zI ((m + 1) + 1))), some (.int (zI 1000)), some (.int (zI 1000)), some (.int (zI (-1)))], [.int (zI 0), .int (zI 1000)], es19)) i_53_341 rfl ?_
      refine x_cmpF i_53_343 (by unfold i32 iLO iHI; omega) (by unfold i32 iLO iHI; omega) rfl (by simp only [zC, cR]; omega) ?_
      refine x0 (r := (349, [some (.ref 132), some (.int (zI m)), some (.int (zI kd)), some (.int (zI mo)), some (.int (zI 0)), some (.int (zI 0)), some (.int (zI 0)), some (.int (zI 0)), some (.int (zI bk)), some (.int (zI ((m * 3) + bk))), some (.int (zI (((m * 3) + bk) + 3))), some (.int (zI m)), some (.int (zI 0)), some (.int (zI 1000)), some (.int (zI 0)), some (.int (zI ((m + 1) + 1))), some (.int (zI 1000)), some (.int (zI 1000)), some (.int (zI (-1)))], [.int (zI 1000)], es19)) i_53_346 (by rfl) ?_
      refine x0 (r := (354, [some (.ref 132), some (.int (zI m)), some (.int (zI kd)), some (.int (zI mo)), some (.int (zI 0)), some (.int (zI 0)), some (.int (zI 0)), some (.int (zI 0)), some (.int (zI bk)), some (.int (zI ((m * 3) + bk))), some (.int (zI (((m * 3) + bk) + 3))), some (.int (zI m)), some (.int (zI 0)), some (.int (zI 1000)), some (.int (zI 0)), some (.int (zI ((m + 1) + 1))), some (.int (zI 1000)), some (.int (zI 1000)), some (.int (zI (-1)))], [.int (zI 1000)], es19)) i_53_349 rfl ?_
      refine x0 (r := (356, [some (.ref 132), some (.int (zI m)), some (.int (zI kd)), some (.int (zI mo)), some (.int (zI 0)), some (.int (zI 0)), some (.int (zI 0)), some (.int (zI 0)), some (.int (zI bk)), some (.int (zI ((m * 3) + bk))), some (.int (zI (((m * 3) + bk) + 3))), some (.int (zI m)), some (.int (zI 0)), some (.int (zI 1000)), some (.int (zI 1000)), some (.int (zI ((m + 1) + 1))), some (.int (zI 1000)), some (.int (zI 1000)), some (.int (zI (-1)))], [], es19)) i_53_354 rfl ?_
      refine x0 (r := (357, [some (.ref 132), some (.int (zI m)), some (.int (zI kd)), some (.int (zI mo)), some (.int (zI 0)), some (.int (zI 0)), some (.int (zI 0)), some (.int (zI 0)), some (.int (zI bk)), some (.int (zI ((m * 3) + bk))), some (.int (zI (((m * 3) + bk) + 3))), some (.int (zI m)), some (.int (zI 0)), some (.int (zI 1000)), some (.int (zI 1000)), some (.int (zI ((m + 1) + 1))), some (.int (zI 1000)), some (.int (zI 1000)), some (.int (zI (-1)))], [.ref 132], es19)) i_53_356 rfl ?_
      refine x0 (r := (359, [some (.ref 132), some (.int (zI m)), some (.int (zI kd)), some (.int (zI mo)), some (.int (zI 0)), some (.int (zI 0)), some (.int (zI 0)), some (.int (zI 0)), some (.int (zI bk)), some (.int (zI ((m * 3) + bk))), some (.int (zI (((m * 3) + bk) + 3))), some (.int (zI m)), some (.int (zI 0)), some (.int (zI 1000)), some (.int (zI 1000)), some (.int (zI ((m + 1) + 1))), some (.int (zI 1000)), some (.int (zI 1000)), some (.int (zI (-1)))], [.int (zI (((m * 3) + bk) + 3)), .ref 132], es19)) i_53_357 rfl ?_
      refine x0 (r := (361, [some (.ref 132), some (.int (zI m)), some (.int (zI kd)), some (.int (zI mo)), some (.int (zI 0)), some (.int (zI 0)), some (.int (zI 0)), some (.int (zI 0)), some (.int (zI bk)), some (.int (zI ((m * 3) + bk))), some (.int (zI (((m * 3) + bk) + 3))), some (.int (zI m)), some (.int (zI 0)), some (.int (zI 1000)), some (.int (zI 1000)), some (.int (zI ((m + 1) + 1))), some (.int (zI 1000)), some (.int (zI 1000)), some (.int (zI (-1)))], [.int (zI ((m + 1) + 1)), .int (zI (((m * 3) + bk) + 3)), .ref 132], es19)) i_53_359 rfl ?_
      refine x0 (r := (363, [some (.ref 132), some (.int (zI m)), some (.int (zI kd)), some (.int (zI mo)), some (.int (zI 0)), some (.int (zI 0)), some (.int (zI 0)), some (.int (zI 0)), some (.int (zI bk)), some (.int (zI ((m * 3) + bk))), some (.int (zI (((m * 3) + bk) + 3))), some (.int (zI m)), some (.int (zI 0)), some (.int (zI 1000)), some (.int (zI 1000)), some (.int (zI ((m + 1) + 1))), some (.int (zI 1000)), some (.int (zI 1000)), some (.int (zI (-1)))], [.int (zI 1000), .int (zI ((m + 1) + 1)), .int (zI (((m * 3) + bk) + 3)), .ref 132], es19)) i_53_361 rfl ?_
      refine x_call (vs := [.ref 132, .int (zI (((m * 3) + bk) + 3)), .int (zI ((m + 1) + 1)), .int (zI 1000)]) (rs := []) i_53_363 rfl (fun _ => rfl) rfl rfl rfl rfl rfl (pCall_v (p := 68) hs_es19 rfl rfl rfl rfl rfl (by decide) rfl rfl rfl rfl rfl) ?_
      show aW _ _ _ _ _ _ (0, [some (.ref 132), some (.int (zI (((m * 3) + bk) + 3))), some (.int (zI ((m + 1) + 1))), some (.int (zI 1000))], [], es19)
      refine x0 (r := (1, [some (.ref 132), some (.int (zI (((m * 3) + bk) + 3))), some (.int (zI ((m + 1) + 1))), some (.int (zI 1000))], [.ref 132], es19)) i_27_0 rfl ?_
      refine x_getr (p := 68) (k := 133) i_27_1 hs_es19 rfl rfl ?_
      show aW _ _ _ _ _ _ (4, [some (.ref 132), some (.int (zI (((m * 3) + bk) + 3))), some (.int (zI ((m + 1) + 1))), some (.int (zI 1000))], [.ref 133], es19)
      refine x0 (r := (5, [some (.ref 132), some (.int (zI (((m * 3) + bk) + 3))), some (.int (zI ((m + 1) + 1))), some (.int (zI 1000))], [.int (zI (((m * 3) + bk) + 3)), .ref 133], es19)) i_27_4 rfl ?_
      refine x0 (r := (7, [some (.ref 132), some (.int (zI (((m * 3) + bk) + 3))), some (.int (zI ((m + 1) + 1))), some (.int (zI 1000))], [.int (zI 25), .int (zI (((m * 3) + bk) + 3)), .ref 133], es19)) i_27_5 (by rfl) ?_
      refine x_imul i_27_7 ?_
      refine x0 (r := (9, [some (.ref 132), some (.int (zI (((m * 3) + bk) + 3))), some (.int (zI ((m + 1) + 1))), some (.int (zI 1000))], [.int (zI ((m + 1) + 1)), .int (zI ((((m * 3) + bk) + 3) * 25)), .ref 133], es19)) i_27_8 rfl ?_
      refine x_iadd i_27_9 ?_
      refine x0 (r := (11, [some (.ref 132), some (.int (zI (((m * 3) + bk) + 3))), some (.int (zI ((m + 1) + 1))), some (.int (zI 1000))], [.int (zI 1000), .int (zI (((((m * 3) + bk) + 3) * 25) + ((m + 1) + 1))), .ref 133], es19)) i_27_10 rfl ?_
      refine x_call (vs := [.ref 133, .int (zI (((((m * 3) + bk) + 3) * 25) + ((m + 1) + 1))), .int (zI 1000)]) (rs := []) i_27_11 rfl (fun _ => rfl) rfl rfl rfl rfl rfl rfl ?_
      show aW _ _ _ _ _ _ (0, [some (.ref 133), some (.int (zI (((((m * 3) + bk) + 3) * 25) + ((m + 1) + 1)))), some (.int (zI 1000))], [], es19)
      refine x0 (r := (1, [some (.ref 133), some (.int (zI (((((m * 3) + bk) + 3) * 25) + ((m + 1) + 1)))), some (.int (zI 1000))], [.int (zI (((((m * 3) + bk) + 3) * 25) + ((m + 1) + 1)))], es19)) i_14_0 rfl ?_
      refine x_ifF i_14_1 (by unfold i32 iLO iHI; omega) rfl (by simp only [zC, cR]; omega) ?_
      refine x0 (r := (5, [some (.ref 133), some (.int (zI (((((m * 3) + bk) + 3) * 25) + ((m + 1) + 1)))), some (.int (zI 1000))], [.int (zI (((((m * 3) + bk) + 3) * 25) + ((m + 1) + 1)))], es19)) i_14_4 rfl ?_
      refine x0 (r := (6, [some (.ref 133), some (.int (zI (((((m * 3) + bk) + 3) * 25) + ((m + 1) + 1)))), some (.int (zI 1000))], [.ref 133, .int (zI (((((m * 3) + bk) + 3) * 25) + ((m + 1) + 1)))], es19)) i_14_5 rfl ?_
      refine x_alen (p := 69) (n := 2325) i_14_6 hs_es19 rfl ?_
      refine x_cmpF i_14_7 (by unfold i32 iLO iHI; omega) (by unfold i32 iLO iHI; omega) rfl (by simp only [zC, cR]; omega) ?_
      refine x0 (r := (11, [some (.ref 133), some (.int (zI (((((m * 3) + bk) + 3) * 25) + ((m + 1) + 1)))), some (.int (zI 1000))], [.ref 133], es19)) i_14_10 rfl ?_
      refine x0 (r := (12, [some (.ref 133), some (.int (zI (((((m * 3) + bk) + 3) * 25) + ((m + 1) + 1)))), some (.int (zI 1000))], [.int (zI (((((m * 3) + bk) + 3) * 25) + ((m + 1) + 1))), .ref 133], es19)) i_14_11 rfl ?_
      refine x0 (r := (13, [some (.ref 133), some (.int (zI (((((m * 3) + bk) + 3) * 25) + ((m + 1) + 1)))), some (.int (zI 1000))], [.int (zI 1000), .int (zI (((((m * 3) + bk) + 3) * 25) + ((m + 1) + 1))), .ref 133], es19)) i_14_12 rfl ?_
      refine x_iast (p := 69) i_14_13 hs_es19 rfl (by unfold i32 iLO iHI; omega) (by omega) (by omega) ?_
      obtain ⟨es22, e_es22⟩ : ∃ z : PH, z = sA es19 69 (((((m * 3) + bk) + 3) * 25) + ((m + 1) + 1)).toNat (zI 1000) := ⟨_, rfl⟩
      have hs_es22 : sh es22 := by rw [e_es22]; exact sh_sA hs_es19
      rw [← e_es22]
      refine x_ret (v := none) i_14_14 rfl (fun _ => rfl) rfl rfl rfl ?_
      show aW _ _ _ _ _ _ (14, [some (.ref 132), some (.int (zI (((m * 3) + bk) + 3))), some (.int (zI ((m + 1) + 1))), some (.int (zI 1000))], [], es22)
      refine x0 (r := (15, [some (.ref 132), some (.int (zI (((m * 3) + bk) + 3))), some (.int (zI ((m + 1) + 1))), some (.int (zI 1000))], [.int (zI 1000)], es22)) i_27_14 rfl ?_
      refine x0 (r := (18, [some (.ref 132), some (.int (zI (((m * 3) + bk) + 3))), some (.int (zI ((m + 1) + 1))), some (.int (zI 1000))], [.int (zI 1000), .int (zI 1000)], es22)) i_27_15 (by rfl) ?_
      refine x_cmpT i_27_18 (by unfold i32 iLO iHI; omega) (by unfold i32 iLO iHI; omega) rfl (by simp only [zC, cR]; omega) ?_
      refine x_ret (v := none) i_27_70 rfl (fun _ => rfl) rfl rfl rfl ?_
      show aW _ _ _ _ _ _ (366, [some (.ref 132), some (.int (zI m)), some (.int (zI kd)), some (.int (zI mo)), some (.int (zI 0)), some (.int (zI 0)), some (.int (zI 0)), some (.int (zI 0)), some (.int (zI bk)), some (.int (zI ((m * 3) + bk))), some (.int (zI (((m * 3) + bk) + 3))), some (.int (zI m)), some (.int (zI 0)), some (.int (zI 1000)), some (.int (zI 1000)), some (.int (zI ((m + 1) + 1))), some (.int (zI 1000)), some (.int (zI 1000)), some (.int (zI (-1)))], [], es22)
      refine x_iinc (x := ((m + 1) + 1)) i_53_366 rfl (by show 15 < 19; decide) ?_
      show aW _ _ _ _ _ _ (369, [some (.ref 132), some (.int (zI m)), some (.int (zI kd)), some (.int (zI mo)), some (.int (zI 0)), some (.int (zI 0)), some (.int (zI 0)), some (.int (zI 0)), some (.int (zI bk)), some (.int (zI ((m * 3) + bk))), some (.int (zI (((m * 3) + bk) + 3))), some (.int (zI m)), some (.int (zI 0)), some (.int (zI 1000)), some (.int (zI 1000)), some (.int (zI (((m + 1) + 1) + 1))), some (.int (zI 1000)), some (.int (zI 1000)), some (.int (zI (-1)))], [], es22)
      refine x0 (r := (146, [some (.ref 132), some (.int (zI m)), some (.int (zI kd)), some (.int (zI mo)), some (.int (zI 0)), some (.int (zI 0)), some (.int (zI 0)), some (.int (zI 0)), some (.int (zI bk)), some (.int (zI ((m * 3) + bk))), some (.int (zI (((m * 3) + bk) + 3))), some (.int (zI m)), some (.int (zI 0)), some (.int (zI 1000)), some (.int (zI 1000)), some (.int (zI (((m + 1) + 1) + 1))), some (.int (zI 1000)), some (.int (zI 1000)), some (.int (zI (-1)))], [], es22)) i_53_369 rfl ?_
      refine x0 (r := (148, [some (.ref 132), some (.int (zI m)), some (.int (zI kd)), some (.int (zI mo)), some (.int (zI 0)), some (.int (zI 0)), some (.int (zI 0)), some (.int (zI 0)), some (.int (zI bk)), some (.int (zI ((m * 3) + bk))), some (.int (zI (((m * 3) + bk) + 3))), some (.int (zI m)), some (.int (zI 0)), some (.int (zI 1000)), some (.int (zI 1000)), some (.int (zI (((m + 1) + 1) + 1))), some (.int (zI 1000)), some (.int (zI 1000)), some (.int (zI (-1)))], [.int (zI (((m + 1) + 1) + 1))], es22)) i_53_146 rfl ?_
      refine x0 (r := (149, [some (.ref 132), some (.int (zI m)), some (.int (zI kd)), some (.int (zI mo)), some (.int (zI 0)), some (.int (zI 0)), some (.int (zI 0)), some (.int (zI 0)), some (.int (zI bk)), some (.int (zI ((m * 3) + bk))), some (.int (zI (((m * 3) + bk) + 3))), some (.int (zI m)), some (.int (zI 0)), some (.int (zI 1000)), some (.int (zI 1000)), some (.int (zI (((m + 1) + 1) + 1))), some (.int (zI 1000)), some (.int (zI 1000)), some (.int (zI (-1)))], [.ref 132, .int (zI (((m + 1) + 1) + 1))], es22)) i_53_148 rfl ?_
      refine x_getr (p := 68) (k := 71) i_53_149 hs_es22 rfl rfl ?_
      show aW _ _ _ _ _ _ (152, [some (.ref 132), some (.int (zI m)), some (.int (zI kd)), some (.int (zI mo)), some (.int (zI 0)), some (.int (zI 0)), some (.int (zI 0)), some (.int (zI 0)), some (.int (zI bk)), some (.int (zI ((m * 3) + bk))), some (.int (zI (((m * 3) + bk) + 3))), some (.int (zI m)), some (.int (zI 0)), some (.int (zI 1000)), some (.int (zI 1000)), some (.int (zI (((m + 1) + 1) + 1))), some (.int (zI 1000)), some (.int (zI 1000)), some (.int (zI (-1)))], [.ref 71, .int (zI (((m + 1) + 1) + 1))], es22)
      refine x0 (r := (154, [some (.ref 132), some (.int (zI m)), some (.int (zI kd)), some (.int (zI mo)), some (.int (zI 0)), some (.int (zI 0)), some (.int (zI 0)), some (.int (zI 0)), some (.int (zI bk)), some (.int (zI ((m * 3) + bk))), some (.int (zI (((m * 3) + bk) + 3))), some (.int (zI m)), some (.int (zI 0)), some (.int (zI 1000)), some (.int (zI 1000)), some (.int (zI (((m + 1) + 1) + 1))), some (.int (zI 1000)), some (.int (zI 1000)), some (.int (zI (-1)))], [.int (zI bk), .ref 71, .int (zI (((m + 1) + 1) + 1))], es22)) i_53_152 rfl ?_
      refine x_call (vs := [.ref 71, .int (zI bk)]) (rs := [.int (zI (((m + 1) + 1) + 1))]) i_53_154 rfl (fun _ => rfl) rfl rfl rfl rfl rfl (pCall_v (p := 7) hs_es22 rfl rfl rfl rfl rfl (by decide) rfl rfl rfl rfl rfl) ?_
      show aW _ _ _ _ _ _ (0, [some (.ref 71), some (.int (zI bk))], [], es22)
      refine x0 (r := (1, [some (.ref 71), some (.int (zI bk))], [.ref 71], es22)) i_35_0 rfl ?_
      refine x_getr (p := 7) (k := 77) i_35_1 hs_es22 rfl rfl ?_
      show aW _ _ _ _ _ _ (4, [some (.ref 71), some (.int (zI bk))], [.ref 77], es22)
      refine x0 (r := (5, [some (.ref 71), some (.int (zI bk))], [.int (zI bk), .ref 77], es22)) i_35_4 rfl ?_
      refine x_call (vs := [.ref 77, .int (zI bk)]) (rs := []) i_35_5 rfl (fun _ => rfl) rfl rfl rfl rfl rfl rfl ?_
      show aW _ _ _ _ _ _ (0, [some (.ref 77), some (.int (zI bk))], [], es22)
      refine x0 (r := (1, [some (.ref 77), some (.int (zI bk))], [.int (zI bk)], es22)) i_28_0 rfl ?_
      refine x_ifF i_28_1 (by unfold i32 iLO iHI; omega) rfl (by simp only [zC, cR]; omega) ?_
      refine x0 (r := (5, [some (.ref 77), some (.int (zI bk))], [.int (zI bk)], es22)) i_28_4 rfl ?_
      refine x0 (r := (6, [some (.ref 77), some (.int (zI bk))], [.ref 77, .int (zI bk)], es22)) i_28_5 rfl ?_
      refine x_alen (p := 13) (n := 3) i_28_6 hs_es22 rfl ?_
      refine x_cmpF i_28_7 (by unfold i32 iLO iHI; omega) (by unfold i32 iLO iHI; omega) rfl (by simp only [zC, cR]; omega) ?_
      refine x0 (r := (11, [some (.ref 77), some (.int (zI bk))], [.ref 77], es22)) i_28_10 rfl ?_
      refine x0 (r := (12, [some (.ref 77), some (.int (zI bk))], [.int (zI bk), .ref 77], es22)) i_28_11 rfl ?_
      refine x_iald (p := 13) i_28_12 hs_es22 rfl (by unfold i32 iLO iHI; omega) (by omega) (by omega) ?_
      rw [show (gA es22 13 bk.toNat).toInt = nb from by rw [e_es22, gA_sA_ne (by decide), e_es19, gA_sA_ne (by decide), e_es16, gA_sA_ne (by decide), e_es15, gA_sA_ne (by decide), e_es12, gA_sA_ne (by decide), e_es4, gA_sA_ne (by decide), e_es3, gA_sA_ne (by decide), e_es2, gA_sA_ne (by decide), e_es1, gA_sA_ne (by decide)]; exact hnb]
      have r_nb : -2147483648 ≤ nb ∧ nb ≤ 2147483647 := by
        have hh := i32_rng (gA es 13 bk.toNat)
        rw [hnb] at hh
        exact hh
      refine x0 (r := (17, [some (.ref 77), some (.int (zI bk))], [.int (zI nb)], es22)) i_28_13 rfl ?_
      refine x_ret (v := some (.int (zI nb))) i_28_17 rfl (fun _ => rfl) rfl rfl rfl ?_
      show aW _ _ _ _ _ _ (8, [some (.ref 71), some (.int (zI bk))], [.int (zI nb)], es22)
      refine x_ret (v := some (.int (zI nb))) i_35_8 rfl (fun _ => rfl) rfl rfl rfl ?_
      show aW _ _ _ _ _ _ (157, [some (.ref 132), some (.int (zI m)), some (.int (zI kd)), some (.int (zI mo)), some (.int (zI 0)), some (.int (zI 0)), some (.int (zI 0)), some (.int (zI 0)), some (.int (zI bk)), some (.int (zI ((m * 3) + bk))), some (.int (zI (((m * 3) + bk) + 3))), some (.int (zI m)), some (.int (zI 0)), some (.int (zI 1000)), some (.int (zI 1000)), some (.int (zI (((m + 1) + 1) + 1))), some (.int (zI 1000)), some (.int (zI 1000)), some (.int (zI (-1)))], [.int (zI nb), .int (zI (((m + 1) + 1) + 1))], es22)
      by_cases c23 : nb < (((m + 1) + 1) + 1)
      · refine x_cmpT i_53_157 (by unfold i32 iLO iHI; omega) (by unfold i32 iLO iHI; omega) rfl (by simp only [zC, cR]; omega) ?_
        refine x0 (r := (374, [some (.ref 132), some (.int (zI m)), some (.int (zI kd)), some (.int (zI mo)), some (.int (zI 0)), some (.int (zI 0)), some (.int (zI 0)), some (.int (zI 0)), some (.int (zI bk)), some (.int (zI ((m * 3) + bk))), some (.int (zI (((m * 3) + bk) + 3))), some (.int (zI m)), some (.int (zI 0)), some (.int (zI 1000)), some (.int (zI 1000)), some (.int (zI (((m + 1) + 1) + 1))), some (.int (zI 1000)), some (.int (zI 1000)), some (.int (zI (-1)))], [.int (zI 0)], es22)) i_53_372 rfl ?_
        refine x0 (r := (375, [some (.ref 132), some (.int (zI m)), some (.int (zI kd)), some (.int (zI mo)), some (.int (zI 0)), some (.int (zI 0)), some (.int (zI 0)), some (.int (zI 0)), some (.int (zI bk)), some (.int (zI ((m * 3) + bk))), some (.int (zI (((m * 3) + bk) + 3))), some (.int (zI m)), some (.int (zI 0)), some (.int (zI 1000)), some (.int (zI 1000)), some (.int (zI (((m + 1) + 1) + 1))), some (.int (zI 1000)), some (.int (zI 1000)), some (.int (zI (-1)))], [.ref 132, .int (zI 0)], es22)) i_53_374 rfl ?_
        refine x_getr (p := 68) (k := 136) i_53_375 hs_es22 rfl rfl ?_
        show aW _ _ _ _ _ _ (378, [some (.ref 132), some (.int (zI m)), some (.int (zI kd)), some (.int (zI mo)), some (.int (zI 0)), some (.int (zI 0)), some (.int (zI 0)), some (.int (zI 0)), some (.int (zI bk)), some (.int (zI ((m * 3) + bk))), some (.int (zI (((m * 3) + bk) + 3))), some (.int (zI m)), some (.int (zI 0)), some (.int (zI 1000)), some (.int (zI 1000)), some (.int (zI (((m + 1) + 1) + 1))), some (.int (zI 1000)), some (.int (zI 1000)), some (.int (zI (-1)))], [.ref 136, .int (zI 0)], es22)
        refine x0 (r := (380, [some (.ref 132), some (.int (zI m)), some (.int (zI kd)), some (.int (zI mo)), some (.int (zI 0)), some (.int (zI 0)), some (.int (zI 0)), some (.int (zI 0)), some (.int (zI bk)), some (.int (zI ((m * 3) + bk))), some (.int (zI (((m * 3) + bk) + 3))), some (.int (zI m)), some (.int (zI 0)), some (.int (zI 1000)), some (.int (zI 1000)), some (.int (zI (((m + 1) + 1) + 1))), some (.int (zI 1000)), some (.int (zI 1000)), some (.int (zI (-1)))], [.int (zI (((m * 3) + bk) + 3)), .ref 136, .int (zI 0)], es22)) i_53_378 rfl ?_
        refine x_call (vs := [.ref 136, .int (zI (((m * 3) + bk) + 3))]) (rs := [.int (zI 0)]) i_53_380 rfl (fun _ => rfl) rfl rfl rfl rfl rfl rfl ?_
        show aW _ _ _ _ _ _ (0, [some (.ref 136), some (.int (zI (((m * 3) + bk) + 3)))], [], es22)
        refine x0 (r := (1, [some (.ref 136), some (.int (zI (((m * 3) + bk) + 3)))], [.int (zI (((m * 3) + bk) + 3))], es22)) i_28_0 rfl ?_
        refine x_ifF i_28_1 (by unfold i32 iLO iHI; omega) rfl (by simp only [zC, cR]; omega) ?_
        refine x0 (r := (5, [some (.ref 136), some (.int (zI (((m * 3) + bk) + 3)))], [.int (zI (((m * 3) + bk) + 3))], es22)) i_28_4 rfl ?_
        refine x0 (r := (6, [some (.ref 136), some (.int (zI (((m * 3) + bk) + 3)))], [.ref 136, .int (zI (((m * 3) + bk) + 3))], es22)) i_28_5 rfl ?_
        refine x_alen (p := 72) (n := 93) i_28_6 hs_es22 rfl ?_
        refine x_cmpF i_28_7 (by unfold i32 iLO iHI; omega) (by unfold i32 iLO iHI; omega) rfl (by simp only [zC, cR]; omega) ?_
        refine x0 (r := (11, [some (.ref 136), some (.int (zI (((m * 3) + bk) + 3)))], [.ref 136], es22)) i_28_10 rfl ?_
        refine x0 (r := (12, [some (.ref 136), some (.int (zI (((m * 3) + bk) + 3)))], [.int (zI (((m * 3) + bk) + 3)), .ref 136], es22)) i_28_11 rfl ?_
        refine x_iald (p := 72) i_28_12 hs_es22 rfl (by unfold i32 iLO iHI; omega) (by omega) (by omega) ?_
        obtain ⟨v24, e_v24⟩ : ∃ z : Int, z = (gA es22 72 (((m * 3) + bk) + 3).toNat).toInt := ⟨_, rfl⟩
        rw [← e_v24]
        have r_v24 : iLO ≤ v24 ∧ v24 ≤ iHI := by rw [e_v24]; exact i32_rng _
        unfold iLO iHI at r_v24
        refine x0 (r := (17, [some (.ref 136), some (.int (zI (((m * 3) + bk) + 3)))], [.int (zI v24)], es22)) i_28_13 rfl ?_
        refine x_ret (v := some (.int (zI v24))) i_28_17 rfl (fun _ => rfl) rfl rfl rfl ?_
        show aW _ _ _ _ _ _ (383, [some (.ref 132), some (.int (zI m)), some (.int (zI kd)), some (.int (zI mo)), some (.int (zI 0)), some (.int (zI 0)), some (.int (zI 0)), some (.int (zI 0)), some (.int (zI bk)), some (.int (zI ((m * 3) + bk))), some (.int (zI (((m * 3) + bk) + 3))), some (.int (zI m)), some (.int (zI 0)), some (.int (zI 1000)), some (.int (zI 1000)), some (.int (zI (((m + 1) + 1) + 1))), some (.int (zI 1000)), some (.int (zI 1000)), some (.int (zI (-1)))], [.int (zI v24), .int (zI 0)], es22)
        refine x_iadd i_53_383 ?_
        refine x0 (r := (386, [some (.ref 132), some (.int (zI m)), some (.int (zI kd)), some (.int (zI mo)), some (.int (zI 0)), some (.int (zI 0)), some (.int (zI (0 + v24))), some (.int (zI 0)), some (.int (zI bk)), some (.int (zI ((m * 3) + bk))), some (.int (zI (((m * 3) + bk) + 3))), some (.int (zI m)), some (.int (zI 0)), some (.int (zI 1000)), some (.int (zI 1000)), some (.int (zI (((m + 1) + 1) + 1))), some (.int (zI 1000)), some (.int (zI 1000)), some (.int (zI (-1)))], [], es22)) i_53_384 rfl ?_
        refine x_iinc (x := bk) i_53_386 rfl (by show 8 < 19; decide) ?_
        show aW _ _ _ _ _ _ (389, [some (.ref 132), some (.int (zI m)), some (.int (zI kd)), some (.int (zI mo)), some (.int (zI 0)), some (.int (zI 0)), some (.int (zI (0 + v24))), some (.int (zI 0)), some (.int (zI (bk + 1))), some (.int (zI ((m * 3) + bk))), some (.int (zI (((m * 3) + bk) + 3))), some (.int (zI m)), some (.int (zI 0)), some (.int (zI 1000)), some (.int (zI 1000)), some (.int (zI (((m + 1) + 1) + 1))), some (.int (zI 1000)), some (.int (zI 1000)), some (.int (zI (-1)))], [], es22)
        refine x0 (r := (47, [some (.ref 132), some (.int (zI m)), some (.int (zI kd)), some (.int (zI mo)), some (.int (zI 0)), some (.int (zI 0)), some (.int (zI (0 + v24))), some (.int (zI 0)), some (.int (zI (bk + 1))), some (.int (zI ((m * 3) + bk))), some (.int (zI (((m * 3) + bk) + 3))), some (.int (zI m)), some (.int (zI 0)), some (.int (zI 1000)), some (.int (zI 1000)), some (.int (zI (((m + 1) + 1) + 1))), some (.int (zI 1000)), some (.int (zI 1000)), some (.int (zI (-1)))], [], es22)) i_53_389 rfl ?_
        refine x0 (r := (49, [some (.ref 132), some (.int (zI m)), some (.int (zI kd)), some (.int (zI mo)), some (.int (zI 0)), some (.int (zI 0)), some (.int (zI (0 + v24))), some (.int (zI 0)), some (.int (zI (bk + 1))), some (.int (zI ((m * 3) + bk))), some (.int (zI (((m * 3) + bk) + 3))), some (.int (zI m)), some (.int (zI 0)), some (.int (zI 1000)), some (.int (zI 1000)), some (.int (zI (((m + 1) + 1) + 1))), some (.int (zI 1000)), some (.int (zI 1000)), some (.int (zI (-1)))], [.int (zI (bk + 1))], es22)) i_53_47 rfl ?_
        refine x0 (r := (50, [some (.ref 132), some (.int (zI m)), some (.int (zI kd)), some (.int (zI mo)), some (.int (zI 0)), some (.int (zI 0)), some (.int (zI (0 + v24))), some (.int (zI 0)), some (.int (zI (bk + 1))), some (.int (zI ((m * 3) + bk))), some (.int (zI (((m * 3) + bk) + 3))), some (.int (zI m)), some (.int (zI 0)), some (.int (zI 1000)), some (.int (zI 1000)), some (.int (zI (((m + 1) + 1) + 1))), some (.int (zI 1000)), some (.int (zI 1000)), some (.int (zI (-1)))], [.ref 132, .int (zI (bk + 1))], es22)) i_53_49 rfl ?_
        refine x_getr (p := 68) (k := 117) i_53_50 hs_es22 rfl rfl ?_
        show aW _ _ _ _ _ _ (53, [some (.ref 132), some (.int (zI m)), some (.int (zI kd)), some (.int (zI mo)), some (.int (zI 0)), some (.int (zI 0)), some (.int (zI (0 + v24))), some (.int (zI 0)), some (.int (zI (bk + 1))), some (.int (zI ((m * 3) + bk))), some (.int (zI (((m * 3) + bk) + 3))), some (.int (zI m)), some (.int (zI 0)), some (.int (zI 1000)), some (.int (zI 1000)), some (.int (zI (((m + 1) + 1) + 1))), some (.int (zI 1000)), some (.int (zI 1000)), some (.int (zI (-1)))], [.ref 117, .int (zI (bk + 1))], es22)
        refine x_geti (p := 53) i_53_53 hs_es22 rfl rfl ?_
        rw [show (gI es22 53 1).toInt = (bk + 1) from by rw [e_es22, gI_sA, e_es19, gI_sA, e_es16, gI_sA, e_es15, gI_sA, e_es12, gI_sA, e_es4, gI_sA, e_es3, gI_sA, e_es2, gI_sA, e_es1, gI_sA]; exact hq1]
        refine x_cmpT i_53_56 (by unfold i32 iLO iHI; omega) (by unfold i32 iLO iHI; omega) rfl (by simp only [zC, cR]; omega) ?_
        refine x0 (r := (394, [some (.ref 132), some (.int (zI m)), some (.int (zI kd)), some (.int (zI mo)), some (.int (zI 0)), some (.int (zI 0)), some (.int (zI (0 + v24))), some (.int (zI 0)), some (.int (zI (bk + 1))), some (.int (zI ((m * 3) + bk))), some (.int (zI (((m * 3) + bk) + 3))), some (.int (zI m)), some (.int (zI 0)), some (.int (zI 1000)), some (.int (zI 1000)), some (.int (zI (((m + 1) + 1) + 1))), some (.int (zI 1000)), some (.int (zI 1000)), some (.int (zI (-1)))], [.int (zI (0 + v24))], es22)) i_53_392 rfl ?_
        refine x_ret (v := some (.int (zI (0 + v24)))) i_53_394 rfl (fun _ => rfl) rfl rfl rfl ?_
        exact K4 es1 e_es1 es2 e_es2 es3 e_es3 es4 e_es4 v5 e_v5 v6 p_v6 c7 es12 e_es12 v13 e_v13 v14 e_v14 es15 e_es15 es16 e_es16 v17 e_v17 v18 e_v18 es19 e_es19 c20 es22 e_es22 c23 v24 e_v24
      · refine x_cmpF i_53_157 (by unfold i32 iLO iHI; omega) (by unfold i32 iLO iHI; omega) rfl (by simp only [zC, cR]; omega) ?_
        refine x0 (r := (162, [some (.ref 132), some (.int (zI m)), some (.int (zI kd)), some (.int (zI mo)), some (.int (zI 0)), some (.int (zI 0)), some (.int (zI 0)), some (.int (zI 0)), some (.int (zI bk)), some (.int (zI ((m * 3) + bk))), some (.int (zI (((m * 3) + bk) + 3))), some (.int (zI m)), some (.int (zI 0)), some (.int (zI 1000)), some (.int (zI 1000)), some (.int (zI (((m + 1) + 1) + 1))), some (.int (zI 1000)), some (.int (zI 1000)), some (.int (zI (-1)))], [.int (zI (((m + 1) + 1) + 1))], es22)) i_53_160 rfl ?_
        refine x0 (r := (164, [some (.ref 132), some (.int (zI m)), some (.int (zI kd)), some (.int (zI mo)), some (.int (zI 0)), some (.int (zI 0)), some (.int (zI 0)), some (.int (zI 0)), some (.int (zI bk)), some (.int (zI ((m * 3) + bk))), some (.int (zI (((m * 3) + bk) + 3))), some (.int (zI m)), some (.int (zI 0)), some (.int (zI 1000)), some (.int (zI 1000)), some (.int (zI (((m + 1) + 1) + 1))), some (.int (zI 1000)), some (.int (zI 1000)), some (.int (zI (-1)))], [.int (zI m), .int (zI (((m + 1) + 1) + 1))], es22)) i_53_162 rfl ?_
        refine x0 (r := (165, [some (.ref 132), some (.int (zI m)), some (.int (zI kd)), some (.int (zI mo)), some (.int (zI 0)), some (.int (zI 0)), some (.int (zI 0)), some (.int (zI 0)), some (.int (zI bk)), some (.int (zI ((m * 3) + bk))), some (.int (zI (((m * 3) + bk) + 3))), some (.int (zI m)), some (.int (zI 0)), some (.int (zI 1000)), some (.int (zI 1000)), some (.int (zI (((m + 1) + 1) + 1))), some (.int (zI 1000)), some (.int (zI 1000)), some (.int (zI (-1)))], [.int (zI 1), .int (zI m), .int (zI (((m + 1) + 1) + 1))], es22)) i_53_164 (by rfl) ?_
        refine x_iadd i_53_165 ?_
        refine x_cmpF i_53_166 (by unfold i32 iLO iHI; omega) (by unfold i32 iLO iHI; omega) rfl (by simp only [zC, cR]; omega) ?_
        refine x0 (r := (171, [some (.ref 132), some (.int (zI m)), some (.int (zI kd)), some (.int (zI mo)), some (.int (zI 0)), some (.int (zI 0)), some (.int (zI 0)), some (.int (zI 0)), some (.int (zI bk)), some (.int (zI ((m * 3) + bk))), some (.int (zI (((m * 3) + bk) + 3))), some (.int (zI m)), some (.int (zI 0)), some (.int (zI 1000)), some (.int (zI 1000)), some (.int (zI (((m + 1) + 1) + 1))), some (.int (zI 1000)), some (.int (zI 1000)), some (.int (zI (-1)))], [.int (zI 1000)], es22)) i_53_169 rfl ?_
        refine x0 (r := (174, [some (.ref 132), some (.int (zI m)), some (.int (zI kd)), some (.int (zI mo)), some (.int (zI 0)), some (.int (zI 0)), some (.int (zI 0)), some (.int (zI 0)), some (.int (zI bk)), some (.int (zI ((m * 3) + bk))), some (.int (zI (((m * 3) + bk) + 3))), some (.int (zI m)), some (.int (zI 0)), some (.int (zI 1000)), some (.int (zI 1000)), some (.int (zI (((m + 1) + 1) + 1))), some (.int (zI 1000)), some (.int (zI 1000)), some (.int (zI (-1)))], [.int (zI 1000), .int (zI 1000)], es22)) i_53_171 (by rfl) ?_
        refine x_cmpT i_53_174 (by unfold i32 iLO iHI; omega) (by unfold i32 iLO iHI; omega) rfl (by simp only [zC, cR]; omega) ?_
        refine x0 (r := (374, [some (.ref 132), some (.int (zI m)), some (.int (zI kd)), some (.int (zI mo)), some (.int (zI 0)), some (.int (zI 0)), some (.int (zI 0)), some (.int (zI 0)), some (.int (zI bk)), some (.int (zI ((m * 3) + bk))), some (.int (zI (((m * 3) + bk) + 3))), some (.int (zI m)), some (.int (zI 0)), some (.int (zI 1000)), some (.int (zI 1000)), some (.int (zI (((m + 1) + 1) + 1))), some (.int (zI 1000)), some (.int (zI 1000)), some (.int (zI (-1)))], [.int (zI 0)], es22)) i_53_372 rfl ?_
        refine x0 (r := (375, [some (.ref 132), some (.int (zI m)), some (.int (zI kd)), some (.int (zI mo)), some (.int (zI 0)), some (.int (zI 0)), some (.int (zI 0)), some (.int (zI 0)), some (.int (zI bk)), some (.int (zI ((m * 3) + bk))), some (.int (zI (((m * 3) + bk) + 3))), some (.int (zI m)), some (.int (zI 0)), some (.int (zI 1000)), some (.int (zI 1000)), some (.int (zI (((m + 1) + 1) + 1))), some (.int (zI 1000)), some (.int (zI 1000)), some (.int (zI (-1)))], [.ref 132, .int (zI 0)], es22)) i_53_374 rfl ?_
        refine x_getr (p := 68) (k := 136) i_53_375 hs_es22 rfl rfl ?_
        show aW _ _ _ _ _ _ (378, [some (.ref 132), some (.int (zI m)), some (.int (zI kd)), some (.int (zI mo)), some (.int (zI 0)), some (.int (zI 0)), some (.int (zI 0)), some (.int (zI 0)), some (.int (zI bk)), some (.int (zI ((m * 3) + bk))), some (.int (zI (((m * 3) + bk) + 3))), some (.int (zI m)), some (.int (zI 0)), some (.int (zI 1000)), some (.int (zI 1000)), some (.int (zI (((m + 1) + 1) + 1))), some (.int (zI 1000)), some (.int (zI 1000)), some (.int (zI (-1)))], [.ref 136, .int (zI 0)], es22)
        refine x0 (r := (380, [some (.ref 132), some (.int (zI m)), some (.int (zI kd)), some (.int (zI mo)), some (.int (zI 0)), some (.int (zI 0)), some (.int (zI 0)), some (.int (zI 0)), some (.int (zI bk)), some (.int (zI ((m * 3) + bk))), some (.int (zI (((m * 3) + bk) + 3))), some (.int (zI m)), some (.int (zI 0)), some (.int (zI 1000)), some (.int (zI 1000)), some (.int (zI (((m + 1) + 1) + 1))), some (.int (zI 1000)), some (.int (zI 1000)), some (.int (zI (-1)))], [.int (zI (((m * 3) + bk) + 3)), .ref 136, .int (zI 0)], es22)) i_53_378 rfl ?_
        refine x_call (vs := [.ref 136, .int (zI (((m * 3) + bk) + 3))]) (rs := [.int (zI 0)]) i_53_380 rfl (fun _ => rfl) rfl rfl rfl rfl rfl rfl ?_
        show aW _ _ _ _ _ _ (0, [some (.ref 136), some (.int (zI (((m * 3) + bk) + 3)))], [], es22)
        refine x0 (r := (1, [some (.ref 136), some (.int (zI (((m * 3) + bk) + 3)))], [.int (zI (((m * 3) + bk) + 3))], es22)) i_28_0 rfl ?_
        refine x_ifF i_28_1 (by unfold i32 iLO iHI; omega) rfl (by simp only [zC, cR]; omega) ?_
        refine x0 (r := (5, [some (.ref 136), some (.int (zI (((m * 3) + bk) + 3)))], [.int (zI (((m * 3) + bk) + 3))], es22)) i_28_4 rfl ?_
        refine x0 (r := (6, [some (.ref 136), some (.int (zI (((m * 3) + bk) + 3)))], [.ref 136, .int (zI (((m * 3) + bk) + 3))], es22)) i_28_5 rfl ?_
        refine x_alen (p := 72) (n := 93) i_28_6 hs_es22 rfl ?_
        refine x_cmpF i_28_7 (by unfold i32 iLO iHI; omega) (by unfold i32 iLO iHI; omega) rfl (by simp only [zC, cR]; omega) ?_
        refine x0 (r := (11, [some (.ref 136), some (.int (zI (((m * 3) + bk) + 3)))], [.ref 136], es22)) i_28_10 rfl ?_
        refine x0 (r := (12, [some (.ref 136), some (.int (zI (((m * 3) + bk) + 3)))], [.int (zI (((m * 3) + bk) + 3)), .ref 136], es22)) i_28_11 rfl ?_
        refine x_iald (p := 72) i_28_12 hs_es22 rfl (by unfold i32 iLO iHI; omega) (by omega) (by omega) ?_
        obtain ⟨v25, e_v25⟩ : ∃ z : Int, z = (gA es22 72 (((m * 3) + bk) + 3).toNat).toInt := ⟨_, rfl⟩
        rw [← e_v25]
        have r_v25 : iLO ≤ v25 ∧ v25 ≤ iHI := by rw [e_v25]; exact i32_rng _
        unfold iLO iHI at r_v25
        refine x0 (r := (17, [some (.ref 136), some (.int (zI (((m * 3) + bk) + 3)))], [.int (zI v25)], es22)) i_28_13 rfl ?_
        refine x_ret (v := some (.int (zI v25))) i_28_17 rfl (fun _ => rfl) rfl rfl rfl ?_
        show aW _ _ _ _ _ _ (383, [some (.ref 132), some (.int (zI m)), some (.int (zI kd)), some (.int (zI mo)), some (.int (zI 0)), some (.int (zI 0)), some (.int (zI 0)), some (.int (zI 0)), some (.int (zI bk)), some (.int (zI ((m * 3) + bk))), some (.int (zI (((m * 3) + bk) + 3))), some (.int (zI m)), some (.int (zI 0)), some (.int (zI 1000)), some (.int (zI 1000)), some (.int (zI (((m + 1) + 1) + 1))), some (.int (zI 1000)), some (.int (zI 1000)), some (.int (zI (-1)))], [.int (zI v25), .int (zI 0)], es22)
        refine x_iadd i_53_383 ?_
        refine x0 (r := (386, [some (.ref 132), some (.int (zI m)), some (.int (zI kd)), some (.int (zI mo)), some (.int (zI 0)), some (.int (zI 0)), some (.int (zI (0 + v25))), some (.int (zI 0)), some (.int (zI bk)), some (.int (zI ((m * 3) + bk))), some (.int (zI (((m * 3) + bk) + 3))), some (.int (zI m)), some (.int (zI 0)), some (.int (zI 1000)), some (.int (zI 1000)), some (.int (zI (((m + 1) + 1) + 1))), some (.int (zI 1000)), some (.int (zI 1000)), some (.int (zI (-1)))], [], es22)) i_53_384 rfl ?_
        refine x_iinc (x := bk) i_53_386 rfl (by show 8 < 19; decide) ?_
        show aW _ _ _ _ _ _ (389, [some (.ref 132), some (.int (zI m)), some (.int (zI kd)), some (.int (zI mo)), some (.int (zI 0)), some (.int (zI 0)), some (.int (zI (0 + v25))), some (.int (zI 0)), some (.int (zI (bk + 1))), some (.int (zI ((m * 3) + bk))), some (.int (zI (((m * 3) + bk) + 3))), some (.int (zI m)), some (.int (zI 0)), some (.int (zI 1000)), some (.int (zI 1000)), some (.int (zI (((m + 1) + 1) + 1))), some (.int (zI 1000)), some (.int (zI 1000)), some (.int (zI (-1)))], [], es22)
        refine x0 (r := (47, [some (.ref 132), some (.int (zI m)), some (.int (zI kd)), some (.int (zI mo)), some (.int (zI 0)), some (.int (zI 0)), some (.int (zI (0 + v25))), some (.int (zI 0)), some (.int (zI (bk + 1))), some (.int (zI ((m * 3) + bk))), some (.int (zI (((m * 3) + bk) + 3))), some (.int (zI m)), some (.int (zI 0)), some (.int (zI 1000)), some (.int (zI 1000)), some (.int (zI (((m + 1) + 1) + 1))), some (.int (zI 1000)), some (.int (zI 1000)), some (.int (zI (-1)))], [], es22)) i_53_389 rfl ?_
        refine x0 (r := (49, [some (.ref 132), some (.int (zI m)), some (.int (zI kd)), some (.int (zI mo)), some (.int (zI 0)), some (.int (zI 0)), some (.int (zI (0 + v25))), some (.int (zI 0)), some (.int (zI (bk + 1))), some (.int (zI ((m * 3) + bk))), some (.int (zI (((m * 3) + bk) + 3))), some (.int (zI m)), some (.int (zI 0)), some (.int (zI 1000)), some (.int (zI 1000)), some (.int (zI (((m + 1) + 1) + 1))), some (.int (zI 1000)), some (.int (zI 1000)), some (.int (zI (-1)))], [.int (zI (bk + 1))], es22)) i_53_47 rfl ?_
        refine x0 (r := (50, [some (.ref 132), some (.int (zI m)), some (.int (zI kd)), some (.int (zI mo)), some (.int (zI 0)), some (.int (zI 0)), some (.int (zI (0 + v25))), some (.int (zI 0)), some (.int (zI (bk + 1))), some (.int (zI ((m * 3) + bk))), some (.int (zI (((m * 3) + bk) + 3))), some (.int (zI m)), some (.int (zI 0)), some (.int (zI 1000)), some (.int (zI 1000)), some (.int (zI (((m + 1) + 1) + 1))), some (.int (zI 1000)), some (.int (zI 1000)), some (.int (zI (-1)))], [.ref 132, .int (zI (bk + 1))], es22)) i_53_49 rfl ?_
        refine x_getr (p := 68) (k := 117) i_53_50 hs_es22 rfl rfl ?_
        show aW _ _ _ _ _ _ (53, [some (.ref 132), some (.int (zI m)), some (.int (zI kd)), some (.int (zI mo)), some (.int (zI 0)), some (.int (zI 0)), some (.int (zI (0 + v25))), some (.int (zI 0)), some (.int (zI (bk + 1))), some (.int (zI ((m * 3) + bk))), some (.int (zI (((m * 3) + bk) + 3))), some (.int (zI m)), some (.int (zI 0)), some (.int (zI 1000)), some (.int (zI 1000)), some (.int (zI (((m + 1) + 1) + 1))), some (.int (zI 1000)), some (.int (zI 1000)), some (.int (zI (-1)))], [.ref 117, .int (zI (bk + 1))], es22)
        refine x_geti (p := 53) i_53_53 hs_es22 rfl rfl ?_
        rw [show (gI es22 53 1).toInt = (bk + 1) from by rw [e_es22, gI_sA, e_es19, gI_sA, e_es16, gI_sA, e_es15, gI_sA, e_es12, gI_sA, e_es4, gI_sA, e_es3, gI_sA, e_es2, gI_sA, e_es1, gI_sA]; exact hq1]
        refine x_cmpT i_53_56 (by unfold i32 iLO iHI; omega) (by unfold i32 iLO iHI; omega) rfl (by simp only [zC, cR]; omega) ?_
        refine x0 (r := (394, [some (.ref 132), some (.int (zI m)), some (.int (zI kd)), some (.int (zI mo)), some (.int (zI 0)), some (.int (zI 0)), some (.int (zI (0 + v25))), some (.int (zI 0)), some (.int (zI (bk + 1))), some (.int (zI ((m * 3) + bk))), some (.int (zI (((m * 3) + bk) + 3))), some (.int (zI m)), some (.int (zI 0)), some (.int (zI 1000)), some (.int (zI 1000)), some (.int (zI (((m + 1) + 1) + 1))), some (.int (zI 1000)), some (.int (zI 1000)), some (.int (zI (-1)))], [.int (zI (0 + v25))], es22)) i_53_392 rfl ?_
        refine x_ret (v := some (.int (zI (0 + v25)))) i_53_394 rfl (fun _ => rfl) rfl rfl rfl ?_
        exact K5 es1 e_es1 es2 e_es2 es3 e_es3 es4 e_es4 v5 e_v5 v6 p_v6 c7 es12 e_es12 v13 e_v13 v14 e_v14 es15 e_es15 es16 e_es16 v17 e_v17 v18 e_v18 es19 e_es19 c20 es22 e_es22 c23 v25 e_v25
def wmP (bk m kd mo : Int) (es : PH) (v : Int) (es1 : PH) : Prop := hOK tT es1 ∧ (∀ p b, gI es1 p b = gI es p b) ∧ (∀ p, p ≠ 69 → p ≠ 70 → p ≠ 71 → p ≠ 72 → gA es1 p = gA es p) ∧ (∀ p, gJ es1 p = gJ es p) ∧ (∀ i, i ≠ (((m * 3) + bk) + 3).toNat → gA es1 70 i = gA es 70 i ∧ gA es1 71 i = gA es 71 i ∧ gA es1 72 i = gA es 72 i) ∧ (∀ i, i < ((((m * 3) + bk) + 3) * 25).toNat → gA es1 69 i = gA es 69 i) ∧ ((v = 1000 ∧ ¬ slipM (gA es 14) bk m kd mo (m % 2) (gA es 54 bk.toNat).toInt) ∨ (v = 0 ∧ slipM (gA es 14) bk m kd mo (m % 2) (gA es 54 bk.toNat).toInt ∧ (gA es1 70 (((m * 3) + bk) + 3).toNat).toInt = m + 1 ∧ (gA es1 71 (((m * 3) + bk) + 3).toNat).toInt = m + 1 ∧ (gA es1 72 (((m * 3) + bk) + 3).toNat).toInt = 0 ∧ (gA es1 69 (((((m * 3) + bk) + 3) * 25) + (m + 1)).toNat).toInt = 0))
theorem wm_spec {O : pOut} {d kc ks : Nat} {Q : pRes → Prop} {es : PH} {m kd mo bk nb wy : Int} (hT : hOK tT es) (hb : 0 ≤ bk ∧ bk ≤ 2) (hm : 0 ≤ m ∧ m ≤ 23) (hmn : m + 1 ≤ nb) (hn : nb ≤ 24) (hq0 : (gI es 53 0).toInt = bk) (hq1 : (gI es 53 1).toInt = (bk + 1)) (hq2 : (gI es 53 2).toInt = 0) (hpo : ∀ i, i < 8 → (gA es 55 i).toInt = 0) (hli : (gI es 68 2).toInt = 0) (hnb : (gA es 13 bk.toNat).toInt = nb) (hwy : (gA es 54 bk.toNat).toInt = wy) (hf : (gA es 70 ((m * 3) + bk).toNat).toInt = m) (hl : (gA es 71 ((m * 3) + bk).toNat).toInt = m) (hle : (gA es 72 ((m * 3) + bk).toNat).toInt = 0) (hce : (gA es 69 ((((m * 3) + bk) * 25) + m).toNat).toInt = 0) (hk : 0 ≤ kd ∧ kd ≤ 4) (hmo : 0 ≤ mo ∧ mo ≤ 1295) (hw2 : -40 ≤ (gA es 14 ((((bk * 24) + m) * 4) + 2).toNat).toInt ∧ (gA es 14 ((((bk * 24) + m) * 4) + 2).toNat).toInt ≤ 40) (hw3 : -40 ≤ (gA es 14 ((((bk * 24) + m) * 4) + 3).toNat).toInt ∧ (gA es 14 ((((bk * 24) + m) * 4) + 3).toNat).toInt ≤ 40) (K : ∀ v es', wmP bk m kd mo es v es' → Q (.inl (some (.int (zI v))), es', kc, ks)) : aW O (d + 3) 53 kc ks Q (0, [some (.ref 132), some (.int (zI m)), some (.int (zI kd)), some (.int (zI mo)), none, none, none, none, none, none, none, none, none, none, none, none, none, none, none], [], es) := by
  have hs_es := sh_of hT
  have i00 : (zI 1000).toInt = 1000 := rfl
  have im1 : (zI (-1)).toInt = -1 := rfl
  have i0 : (zI 0).toInt = 0 := rfl
  refine s_wm0 (d := d) (kc := kc) (ks := ks) hs_es hb hm hmn hn hq0 hq1 hq2 hpo hli hnb hwy hf hl hle hce hk hmo hw2 hw3 (fun es1 e_es1 es2 e_es2 es3 e_es3 es4 e_es4 v5 e_v5 v6 p_v6 c7 es8 e_es8 c9 v10 e_v10 => ?_) (fun es1 e_es1 es2 e_es2 es3 e_es3 es4 e_es4 v5 e_v5 v6 p_v6 c7 es8 e_es8 c9 v11 e_v11 => ?_) (fun es1 e_es1 es2 e_es2 es3 e_es3 es4 e_es4 v5 e_v5 v6 p_v6 c7 es12 e_es12 v13 e_v13 v14 e_v14 es15 e_es15 es16 e_es16 v17 e_v17 v18 e_v18 es19 e_es19 c20 v21 e_v21 => ?_) (fun es1 e_es1 es2 e_es2 es3 e_es3 es4 e_es4 v5 e_v5 v6 p_v6 c7 es12 e_es12 v13 e_v13 v14 e_v14 es15 e_es15 es16 e_es16 v17 e_v17 v18 e_v18 es19 e_es19 c20 es22 e_es22 c23 v24 e_v24 => ?_) (fun es1 e_es1 es2 e_es2 es3 e_es3 es4 e_es4 v5 e_v5 v6 p_v6 c7 es12 e_es12 v13 e_v13 v14 e_v14 es15 e_es15 es16 e_es16 v17 e_v17 v18 e_v18 es19 e_es19 c20 es22 e_es22 c23 v25 e_v25 => ?_)
  · have h_es : hOK tT es := hT
    have h_es1 : hOK tT es1 := by rw [e_es1]; exact hOK_sA h_es (p := 70) (t := 0) (n := 93) rfl (fun _ => i32_rng _)
    have h_es2 : hOK tT es2 := by rw [e_es2]; exact hOK_sA h_es1 (p := 71) (t := 0) (n := 93) rfl (fun _ => i32_rng _)
    have h_es3 : hOK tT es3 := by rw [e_es3]; exact hOK_sA h_es2 (p := 72) (t := 0) (n := 93) rfl (fun _ => i32_rng _)
    have h_es4 : hOK tT es4 := by rw [e_es4]; exact hOK_sA h_es3 (p := 69) (t := 0) (n := 2325) rfl (fun _ => i32_rng _)
    have h_es8 : hOK tT es8 := by rw [e_es8]; exact hOK_sA h_es4 (p := 69) (t := 0) (n := 2325) rfl (fun _ => i32_rng _)
    have hs_es1 := sh_of h_es1
    have hs_es2 := sh_of h_es2
    have hs_es3 := sh_of h_es3
    have hs_es4 := sh_of h_es4
    have hs_es8 := sh_of h_es8
    have hI : ∀ p b, gI es8 p b = gI es p b := fun p b => by rw [e_es8, gI_sA, e_es4, gI_sA, e_es3, gI_sA, e_es2, gI_sA, e_es1, gI_sA]
    have hJ : ∀ p, gJ es8 p = gJ es p := fun p => by rw [e_es8, gJ_sA, e_es4, gJ_sA, e_es3, gJ_sA, e_es2, gJ_sA, e_es1, gJ_sA]
    have hA : ∀ p, p ≠ 69 → p ≠ 70 → p ≠ 71 → p ≠ 72 → gA es8 p = gA es p := fun p q1 q2 q3 q4 => by rw [e_es8, gA_sA_ne q1, e_es4, gA_sA_ne q1, e_es3, gA_sA_ne q4, e_es2, gA_sA_ne q3, e_es1, gA_sA_ne q2]
    have r70 : gA es8 70 = upd (gA es 70) (((m * 3) + bk) + 3).toNat (zI 1000) := by rw [e_es8, gA_sA_ne (by decide), e_es4, gA_sA_ne (by decide), e_es3, gA_sA_ne (by decide), e_es2, gA_sA_ne (by decide), e_es1, gA_sA hs_es (p := 70) (t := 0) (n := 93) rfl (by decide)]
    have r71 : gA es8 71 = upd (gA es 71) (((m * 3) + bk) + 3).toNat (zI (-1)) := by rw [e_es8, gA_sA_ne (by decide), e_es4, gA_sA_ne (by decide), e_es3, gA_sA_ne (by decide), e_es2, gA_sA hs_es1 (p := 71) (t := 0) (n := 93) rfl (by decide), e_es1, gA_sA_ne (by decide)]
    have r72 : gA es8 72 = upd (gA es 72) (((m * 3) + bk) + 3).toNat (zI 1000) := by rw [e_es8, gA_sA_ne (by decide), e_es4, gA_sA_ne (by decide), e_es3, gA_sA hs_es2 (p := 72) (t := 0) (n := 93) rfl (by decide), e_es2, gA_sA_ne (by decide), e_es1, gA_sA_ne (by decide)]
    have r69 : gA es8 69 = upd (upd (gA es 69) (((((m * 3) + bk) + 3) * 25) + m).toNat (zI 1000)) (((((m * 3) + bk) + 3) * 25) + (m + 1)).toNat (zI 1000) := by rw [e_es8, gA_sA hs_es4 (p := 69) (t := 0) (n := 2325) rfl (by decide), e_es4, gA_sA hs_es3 (p := 69) (t := 0) (n := 2325) rfl (by decide), e_es3, gA_sA_ne (by decide), e_es2, gA_sA_ne (by decide), e_es1, gA_sA_ne (by decide)]
    have hO : ∀ i, i ≠ (((m * 3) + bk) + 3).toNat → gA es8 70 i = gA es 70 i ∧ gA es8 71 i = gA es 71 i ∧ gA es8 72 i = gA es 72 i := fun i hi => ⟨by rw [r70, updN hi], by rw [r71, updN hi], by rw [r72, updN hi]⟩
    have h69 : ∀ i, i < ((((m * 3) + bk) + 3) * 25).toNat → gA es8 69 i = gA es 69 i := fun i hi => by rw [r69, updN (by omega), updN (by omega)]
    have b_v10 : v10 = 1000 := by
      rw [e_v10, e_es8, gA_sA_ne (by decide), e_es4, gA_sA_ne (by decide), e_es3, gA_sA hs_es2 (p := 72) (t := 0) (n := 93) rfl (by decide)]
      unfold upd
      rw [if_pos rfl, i00]
    have hsd : v5 = m % 2 := by rw [e_v5, and1 (by unfold i32 iLO iHI; omega)]
    have e14 : gA es4 14 = gA es 14 := by rw [e_es4, gA_sA_ne (by decide), e_es3, gA_sA_ne (by decide), e_es2, gA_sA_ne (by decide), e_es1, gA_sA_ne (by decide)]
    have e54 : gA es4 54 = gA es 54 := by rw [e_es4, gA_sA_ne (by decide), e_es3, gA_sA_ne (by decide), e_es2, gA_sA_ne (by decide), e_es1, gA_sA_ne (by decide)]
    have em : (m + 1) - 1 = m := by omega
    have hsl := p_v6
    unfold slipP at hsl
    rw [e14, e54, hsd, em] at hsl
    rcases hsl with ⟨h, -⟩ | ⟨-, hM⟩
    · exact absurd h (by omega)
    have ev : 0 + v10 = 1000 := by omega
    rw [ev]
    exact K 1000 _ ⟨h_es8, hI, hA, hJ, hO, h69, Or.inl ⟨rfl, hM⟩⟩
  · have h_es : hOK tT es := hT
    have h_es1 : hOK tT es1 := by rw [e_es1]; exact hOK_sA h_es (p := 70) (t := 0) (n := 93) rfl (fun _ => i32_rng _)
    have h_es2 : hOK tT es2 := by rw [e_es2]; exact hOK_sA h_es1 (p := 71) (t := 0) (n := 93) rfl (fun _ => i32_rng _)
    have h_es3 : hOK tT es3 := by rw [e_es3]; exact hOK_sA h_es2 (p := 72) (t := 0) (n := 93) rfl (fun _ => i32_rng _)
    have h_es4 : hOK tT es4 := by rw [e_es4]; exact hOK_sA h_es3 (p := 69) (t := 0) (n := 2325) rfl (fun _ => i32_rng _)
    have h_es8 : hOK tT es8 := by rw [e_es8]; exact hOK_sA h_es4 (p := 69) (t := 0) (n := 2325) rfl (fun _ => i32_rng _)
    have hs_es1 := sh_of h_es1
    have hs_es2 := sh_of h_es2
    have hs_es3 := sh_of h_es3
    have hs_es4 := sh_of h_es4
    have hs_es8 := sh_of h_es8
    have hI : ∀ p b, gI es8 p b = gI es p b := fun p b => by rw [e_es8, gI_sA, e_es4, gI_sA, e_es3, gI_sA, e_es2, gI_sA, e_es1, gI_sA]
    have hJ : ∀ p, gJ es8 p = gJ es p := fun p => by rw [e_es8, gJ_sA, e_es4, gJ_sA, e_es3, gJ_sA, e_es2, gJ_sA, e_es1, gJ_sA]
    have hA : ∀ p, p ≠ 69 → p ≠ 70 → p ≠ 71 → p ≠ 72 → gA es8 p = gA es p := fun p q1 q2 q3 q4 => by rw [e_es8, gA_sA_ne q1, e_es4, gA_sA_ne q1, e_es3, gA_sA_ne q4, e_es2, gA_sA_ne q3, e_es1, gA_sA_ne q2]
    have r70 : gA es8 70 = upd (gA es 70) (((m * 3) + bk) + 3).toNat (zI 1000) := by rw [e_es8, gA_sA_ne (by decide), e_es4, gA_sA_ne (by decide), e_es3, gA_sA_ne (by decide), e_es2, gA_sA_ne (by decide), e_es1, gA_sA hs_es (p := 70) (t := 0) (n := 93) rfl (by decide)]
    have r71 : gA es8 71 = upd (gA es 71) (((m * 3) + bk) + 3).toNat (zI (-1)) := by rw [e_es8, gA_sA_ne (by decide), e_es4, gA_sA_ne (by decide), e_es3, gA_sA_ne (by decide), e_es2, gA_sA hs_es1 (p := 71) (t := 0) (n := 93) rfl (by decide), e_es1, gA_sA_ne (by decide)]
    have r72 : gA es8 72 = upd (gA es 72) (((m * 3) + bk) + 3).toNat (zI 1000) := by rw [e_es8, gA_sA_ne (by decide), e_es4, gA_sA_ne (by decide), e_es3, gA_sA hs_es2 (p := 72) (t := 0) (n := 93) rfl (by decide), e_es2, gA_sA_ne (by decide), e_es1, gA_sA_ne (by decide)]
    have r69 : gA es8 69 = upd (upd (gA es 69) (((((m * 3) + bk) + 3) * 25) + m).toNat (zI 1000)) (((((m * 3) + bk) + 3) * 25) + (m + 1)).toNat (zI 1000) := by rw [e_es8, gA_sA hs_es4 (p := 69) (t := 0) (n := 2325) rfl (by decide), e_es4, gA_sA hs_es3 (p := 69) (t := 0) (n := 2325) rfl (by decide), e_es3, gA_sA_ne (by decide), e_es2, gA_sA_ne (by decide), e_es1, gA_sA_ne (by decide)]
    have hO : ∀ i, i ≠ (((m * 3) + bk) + 3).toNat → gA es8 70 i = gA es 70 i ∧ gA es8 71 i = gA es 71 i ∧ gA es8 72 i = gA es 72 i := fun i hi => ⟨by rw [r70, updN hi], by rw [r71, updN hi], by rw [r72, updN hi]⟩
    have h69 : ∀ i, i < ((((m * 3) + bk) + 3) * 25).toNat → gA es8 69 i = gA es 69 i := fun i hi => by rw [r69, updN (by omega), updN (by omega)]
    have b_v11 : v11 = 1000 := by
      rw [e_v11, e_es8, gA_sA_ne (by decide), e_es4, gA_sA_ne (by decide), e_es3, gA_sA hs_es2 (p := 72) (t := 0) (n := 93) rfl (by decide)]
      unfold upd
      rw [if_pos rfl, i00]
    have hsd : v5 = m % 2 := by rw [e_v5, and1 (by unfold i32 iLO iHI; omega)]
    have e14 : gA es4 14 = gA es 14 := by rw [e_es4, gA_sA_ne (by decide), e_es3, gA_sA_ne (by decide), e_es2, gA_sA_ne (by decide), e_es1, gA_sA_ne (by decide)]
    have e54 : gA es4 54 = gA es 54 := by rw [e_es4, gA_sA_ne (by decide), e_es3, gA_sA_ne (by decide), e_es2, gA_sA_ne (by decide), e_es1, gA_sA_ne (by decide)]
    have em : (m + 1) - 1 = m := by omega
    have hsl := p_v6
    unfold slipP at hsl
    rw [e14, e54, hsd, em] at hsl
    rcases hsl with ⟨h, -⟩ | ⟨-, hM⟩
    · exact absurd h (by omega)
    have ev : 0 + v11 = 1000 := by omega
    rw [ev]
    exact K 1000 _ ⟨h_es8, hI, hA, hJ, hO, h69, Or.inl ⟨rfl, hM⟩⟩
  · have h_es : hOK tT es := hT
    have h_es1 : hOK tT es1 := by rw [e_es1]; exact hOK_sA h_es (p := 70) (t := 0) (n := 93) rfl (fun _ => i32_rng _)
    have h_es2 : hOK tT es2 := by rw [e_es2]; exact hOK_sA h_es1 (p := 71) (t := 0) (n := 93) rfl (fun _ => i32_rng _)
    have h_es3 : hOK tT es3 := by rw [e_es3]; exact hOK_sA h_es2 (p := 72) (t := 0) (n := 93) rfl (fun _ => i32_rng _)
    have h_es4 : hOK tT es4 := by rw [e_es4]; exact hOK_sA h_es3 (p := 69) (t := 0) (n := 2325) rfl (fun _ => i32_rng _)
    have h_es12 : hOK tT es12 := by rw [e_es12]; exact hOK_sA h_es4 (p := 69) (t := 0) (n := 2325) rfl (fun _ => i32_rng _)
    have h_es15 : hOK tT es15 := by rw [e_es15]; exact hOK_sA h_es12 (p := 70) (t := 0) (n := 93) rfl (fun _ => i32_rng _)
    have h_es16 : hOK tT es16 := by rw [e_es16]; exact hOK_sA h_es15 (p := 71) (t := 0) (n := 93) rfl (fun _ => i32_rng _)
    have h_es19 : hOK tT es19 := by rw [e_es19]; exact hOK_sA h_es16 (p := 72) (t := 0) (n := 93) rfl (fun _ => i32_rng _)
    have hs_es1 := sh_of h_es1
    have hs_es2 := sh_of h_es2
    have hs_es3 := sh_of h_es3
    have hs_es4 := sh_of h_es4
    have hs_es12 := sh_of h_es12
    have hs_es15 := sh_of h_es15
    have hs_es16 := sh_of h_es16
    have hs_es19 := sh_of h_es19
    have hI : ∀ p b, gI es19 p b = gI es p b := fun p b => by rw [e_es19, gI_sA, e_es16, gI_sA, e_es15, gI_sA, e_es12, gI_sA, e_es4, gI_sA, e_es3, gI_sA, e_es2, gI_sA, e_es1, gI_sA]
    have hJ : ∀ p, gJ es19 p = gJ es p := fun p => by rw [e_es19, gJ_sA, e_es16, gJ_sA, e_es15, gJ_sA, e_es12, gJ_sA, e_es4, gJ_sA, e_es3, gJ_sA, e_es2, gJ_sA, e_es1, gJ_sA]
    have hA : ∀ p, p ≠ 69 → p ≠ 70 → p ≠ 71 → p ≠ 72 → gA es19 p = gA es p := fun p q1 q2 q3 q4 => by rw [e_es19, gA_sA_ne q4, e_es16, gA_sA_ne q3, e_es15, gA_sA_ne q2, e_es12, gA_sA_ne q1, e_es4, gA_sA_ne q1, e_es3, gA_sA_ne q4, e_es2, gA_sA_ne q3, e_es1, gA_sA_ne q2]
    have r70 : gA es19 70 = upd (upd (gA es 70) (((m * 3) + bk) + 3).toNat (zI 1000)) (((m * 3) + bk) + 3).toNat (zI v14) := by rw [e_es19, gA_sA_ne (by decide), e_es16, gA_sA_ne (by decide), e_es15, gA_sA hs_es12 (p := 70) (t := 0) (n := 93) rfl (by decide), e_es12, gA_sA_ne (by decide), e_es4, gA_sA_ne (by decide), e_es3, gA_sA_ne (by decide), e_es2, gA_sA_ne (by decide), e_es1, gA_sA hs_es (p := 70) (t := 0) (n := 93) rfl (by decide)]
    have r71 : gA es19 71 = upd (upd (gA es 71) (((m * 3) + bk) + 3).toNat (zI (-1))) (((m * 3) + bk) + 3).toNat (zI (m + 1)) := by rw [e_es19, gA_sA_ne (by decide), e_es16, gA_sA hs_es15 (p := 71) (t := 0) (n := 93) rfl (by decide), e_es15, gA_sA_ne (by decide), e_es12, gA_sA_ne (by decide), e_es4, gA_sA_ne (by decide), e_es3, gA_sA_ne (by decide), e_es2, gA_sA hs_es1 (p := 71) (t := 0) (n := 93) rfl (by decide), e_es1, gA_sA_ne (by decide)]
    have r72 : gA es19 72 = upd (upd (gA es 72) (((m * 3) + bk) + 3).toNat (zI 1000)) (((m * 3) + bk) + 3).toNat (zI v18) := by rw [e_es19, gA_sA hs_es16 (p := 72) (t := 0) (n := 93) rfl (by decide), e_es16, gA_sA_ne (by decide), e_es15, gA_sA_ne (by decide), e_es12, gA_sA_ne (by decide), e_es4, gA_sA_ne (by decide), e_es3, gA_sA hs_es2 (p := 72) (t := 0) (n := 93) rfl (by decide), e_es2, gA_sA_ne (by decide), e_es1, gA_sA_ne (by decide)]
    have r69 : gA es19 69 = upd (upd (gA es 69) (((((m * 3) + bk) + 3) * 25) + m).toNat (zI 1000)) (((((m * 3) + bk) + 3) * 25) + (m + 1)).toNat (zI 0) := by rw [e_es19, gA_sA_ne (by decide), e_es16, gA_sA_ne (by decide), e_es15, gA_sA_ne (by decide), e_es12, gA_sA hs_es4 (p := 69) (t := 0) (n := 2325) rfl (by decide), e_es4, gA_sA hs_es3 (p := 69) (t := 0) (n := 2325) rfl (by decide), e_es3, gA_sA_ne (by decide), e_es2, gA_sA_ne (by decide), e_es1, gA_sA_ne (by decide)]
    have hO : ∀ i, i ≠ (((m * 3) + bk) + 3).toNat → gA es19 70 i = gA es 70 i ∧ gA es19 71 i = gA es 71 i ∧ gA es19 72 i = gA es 72 i := fun i hi => ⟨by rw [r70, updN hi, updN hi], by rw [r71, updN hi, updN hi], by rw [r72, updN hi, updN hi]⟩
    have h69 : ∀ i, i < ((((m * 3) + bk) + 3) * 25).toNat → gA es19 69 i = gA es 69 i := fun i hi => by rw [r69, updN (by omega), updN (by omega)]
    have b_v13 : v13 = 1000 := by
      rw [e_v13, e_es12, gA_sA_ne (by decide), e_es4, gA_sA_ne (by decide), e_es3, gA_sA_ne (by decide), e_es2, gA_sA_ne (by decide), e_es1, gA_sA hs_es (p := 70) (t := 0) (n := 93) rfl (by decide)]
      unfold upd
      rw [if_pos rfl, i00]
    have b_v17 : v17 = 1000 := by
      rw [e_v17, e_es16, gA_sA_ne (by decide), e_es15, gA_sA_ne (by decide), e_es12, gA_sA_ne (by decide), e_es4, gA_sA_ne (by decide), e_es3, gA_sA hs_es2 (p := 72) (t := 0) (n := 93) rfl (by decide)]
      unfold upd
      rw [if_pos rfl, i00]
    have b_v21 : v21 = v18 := by
      rw [e_v21, e_es19, gA_sA hs_es16 (p := 72) (t := 0) (n := 93) rfl (by decide)]
      unfold upd
      rw [if_pos rfl, zI_toInt (by unfold i32 iLO iHI; omega)]
    have hsd : v5 = m % 2 := by rw [e_v5, and1 (by unfold i32 iLO iHI; omega)]
    have e14 : gA es4 14 = gA es 14 := by rw [e_es4, gA_sA_ne (by decide), e_es3, gA_sA_ne (by decide), e_es2, gA_sA_ne (by decide), e_es1, gA_sA_ne (by decide)]
    have e54 : gA es4 54 = gA es 54 := by rw [e_es4, gA_sA_ne (by decide), e_es3, gA_sA_ne (by decide), e_es2, gA_sA_ne (by decide), e_es1, gA_sA_ne (by decide)]
    have em : (m + 1) - 1 = m := by omega
    have hsl := p_v6
    unfold slipP at hsl
    rw [e14, e54, hsd, em] at hsl
    rcases hsl with ⟨-, hM⟩ | ⟨h, -⟩
    rotate_left
    · exact absurd h (by omega)
    have c70 : (gA es19 70 (((m * 3) + bk) + 3).toNat).toInt = m + 1 := by
      rw [r70]
      unfold upd
      rw [if_pos rfl, zI_toInt (by unfold i32 iLO iHI; omega)]
      omega
    have c71 : (gA es19 71 (((m * 3) + bk) + 3).toNat).toInt = m + 1 := by
      rw [r71]
      unfold upd
      rw [if_pos rfl, zI_toInt (by unfold i32 iLO iHI; omega)]
    have c72 : (gA es19 72 (((m * 3) + bk) + 3).toNat).toInt = 0 := by
      rw [r72]
      unfold upd
      rw [if_pos rfl, zI_toInt (by unfold i32 iLO iHI; omega)]
      omega
    have c69 : (gA es19 69 (((((m * 3) + bk) + 3) * 25) + (m + 1)).toNat).toInt = 0 := by
      rw [r69]
      unfold upd
      rw [if_pos rfl, zI_toInt (by unfold i32 iLO iHI; omega)]
    have ev : 0 + v21 = 0 := by omega
    rw [ev]
    exact K 0 _ ⟨h_es19, hI, hA, hJ, hO, h69, Or.inr ⟨rfl, hM, c70, c71, c72, c69⟩⟩
  · have h_es : hOK tT es := hT
    have h_es1 : hOK tT es1 := by rw [e_es1]; exact hOK_sA h_es (p := 70) (t := 0) (n := 93) rfl (fun _ => i32_rng _)
    have h_es2 : hOK tT es2 := by rw [e_es2]; exact hOK_sA h_es1 (p := 71) (t := 0) (n := 93) rfl (fun _ => i32_rng _)
    have h_es3 : hOK tT es3 := by rw [e_es3]; exact hOK_sA h_es2 (p := 72) (t := 0) (n := 93) rfl (fun _ => i32_rng _)
    have h_es4 : hOK tT es4 := by rw [e_es4]; exact hOK_sA h_es3 (p := 69) (t := 0) (n := 2325) rfl (fun _ => i32_rng _)
    have h_es12 : hOK tT es12 := by rw [e_es12]; exact hOK_sA h_es4 (p := 69) (t := 0) (n := 2325) rfl (fun _ => i32_rng _)
    have h_es15 : hOK tT es15 := by rw [e_es15]; exact hOK_sA h_es12 (p := 70) (t := 0) (n := 93) rfl (fun _ => i32_rng _)
    have h_es16 : hOK tT es16 := by rw [e_es16]; exact hOK_sA h_es15 (p := 71) (t := 0) (n := 93) rfl (fun _ => i32_rng _)
    have h_es19 : hOK tT es19 := by rw [e_es19]; exact hOK_sA h_es16 (p := 72) (t := 0) (n := 93) rfl (fun _ => i32_rng _)
    have h_es22 : hOK tT es22 := by rw [e_es22]; exact hOK_sA h_es19 (p := 69) (t := 0) (n := 2325) rfl (fun _ => i32_rng _)
    have hs_es1 := sh_of h_es1
    have hs_es2 := sh_of h_es2
    have hs_es3 := sh_of h_es3
    have hs_es4 := sh_of h_es4
    have hs_es12 := sh_of h_es12
    have hs_es15 := sh_of h_es15
    have hs_es16 := sh_of h_es16
    have hs_es19 := sh_of h_es19
    have hs_es22 := sh_of h_es22
    have hI : ∀ p b, gI es22 p b = gI es p b := fun p b => by rw [e_es22, gI_sA, e_es19, gI_sA, e_es16, gI_sA, e_es15, gI_sA, e_es12, gI_sA, e_es4, gI_sA, e_es3, gI_sA, e_es2, gI_sA, e_es1, gI_sA]
    have hJ : ∀ p, gJ es22 p = gJ es p := fun p => by rw [e_es22, gJ_sA, e_es19, gJ_sA, e_es16, gJ_sA, e_es15, gJ_sA, e_es12, gJ_sA, e_es4, gJ_sA, e_es3, gJ_sA, e_es2, gJ_sA, e_es1, gJ_sA]
    have hA : ∀ p, p ≠ 69 → p ≠ 70 → p ≠ 71 → p ≠ 72 → gA es22 p = gA es p := fun p q1 q2 q3 q4 => by rw [e_es22, gA_sA_ne q1, e_es19, gA_sA_ne q4, e_es16, gA_sA_ne q3, e_es15, gA_sA_ne q2, e_es12, gA_sA_ne q1, e_es4, gA_sA_ne q1, e_es3, gA_sA_ne q4, e_es2, gA_sA_ne q3, e_es1, gA_sA_ne q2]
    have r70 : gA es22 70 = upd (upd (gA es 70) (((m * 3) + bk) + 3).toNat (zI 1000)) (((m * 3) + bk) + 3).toNat (zI v14) := by rw [e_es22, gA_sA_ne (by decide), e_es19, gA_sA_ne (by decide), e_es16, gA_sA_ne (by decide), e_es15, gA_sA hs_es12 (p := 70) (t := 0) (n := 93) rfl (by decide), e_es12, gA_sA_ne (by decide), e_es4, gA_sA_ne (by decide), e_es3, gA_sA_ne (by decide), e_es2, gA_sA_ne (by decide), e_es1, gA_sA hs_es (p := 70) (t := 0) (n := 93) rfl (by decide)]
    have r71 : gA es22 71 = upd (upd (gA es 71) (((m * 3) + bk) + 3).toNat (zI (-1))) (((m * 3) + bk) + 3).toNat (zI (m + 1)) := by rw [e_es22, gA_sA_ne (by decide), e_es19, gA_sA_ne (by decide), e_es16, gA_sA hs_es15 (p := 71) (t := 0) (n := 93) rfl (by decide), e_es15, gA_sA_ne (by decide), e_es12, gA_sA_ne (by decide), e_es4, gA_sA_ne (by decide), e_es3, gA_sA_ne (by decide), e_es2, gA_sA hs_es1 (p := 71) (t := 0) (n := 93) rfl (by decide), e_es1, gA_sA_ne (by decide)]
    have r72 : gA es22 72 = upd (upd (gA es 72) (((m * 3) + bk) + 3).toNat (zI 1000)) (((m * 3) + bk) + 3).toNat (zI v18) := by rw [e_es22, gA_sA_ne (by decide), e_es19, gA_sA hs_es16 (p := 72) (t := 0) (n := 93) rfl (by decide), e_es16, gA_sA_ne (by decide), e_es15, gA_sA_ne (by decide), e_es12, gA_sA_ne (by decide), e_es4, gA_sA_ne (by decide), e_es3, gA_sA hs_es2 (p := 72) (t := 0) (n := 93) rfl (by decide), e_es2, gA_sA_ne (by decide), e_es1, gA_sA_ne (by decide)]
    have r69 : gA es22 69 = upd (upd (upd (gA es 69) (((((m * 3) + bk) + 3) * 25) + m).toNat (zI 1000)) (((((m * 3) + bk) + 3) * 25) + (m + 1)).toNat (zI 0)) (((((m * 3) + bk) + 3) * 25) + ((m + 1) + 1)).toNat (zI 1000) := by rw [e_es22, gA_sA hs_es19 (p := 69) (t := 0) (n := 2325) rfl (by decide), e_es19, gA_sA_ne (by decide), e_es16, gA_sA_ne (by decide), e_es15, gA_sA_ne (by decide), e_es12, gA_sA hs_es4 (p := 69) (t := 0) (n := 2325) rfl (by decide), e_es4, gA_sA hs_es3 (p := 69) (t := 0) (n := 2325) rfl (by decide), e_es3, gA_sA_ne (by decide), e_es2, gA_sA_ne (by decide), e_es1, gA_sA_ne (by decide)]
    have hO : ∀ i, i ≠ (((m * 3) + bk) + 3).toNat → gA es22 70 i = gA es 70 i ∧ gA es22 71 i = gA es 71 i ∧ gA es22 72 i = gA es 72 i := fun i hi => ⟨by rw [r70, updN hi, updN hi], by rw [r71, updN hi, updN hi], by rw [r72, updN hi, updN hi]⟩
    have h69 : ∀ i, i < ((((m * 3) + bk) + 3) * 25).toNat → gA es22 69 i = gA es 69 i := fun i hi => by rw [r69, updN (by omega), updN (by omega), updN (by omega)]
    have b_v13 : v13 = 1000 := by
      rw [e_v13, e_es12, gA_sA_ne (by decide), e_es4, gA_sA_ne (by decide), e_es3, gA_sA_ne (by decide), e_es2, gA_sA_ne (by decide), e_es1, gA_sA hs_es (p := 70) (t := 0) (n := 93) rfl (by decide)]
      unfold upd
      rw [if_pos rfl, i00]
    have b_v17 : v17 = 1000 := by
      rw [e_v17, e_es16, gA_sA_ne (by decide), e_es15, gA_sA_ne (by decide), e_es12, gA_sA_ne (by decide), e_es4, gA_sA_ne (by decide), e_es3, gA_sA hs_es2 (p := 72) (t := 0) (n := 93) rfl (by decide)]
      unfold upd
      rw [if_pos rfl, i00]
    have b_v24 : v24 = v18 := by
      rw [e_v24, e_es22, gA_sA_ne (by decide), e_es19, gA_sA hs_es16 (p := 72) (t := 0) (n := 93) rfl (by decide)]
      unfold upd
      rw [if_pos rfl, zI_toInt (by unfold i32 iLO iHI; omega)]
    have hsd : v5 = m % 2 := by rw [e_v5, and1 (by unfold i32 iLO iHI; omega)]
    have e14 : gA es4 14 = gA es 14 := by rw [e_es4, gA_sA_ne (by decide), e_es3, gA_sA_ne (by decide), e_es2, gA_sA_ne (by decide), e_es1, gA_sA_ne (by decide)]
    have e54 : gA es4 54 = gA es 54 := by rw [e_es4, gA_sA_ne (by decide), e_es3, gA_sA_ne (by decide), e_es2, gA_sA_ne (by decide), e_es1, gA_sA_ne (by decide)]
    have em : (m + 1) - 1 = m := by omega
    have hsl := p_v6
    unfold slipP at hsl
    rw [e14, e54, hsd, em] at hsl
    rcases hsl with ⟨-, hM⟩ | ⟨h, -⟩
    rotate_left
    · exact absurd h (by omega)
    have c70 : (gA es22 70 (((m * 3) + bk) + 3).toNat).toInt = m + 1 := by
      rw [r70]
      unfold upd
      rw [if_pos rfl, zI_toInt (by unfold i32 iLO iHI; omega)]
      omega
    have c71 : (gA es22 71 (((m * 3) + bk) + 3).toNat).toInt = m + 1 := by
      rw [r71]
      unfold upd
      rw [if_pos rfl, zI_toInt (by unfold i32 iLO iHI; omega)]
    have c72 : (gA es22 72 (((m * 3) + bk) + 3).toNat).toInt = 0 := by
      rw [r72]
      unfold upd
      rw [if_pos rfl, zI_toInt (by unfold i32 iLO iHI; omega)]
      omega
    have c69 : (gA es22 69 (((((m * 3) + bk) + 3) * 25) + (m + 1)).toNat).toInt = 0 := by
      rw [r69]
      rw [updN (by omega)]
      unfold upd
      rw [if_pos rfl, zI_toInt (by unfold i32 iLO iHI; omega)]
    have ev : 0 + v24 = 0 := by omega
    rw [ev]
    exact K 0 _ ⟨h_es22, hI, hA, hJ, hO, h69, Or.inr ⟨rfl, hM, c70, c71, c72, c69⟩⟩
  · have h_es : hOK tT es := hT
    have h_es1 : hOK tT es1 := by rw [e_es1]; exact hOK_sA h_es (p := 70) (t := 0) (n := 93) rfl (fun _ => i32_rng _)
    have h_es2 : hOK tT es2 := by rw [e_es2]; exact hOK_sA h_es1 (p := 71) (t := 0) (n := 93) rfl (fun _ => i32_rng _)
    have h_es3 : hOK tT es3 := by rw [e_es3]; exact hOK_sA h_es2 (p := 72) (t := 0) (n := 93) rfl (fun _ => i32_rng _)
    have h_es4 : hOK tT es4 := by rw [e_es4]; exact hOK_sA h_es3 (p := 69) (t := 0) (n := 2325) rfl (fun _ => i32_rng _)
    have h_es12 : hOK tT es12 := by rw [e_es12]; exact hOK_sA h_es4 (p := 69) (t := 0) (n := 2325) rfl (fun _ => i32_rng _)
    have h_es15 : hOK tT es15 := by rw [e_es15]; exact hOK_sA h_es12 (p := 70) (t := 0) (n := 93) rfl (fun _ => i32_rng _)
    have h_es16 : hOK tT es16 := by rw [e_es16]; exact hOK_sA h_es15 (p := 71) (t := 0) (n := 93) rfl (fun _ => i32_rng _)
    have h_es19 : hOK tT es19 := by rw [e_es19]; exact hOK_sA h_es16 (p := 72) (t := 0) (n := 93) rfl (fun _ => i32_rng _)
    have h_es22 : hOK tT es22 := by rw [e_es22]; exact hOK_sA h_es19 (p := 69) (t := 0) (n := 2325) rfl (fun _ => i32_rng _)
    have hs_es1 := sh_of h_es1
    have hs_es2 := sh_of h_es2
    have hs_es3 := sh_of h_es3
    have hs_es4 := sh_of h_es4
    have hs_es12 := sh_of h_es12
    have hs_es15 := sh_of h_es15
    have hs_es16 := sh_of h_es16
    have hs_es19 := sh_of h_es19
    have hs_es22 := sh_of h_es22
    have hI : ∀ p b, gI es22 p b = gI es p b := fun p b => by rw [e_es22, gI_sA, e_es19, gI_sA, e_es16, gI_sA, e_es15, gI_sA, e_es12, gI_sA, e_es4, gI_sA, e_es3, gI_sA, e_es2, gI_sA, e_es1, gI_sA]
    have hJ : ∀ p, gJ es22 p = gJ es p := fun p => by rw [e_es22, gJ_sA, e_es19, gJ_sA, e_es16, gJ_sA, e_es15, gJ_sA, e_es12, gJ_sA, e_es4, gJ_sA, e_es3, gJ_sA, e_es2, gJ_sA, e_es1, gJ_sA]
    have hA : ∀ p, p ≠ 69 → p ≠ 70 → p ≠ 71 → p ≠ 72 → gA es22 p = gA es p := fun p q1 q2 q3 q4 => by rw [e_es22, gA_sA_ne q1, e_es19, gA_sA_ne q4, e_es16, gA_sA_ne q3, e_es15, gA_sA_ne q2, e_es12, gA_sA_ne q1, e_es4, gA_sA_ne q1, e_es3, gA_sA_ne q4, e_es2, gA_sA_ne q3, e_es1, gA_sA_ne q2]
    have r70 : gA es22 70 = upd (upd (gA es 70) (((m * 3) + bk) + 3).toNat (zI 1000)) (((m * 3) + bk) + 3).toNat (zI v14) := by rw [e_es22, gA_sA_ne (by decide), e_es19, gA_sA_ne (by decide), e_es16, gA_sA_ne (by decide), e_es15, gA_sA hs_es12 (p := 70) (t := 0) (n := 93) rfl (by decide), e_es12, gA_sA_ne (by decide), e_es4, gA_sA_ne (by decide), e_es3, gA_sA_ne (by decide), e_es2, gA_sA_ne (by decide), e_es1, gA_sA hs_es (p := 70) (t := 0) (n := 93) rfl (by decide)]
    have r71 : gA es22 71 = upd (upd (gA es 71) (((m * 3) + bk) + 3).toNat (zI (-1))) (((m * 3) + bk) + 3).toNat (zI (m + 1)) := by rw [e_es22, gA_sA_ne (by decide), e_es19, gA_sA_ne (by decide), e_es16, gA_sA hs_es15 (p := 71) (t := 0) (n := 93) rfl (by decide), e_es15, gA_sA_ne (by decide), e_es12, gA_sA_ne (by decide), e_es4, gA_sA_ne (by decide), e_es3, gA_sA_ne (by decide), e_es2, gA_sA hs_es1 (p := 71) (t := 0) (n := 93) rfl (by decide), e_es1, gA_sA_ne (by decide)]
    have r72 : gA es22 72 = upd (upd (gA es 72) (((m * 3) + bk) + 3).toNat (zI 1000)) (((m * 3) + bk) + 3).toNat (zI v18) := by rw [e_es22, gA_sA_ne (by decide), e_es19, gA_sA hs_es16 (p := 72) (t := 0) (n := 93) rfl (by decide), e_es16, gA_sA_ne (by decide), e_es15, gA_sA_ne (by decide), e_es12, gA_sA_ne (by decide), e_es4, gA_sA_ne (by decide), e_es3, gA_sA hs_es2 (p := 72) (t := 0) (n := 93) rfl (by decide), e_es2, gA_sA_ne (by decide), e_es1, gA_sA_ne (by decide)]
    have r69 : gA es22 69 = upd (upd (upd (gA es 69) (((((m * 3) + bk) + 3) * 25) + m).toNat (zI 1000)) (((((m * 3) + bk) + 3) * 25) + (m + 1)).toNat (zI 0)) (((((m * 3) + bk) + 3) * 25) + ((m + 1) + 1)).toNat (zI 1000) := by rw [e_es22, gA_sA hs_es19 (p := 69) (t := 0) (n := 2325) rfl (by decide), e_es19, gA_sA_ne (by decide), e_es16, gA_sA_ne (by decide), e_es15, gA_sA_ne (by decide), e_es12, gA_sA hs_es4 (p := 69) (t := 0) (n := 2325) rfl (by decide), e_es4, gA_sA hs_es3 (p := 69) (t := 0) (n := 2325) rfl (by decide), e_es3, gA_sA_ne (by decide), e_es2, gA_sA_ne (by decide), e_es1, gA_sA_ne (by decide)]
    have hO : ∀ i, i ≠ (((m * 3) + bk) + 3).toNat → gA es22 70 i = gA es 70 i ∧ gA es22 71 i = gA es 71 i ∧ gA es22 72 i = gA es 72 i := fun i hi => ⟨by rw [r70, updN hi, updN hi], by rw [r71, updN hi, updN hi], by rw [r72, updN hi, updN hi]⟩
    have h69 : ∀ i, i < ((((m * 3) + bk) + 3) * 25).toNat → gA es22 69 i = gA es 69 i := fun i hi => by rw [r69, updN (by omega), updN (by omega), updN (by omega)]
    have b_v13 : v13 = 1000 := by
      rw [e_v13, e_es12, gA_sA_ne (by decide), e_es4, gA_sA_ne (by decide), e_es3, gA_sA_ne (by decide), e_es2, gA_sA_ne (by decide), e_es1, gA_sA hs_es (p := 70) (t := 0) (n := 93) rfl (by decide)]
      unfold upd
      rw [if_pos rfl, i00]
    have b_v17 : v17 = 1000 := by
      rw [e_v17, e_es16, gA_sA_ne (by decide), e_es15, gA_sA_ne (by decide), e_es12, gA_sA_ne (by decide), e_es4, gA_sA_ne (by decide), e_es3, gA_sA hs_es2 (p := 72) (t := 0) (n := 93) rfl (by decide)]
      unfold upd
      rw [if_pos rfl, i00]
    have b_v25 : v25 = v18 := by
      rw [e_v25, e_es22, gA_sA_ne (by decide), e_es19, gA_sA hs_es16 (p := 72) (t := 0) (n := 93) rfl (by decide)]
      unfold upd
      rw [if_pos rfl, zI_toInt (by unfold i32 iLO iHI; omega)]
    have hsd : v5 = m % 2 := by rw [e_v5, and1 (by unfold i32 iLO iHI; omega)]
    have e14 : gA es4 14 = gA es 14 := by rw [e_es4, gA_sA_ne (by decide), e_es3, gA_sA_ne (by decide), e_es2, gA_sA_ne (by decide), e_es1, gA_sA_ne (by decide)]
    have e54 : gA es4 54 = gA es 54 := by rw [e_es4, gA_sA_ne (by decide), e_es3, gA_sA_ne (by decide), e_es2, gA_sA_ne (by decide), e_es1, gA_sA_ne (by decide)]
    have em : (m + 1) - 1 = m := by omega
    have hsl := p_v6
    unfold slipP at hsl
    rw [e14, e54, hsd, em] at hsl
    rcases hsl with ⟨-, hM⟩ | ⟨h, -⟩
    rotate_left
    · exact absurd h (by omega)
    have c70 : (gA es22 70 (((m * 3) + bk) + 3).toNat).toInt = m + 1 := by
      rw [r70]
      unfold upd
      rw [if_pos rfl, zI_toInt (by unfold i32 iLO iHI; omega)]
      omega
    have c71 : (gA es22 71 (((m * 3) + bk) + 3).toNat).toInt = m + 1 := by
      rw [r71]
      unfold upd
      rw [if_pos rfl, zI_toInt (by unfold i32 iLO iHI; omega)]
    have c72 : (gA es22 72 (((m * 3) + bk) + 3).toNat).toInt = 0 := by
      rw [r72]
      unfold upd
      rw [if_pos rfl, zI_toInt (by unfold i32 iLO iHI; omega)]
      omega
    have c69 : (gA es22 69 (((((m * 3) + bk) + 3) * 25) + (m + 1)).toNat).toInt = 0 := by
      rw [r69]
      rw [updN (by omega)]
      unfold upd
      rw [if_pos rfl, zI_toInt (by unfold i32 iLO iHI; omega)]
    have ev : 0 + v25 = 0 := by omega
    rw [ev]
    exact K 0 _ ⟨h_es22, hI, hA, hJ, hO, h69, Or.inr ⟨rfl, hM, c70, c71, c72, c69⟩⟩
theorem s_bo0 {O : pOut} {d kc ks : Nat} {Q : pRes → Prop} {es : PH} {x y : Int} (hs_es : sh es) (hx : -100 ≤ x ∧ x ≤ 100) (hy : -100 ≤ y ∧ y ≤ 100)
    (K1 : x < 0 → Q (.inl (some (.long (Int64.ofNat 0))), es, kc, ks))
    (K2 : ¬ (x < 0) → 6 ≤ x → Q (.inl (some (.long (Int64.ofNat 0))), es, kc, ks))
    (K3 : ¬ (x < 0) → ¬ (6 ≤ x) → y < 0 → Q (.inl (some (.long (Int64.ofNat 0))), es, kc, ks))
    (K4 : ¬ (x < 0) → ¬ (6 ≤ x) → ¬ (y < 0) → y < 6 → ∀ w5 : Int64, w5 = (Int64.ofNat 1) <<< ((zI ((6 * y) + x)).toInt64 &&& 63) → Q (.inl (some (.long w5)), es, kc, ks))
    (K5 : ¬ (x < 0) → ¬ (6 ≤ x) → ¬ (y < 0) → ¬ (y < 6) → Q (.inl (some (.long (Int64.ofNat 0))), es, kc, ks)) :
    aW O d 45 kc ks Q (0, [some (.int (zI x)), some (.int (zI y))], [], es) := by
  refine x0 (r := (1, [some (.int (zI x)), some (.int (zI y))], [.int (zI x)], es)) i_45_0 rfl ?_
  by_cases c1 : x < 0
  · refine x_ifT i_45_1 (by unfold i32 iLO iHI; omega) rfl (by simp only [zC, cR]; omega) ?_
    refine x0 (r := (21, [some (.int (zI x)), some (.int (zI y))], [.long (Int64.ofNat 0)], es)) i_45_20 rfl ?_
    refine x0 (r := (32, [some (.int (zI x)), some (.int (zI y))], [.long (Int64.ofNat 0)], es)) i_45_21 rfl ?_
    refine x_ret (v := some (.long (Int64.ofNat 0))) i_45_32 rfl (fun _ => rfl) rfl rfl rfl ?_
    exact K1 c1
  · refine x_ifF i_45_1 (by unfold i32 iLO iHI; omega) rfl (by simp only [zC, cR]; omega) ?_
    refine x0 (r := (5, [some (.int (zI x)), some (.int (zI y))], [.int (zI x)], es)) i_45_4 rfl ?_
    refine x0 (r := (7, [some (.int (zI x)), some (.int (zI y))], [.int (zI 6), .int (zI x)], es)) i_45_5 (by rfl) ?_
    by_cases c2 : 6 ≤ x
    · refine x_cmpT i_45_7 (by unfold i32 iLO iHI; omega) (by unfold i32 iLO iHI; omega) rfl (by simp only [zC, cR]; omega) ?_
      refine x0 (r := (21, [some (.int (zI x)), some (.int (zI y))], [.long (Int64.ofNat 0)], es)) i_45_20 rfl ?_
      refine x0 (r := (32, [some (.int (zI x)), some (.int (zI y))], [.long (Int64.ofNat 0)], es)) i_45_21 rfl ?_
      refine x_ret (v := some (.long (Int64.ofNat 0))) i_45_32 rfl (fun _ => rfl) rfl rfl rfl ?_
      exact K2 c1 c2
    · refine x_cmpF i_45_7 (by unfold i32 iLO iHI; omega) (by unfold i32 iLO iHI; omega) rfl (by simp only [zC, cR]; omega) ?_
      refine x0 (r := (11, [some (.int (zI x)), some (.int (zI y))], [.int (zI y)], es)) i_45_10 rfl ?_
      by_cases c3 : y < 0
      · refine x_ifT i_45_11 (by unfold i32 iLO iHI; omega) rfl (by simp only [zC, cR]; omega) ?_
        refine x0 (r := (21, [some (.int (zI x)), some (.int (zI y))], [.long (Int64.ofNat 0)], es)) i_45_20 rfl ?_
        refine x0 (r := (32, [some (.int (zI x)), some (.int (zI y))], [.long (Int64.ofNat 0)], es)) i_45_21 rfl ?_
        refine x_ret (v := some (.long (Int64.ofNat 0))) i_45_32 rfl (fun _ => rfl) rfl rfl rfl ?_
        exact K3 c1 c2 c3
      · refine x_ifF i_45_11 (by unfold i32 iLO iHI; omega) rfl (by simp only [zC, cR]; omega) ?_
        refine x0 (r := (15, [some (.int (zI x)), some (.int (zI y))], [.int (zI y)], es)) i_45_14 rfl ?_
        refine x0 (r := (17, [some (.int (zI x)), some (.int (zI y))], [.int (zI 6), .int (zI y)], es)) i_45_15 (by rfl) ?_
        by_cases c4 : y < 6
        · refine x_cmpT i_45_17 (by unfold i32 iLO iHI; omega) (by unfold i32 iLO iHI; omega) rfl (by simp only [zC, cR]; omega) ?_
          refine x0 (r := (25, [some (.int (zI x)), some (.int (zI y))], [.long (Int64.ofNat 1)], es)) i_45_24 rfl ?_
          refine x0 (r := (27, [some (.int (zI x)), some (.int (zI y))], [.int (zI 6), .long (Int64.ofNat 1)], es)) i_45_25 (by rfl) ?_
          refine x0 (r := (28, [some (.int (zI x)), some (.int (zI y))], [.int (zI y), .int (zI 6), .long (Int64.ofNat 1)], es)) i_45_27 rfl ?_
          refine x_imul i_45_28 ?_
          refine x0 (r := (30, [some (.int (zI x)), some (.int (zI y))], [.int (zI x), .int (zI (6 * y)), .long (Int64.ofNat 1)], es)) i_45_29 rfl ?_
          refine x_iadd i_45_30 ?_
          refine x0 (r := (32, [some (.int (zI x)), some (.int (zI y))], [.long ((Int64.ofNat 1) <<< ((zI ((6 * y) + x)).toInt64 &&& 63))], es)) i_45_31 rfl ?_
          obtain ⟨w5, e_w5⟩ : ∃ z : Int64, z = (Int64.ofNat 1) <<< ((zI ((6 * y) + x)).toInt64 &&& 63) := ⟨_, rfl⟩
          rw [← e_w5]
          refine x_ret (v := some (.long w5)) i_45_32 rfl (fun _ => rfl) rfl rfl rfl ?_
          exact K4 c1 c2 c3 c4 w5 e_w5
        · refine x_cmpF i_45_17 (by unfold i32 iLO iHI; omega) (by unfold i32 iLO iHI; omega) rfl (by simp only [zC, cR]; omega) ?_
          refine x0 (r := (21, [some (.int (zI x)), some (.int (zI y))], [.long (Int64.ofNat 0)], es)) i_45_20 rfl ?_
          refine x0 (r := (32, [some (.int (zI x)), some (.int (zI y))], [.long (Int64.ofNat 0)], es)) i_45_21 rfl ?_
          refine x_ret (v := some (.long (Int64.ofNat 0))) i_45_32 rfl (fun _ => rfl) rfl rfl rfl ?_
          exact K5 c1 c2 c3 c4
/-- the bit of a SQUARE -/
def bitP (x y : Int) (_ : PH) (v : Int64) : Prop := (0 ≤ x ∧ x ≤ 5 ∧ 0 ≤ y ∧ y ≤ 5) → lbit v ((6 * y) + x).toNat = true
theorem bit_sp {O : pOut} {d kc ks : Nat} {Q : pRes → Prop} {es : PH} {x y : Int} (hs : sh es) (hx : -100 ≤ x ∧ x ≤ 100) (hy : -100 ≤ y ∧ y ≤ 100) (K : ∀ v, bitP x y es v → Q (.inl (some (.long v)), es, kc, ks)) : aW O d 45 kc ks Q (0, [some (.int (zI x)), some (.int (zI y))], [], es) := by
  refine s_bo0 hs hx hy (fun _ => K _ (fun h => absurd h (by omega))) (fun _ _ => K _ (fun h => absurd h (by omega))) (fun _ _ _ => K _ (fun h => absurd h (by omega))) (fun _ _ _ _ w e => K _ (fun h => ?_)) (fun _ _ _ _ => K _ (fun h => absurd h (by omega)))
  rw [e, lbit_sh (by omega) (by omega)]
  exact decide_eq_true rfl
theorem s_nn0 {O : pOut} {d kc ks : Nat} {Q : pRes → Prop} {es : PH} {m bk nb wy : Int} (hs_es : sh es) (hb : 0 ≤ bk ∧ bk ≤ 2) (hm : 0 ≤ m ∧ m ≤ 23) (hmn : m + 1 ≤ nb) (hn : nb ≤ 24) (hq0 : (gI es 53 0).toInt = bk) (hq1 : (gI es 53 1).toInt = (bk + 1)) (hq2 : (gI es 53 2).toInt = 0) (hpo : ∀ i, i < 8 → (gA es 55 i).toInt = 0) (hli : (gI es 68 2).toInt = 0) (hnb : (gA es 13 bk.toNat).toInt = nb) (hwy : (gA es 54 bk.toNat).toInt = wy) (hf : (gA es 70 ((m * 3) + bk).toNat).toInt = m) (hl : (gA es 71 ((m * 3) + bk).toNat).toInt = m) (hle : (gA es 72 ((m * 3) + bk).toNat).toInt = 0) (hce : (gA es 69 ((((m * 3) + bk) * 25) + m).toNat).toInt = 0) (h2 : -20 ≤ (gA es 14 ((((bk * 24) + m) * 4) + 2).toNat).toInt ∧ (gA es 14 ((((bk * 24) + m) * 4) + 2).toNat).toInt ≤ 20) (h3 : -20 ≤ (gA es 14 ((((bk * 24) + m) * 4) + 3).toNat).toInt ∧ (gA es 14 ((((bk * 24) + m) * 4) + 3).toNat).toInt ≤ 20)
    (K1 : ∀ v1 : Int, v1 = (gA es 14 ((((bk * 24) + m) * 4) + 2).toNat).toInt → ∀ v2 : Int, v2 = (gA es 14 ((((bk * 24) + m) * 4) + 3).toNat).toInt → ∀ v3 : Int, v3 = (zI m &&& zI 1).toInt → wy ≠ 1 → ∀ w5 : Int64, bitP v1 v2 es w5 → ∀ w6 : Int64, bitP (v1 - 1) v2 es w6 → ∀ w7 : Int64, w7 = w5 ||| w6 → ∀ w8 : Int64, bitP (v1 + 1) v2 es w8 → ∀ w9 : Int64, w9 = w7 ||| w8 → ∀ w10 : Int64, bitP v1 (v2 - 1) es w10 → ∀ w11 : Int64, w11 = w9 ||| w10 → ∀ w12 : Int64, bitP v1 (v2 + 1) es w12 → ∀ w13 : Int64, w13 = w11 ||| w12 → ∀ w14 : Int64, bitP v1 (5 - v2) es w14 → ∀ w15 : Int64, w15 = w13 ||| w14 → ∀ w16 : Int64, w16 = (Int64.ofNat 0) ||| w15 → Q (.inl (some (.long w16)), es, kc, ks))
    (K2 : ∀ v1 : Int, v1 = (gA es 14 ((((bk * 24) + m) * 4) + 2).toNat).toInt → ∀ v2 : Int, v2 = (gA es 14 ((((bk * 24) + m) * 4) + 3).toNat).toInt → ∀ v3 : Int, v3 = (zI m &&& zI 1).toInt → ¬ (wy ≠ 1) → v3 ≠ 1 → ∀ w18 : Int64, bitP v1 v2 es w18 → ∀ w19 : Int64, bitP (v1 - 1) v2 es w19 → ∀ w20 : Int64, w20 = w18 ||| w19 → ∀ w21 : Int64, bitP (v1 + 1) v2 es w21 → ∀ w22 : Int64, w22 = w20 ||| w21 → ∀ w23 : Int64, bitP v1 (v2 - 1) es w23 → ∀ w24 : Int64, w24 = w22 ||| w23 → ∀ w25 : Int64, bitP v1 (v2 + 1) es w25 → ∀ w26 : Int64, w26 = w24 ||| w25 → ∀ w27 : Int64, bitP v1 (5 - v2) es w27 → ∀ w28 : Int64, w28 = w26 ||| w27 → ∀ w29 : Int64, w29 = (Int64.ofNat 0) ||| w28 → Q (.inl (some (.long w29)), es, kc, ks))
    (K3 : ∀ v1 : Int, v1 = (gA es 14 ((((bk * 24) + m) * 4) + 2).toNat).toInt → ∀ v2 : Int, v2 = (gA es 14 ((((bk * 24) + m) * 4) + 3).toNat).toInt → ∀ v3 : Int, v3 = (zI m &&& zI 1).toInt → ¬ (wy ≠ 1) → ¬ (v3 ≠ 1) → ∀ w30 : Int64, bitP v1 (5 - v2) es w30 → ∀ w31 : Int64, bitP (v1 - 1) (5 - v2) es w31 → ∀ w32 : Int64, w32 = w30 ||| w31 → ∀ w33 : Int64, bitP (v1 + 1) (5 - v2) es w33 → ∀ w34 : Int64, w34 = w32 ||| w33 → ∀ w35 : Int64, bitP v1 ((5 - v2) - 1) es w35 → ∀ w36 : Int64, w36 = w34 ||| w35 → ∀ w37 : Int64, bitP v1 ((5 - v2) + 1) es w37 → ∀ w38 : Int64, w38 = w36 ||| w37 → ∀ w39 : Int64, bitP v1 (5 - (5 - v2)) es w39 → ∀ w40 : Int64, w40 = w38 ||| w39 → ∀ w41 : Int64, w41 = (Int64.ofNat 0) ||| w40 → Q (.inl (some (.long w41)), es, kc, ks)) :
    aW O (d + 2) 42 kc ks Q (0, [some (.ref 132), some (.int (zI m)), some (.int (zI bk)), none, none, none, none, none, none, none], [], es) := by
  refine x0 (r := (1, [some (.ref 132), some (.int (zI m)), some (.int (zI bk)), none, none, none, none, none, none, none], [.int (zI m)], es)) i_42_0 rfl ?_
  refine x0 (r := (2, [some (.ref 132), some (.int (zI m)), some (.int (zI bk)), none, none, none, none, none, none, none], [.int (zI 3), .int (zI m)], es)) i_42_1 (by rfl) ?_
  refine x_imul i_42_2 ?_
  refine x0 (r := (4, [some (.ref 132), some (.int (zI m)), some (.int (zI bk)), none, none, none, none, none, none, none], [.int (zI bk), .int (zI (m * 3))], es)) i_42_3 rfl ?_
  refine x_iadd i_42_4 ?_
  refine x0 (r := (6, [some (.ref 132), some (.int (zI m)), some (.int (zI bk)), some (.int (zI ((m * 3) + bk))), none, none, none, none, none, none], [], es)) i_42_5 rfl ?_
  refine x0 (r := (7, [some (.ref 132), some (.int (zI m)), some (.int (zI bk)), some (.int (zI ((m * 3) + bk))), none, none, none, none, none, none], [.ref 132], es)) i_42_6 rfl ?_
  refine x_getr (p := 68) (k := 117) i_42_7 hs_es rfl rfl ?_
  show aW _ _ _ _ _ _ (10, [some (.ref 132), some (.int (zI m)), some (.int (zI bk)), some (.int (zI ((m * 3) + bk))), none, none, none, none, none, none], [.ref 117], es)
  refine x_getr (p := 53) (k := 118) i_42_10 hs_es rfl rfl ?_
  show aW _ _ _ _ _ _ (13, [some (.ref 132), some (.int (zI m)), some (.int (zI bk)), some (.int (zI ((m * 3) + bk))), none, none, none, none, none, none], [.ref 118], es)
  refine x0 (r := (14, [some (.ref 132), some (.int (zI m)), some (.int (zI bk)), some (.int (zI ((m * 3) + bk))), none, none, none, none, none, none], [.int (zI bk), .ref 118], es)) i_42_13 rfl ?_
  refine x_call (vs := [.ref 118, .int (zI bk)]) (rs := []) i_42_14 rfl (fun _ => rfl) rfl rfl rfl rfl rfl rfl ?_
  show aW _ _ _ _ _ _ (0, [some (.ref 118), some (.int (zI bk))], [], es)
  refine x0 (r := (1, [some (.ref 118), some (.int (zI bk))], [.int (zI bk)], es)) i_28_0 rfl ?_
  refine x_ifF i_28_1 (by unfold i32 iLO iHI; omega) rfl (by simp only [zC, cR]; omega) ?_
  refine x0 (r := (5, [some (.ref 118), some (.int (zI bk))], [.int (zI bk)], es)) i_28_4 rfl ?_
  refine x0 (r := (6, [some (.ref 118), some (.int (zI bk))], [.ref 118, .int (zI bk)], es)) i_28_5 rfl ?_
  refine x_alen (p := 54) (n := 3) i_28_6 hs_es rfl ?_
  refine x_cmpF i_28_7 (by unfold i32 iLO iHI; omega) (by unfold i32 iLO iHI; omega) rfl (by simp only [zC, cR]; omega) ?_
  refine x0 (r := (11, [some (.ref 118), some (.int (zI bk))], [.ref 118], es)) i_28_10 rfl ?_
  refine x0 (r := (12, [some (.ref 118), some (.int (zI bk))], [.int (zI bk), .ref 118], es)) i_28_11 rfl ?_
  refine x_iald (p := 54) i_28_12 hs_es rfl (by unfold i32 iLO iHI; omega) (by omega) (by omega) ?_
  rw [show (gA es 54 bk.toNat).toInt = wy from by exact hwy]
  have r_wy : -2147483648 ≤ wy ∧ wy ≤ 2147483647 := by
    have hh := i32_rng (gA es 54 bk.toNat)
    rw [hwy] at hh
    exact hh
  refine x0 (r := (17, [some (.ref 118), some (.int (zI bk))], [.int (zI wy)], es)) i_28_13 rfl ?_
  refine x_ret (v := some (.int (zI wy))) i_28_17 rfl (fun _ => rfl) rfl rfl rfl ?_
  show aW _ _ _ _ _ _ (17, [some (.ref 132), some (.int (zI m)), some (.int (zI bk)), some (.int (zI ((m * 3) + bk))), none, none, none, none, none, none], [.int (zI wy)], es)
  refine x0 (r := (19, [some (.ref 132), some (.int (zI m)), some (.int (zI bk)), some (.int (zI ((m * 3) + bk))), some (.int (zI wy)), none, none, none, none, none], [], es)) i_42_17 rfl ?_
  refine x0 (r := (20, [some (.ref 132), some (.int (zI m)), some (.int (zI bk)), some (.int (zI ((m * 3) + bk))), some (.int (zI wy)), none, none, none, none, none], [.long (Int64.ofNat 0)], es)) i_42_19 rfl ?_
  refine x0 (r := (22, [some (.ref 132), some (.int (zI m)), some (.int (zI bk)), some (.int (zI ((m * 3) + bk))), some (.int (zI wy)), some (.long (Int64.ofNat 0)), none, none, none, none], [], es)) i_42_20 rfl ?_
  refine x0 (r := (23, [some (.ref 132), some (.int (zI m)), some (.int (zI bk)), some (.int (zI ((m * 3) + bk))), some (.int (zI wy)), some (.long (Int64.ofNat 0)), none, none, none, none], [.ref 132], es)) i_42_22 rfl ?_
  refine x_getr (p := 68) (k := 134) i_42_23 hs_es rfl rfl ?_
  show aW _ _ _ _ _ _ (26, [some (.ref 132), some (.int (zI m)), some (.int (zI bk)), some (.int (zI ((m * 3) + bk))), some (.int (zI wy)), some (.long (Int64.ofNat 0)), none, none, none, none], [.ref 134], es)
  refine x0 (r := (27, [some (.ref 132), some (.int (zI m)), some (.int (zI bk)), some (.int (zI ((m * 3) + bk))), some (.int (zI wy)), some (.long (Int64.ofNat 0)), none, none, none, none], [.int (zI ((m * 3) + bk)), .ref 134], es)) i_42_26 rfl ?_
  refine x_call (vs := [.ref 134, .int (zI ((m * 3) + bk))]) (rs := []) i_42_27 rfl (fun _ => rfl) rfl rfl rfl rfl rfl rfl ?_
  show aW _ _ _ _ _ _ (0, [some (.ref 134), some (.int (zI ((m * 3) + bk)))], [], es)
  refine x0 (r := (1, [some (.ref 134), some (.int (zI ((m * 3) + bk)))], [.int (zI ((m * 3) + bk))], es)) i_28_0 rfl ?_
  refine x_ifF i_28_1 (by unfold i32 iLO iHI; omega) rfl (by simp only [zC, cR]; omega) ?_
  refine x0 (r := (5, [some (.ref 134), some (.int (zI ((m * 3) + bk)))], [.int (zI ((m * 3) + bk))], es)) i_28_4 rfl ?_
  refine x0 (r := (6, [some (.ref 134), some (.int (zI ((m * 3) + bk)))], [.ref 134, .int (zI ((m * 3) + bk))], es)) i_28_5 rfl ?_
  refine x_alen (p := 70) (n := 93) i_28_6 hs_es rfl ?_
  refine x_cmpF i_28_7 (by unfold i32 iLO iHI; omega) (by unfold i32 iLO iHI; omega) rfl (by simp only [zC, cR]; omega) ?_
  refine x0 (r := (11, [some (.ref 134), some (.int (zI ((m * 3) + bk)))], [.ref 134], es)) i_28_10 rfl ?_
  refine x0 (r := (12, [some (.ref 134), some (.int (zI ((m * 3) + bk)))], [.int (zI ((m * 3) + bk)), .ref 134], es)) i_28_11 rfl ?_
  refine x_iald (p := 70) i_28_12 hs_es rfl (by unfold i32 iLO iHI; omega) (by omega) (by omega) ?_
  rw [show (gA es 70 ((m * 3) + bk).toNat).toInt = m from by exact hf]
  refine x0 (r := (17, [some (.ref 134), some (.int (zI ((m * 3) + bk)))], [.int (zI m)], es)) i_28_13 rfl ?_
  refine x_ret (v := some (.int (zI m))) i_28_17 rfl (fun _ => rfl) rfl rfl rfl ?_
  show aW _ _ _ _ _ _ (30, [some (.ref 132), some (.int (zI m)), some (.int (zI bk)), some (.int (zI ((m * 3) + bk))), some (.int (zI wy)), some (.long (Int64.ofNat 0)), none, none, none, none], [.int (zI m)], es)
  refine x0 (r := (32, [some (.ref 132), some (.int (zI m)), some (.int (zI bk)), some (.int (zI ((m * 3) + bk))), some (.int (zI wy)), some (.long (Int64.ofNat 0)), none, some (.int (zI m)), none, none], [], es)) i_42_30 rfl ?_
  refine x0 (r := (34, [some (.ref 132), some (.int (zI m)), some (.int (zI bk)), some (.int (zI ((m * 3) + bk))), some (.int (zI wy)), some (.long (Int64.ofNat 0)), none, some (.int (zI m)), none, none], [.int (zI m)], es)) i_42_32 rfl ?_
  refine x0 (r := (35, [some (.ref 132), some (.int (zI m)), some (.int (zI bk)), some (.int (zI ((m * 3) + bk))), some (.int (zI wy)), some (.long (Int64.ofNat 0)), none, some (.int (zI m)), none, none], [.ref 132, .int (zI m)], es)) i_42_34 rfl ?_
  refine x_getr (p := 68) (k := 135) i_42_35 hs_es rfl rfl ?_
  show aW _ _ _ _ _ _ (38, [some (.ref 132), some (.int (zI m)), some (.int (zI bk)), some (.int (zI ((m * 3) + bk))), some (.int (zI wy)), some (.long (Int64.ofNat 0)), none, some (.int (zI m)), none, none], [.ref 135, .int (zI m)], es)
  refine x0 (r := (39, [some (.ref 132), some (.int (zI m)), some (.int (zI bk)), some (.int (zI ((m * 3) + bk))), some (.int (zI wy)), some (.long (Int64.ofNat 0)), none, some (.int (zI m)), none, none], [.int (zI ((m * 3) + bk)), .ref 135, .int (zI m)], es)) i_42_38 rfl ?_
  refine x_call (vs := [.ref 135, .int (zI ((m * 3) + bk))]) (rs := [.int (zI m)]) i_42_39 rfl (fun _ => rfl) rfl rfl rfl rfl rfl rfl ?_
  show aW _ _ _ _ _ _ (0, [some (.ref 135), some (.int (zI ((m * 3) + bk)))], [], es)
  refine x0 (r := (1, [some (.ref 135), some (.int (zI ((m * 3) + bk)))], [.int (zI ((m * 3) + bk))], es)) i_28_0 rfl ?_
  refine x_ifF i_28_1 (by unfold i32 iLO iHI; omega) rfl (by simp only [zC, cR]; omega) ?_
  refine x0 (r := (5, [some (.ref 135), some (.int (zI ((m * 3) + bk)))], [.int (zI ((m * 3) + bk))], es)) i_28_4 rfl ?_
  refine x0 (r := (6, [some (.ref 135), some (.int (zI ((m * 3) + bk)))], [.ref 135, .int (zI ((m * 3) + bk))], es)) i_28_5 rfl ?_
  refine x_alen (p := 71) (n := 93) i_28_6 hs_es rfl ?_
  refine x_cmpF i_28_7 (by unfold i32 iLO iHI; omega) (by unfold i32 iLO iHI; omega) rfl (by simp only [zC, cR]; omega) ?_
  refine x0 (r := (11, [some (.ref 135), some (.int (zI ((m * 3) + bk)))], [.ref 135], es)) i_28_10 rfl ?_
  refine x0 (r := (12, [some (.ref 135), some (.int (zI ((m * 3) + bk)))], [.int (zI ((m * 3) + bk)), .ref 135], es)) i_28_11 rfl ?_
  refine x_iald (p := 71) i_28_12 hs_es rfl (by unfold i32 iLO iHI; omega) (by omega) (by omega) ?_
  rw [show (gA es 71 ((m * 3) + bk).toNat).toInt = m from by exact hl]
  refine x0 (r := (17, [some (.ref 135), some (.int (zI ((m * 3) + bk)))], [.int (zI m)], es)) i_28_13 rfl ?_
  refine x_ret (v := some (.int (zI m))) i_28_17 rfl (fun _ => rfl) rfl rfl rfl ?_
  show aW _ _ _ _ _ _ (42, [some (.ref 132), some (.int (zI m)), some (.int (zI bk)), some (.int (zI ((m * 3) + bk))), some (.int (zI wy)), some (.long (Int64.ofNat 0)), none, some (.int (zI m)), none, none], [.int (zI m), .int (zI m)], es)
  refine x_cmpF i_42_42 (by unfold i32 iLO iHI; omega) (by unfold i32 iLO iHI; omega) rfl (by simp only [zC, cR]; omega) ?_
  refine x0 (r := (47, [some (.ref 132), some (.int (zI m)), some (.int (zI bk)), some (.int (zI ((m * 3) + bk))), some (.int (zI wy)), some (.long (Int64.ofNat 0)), none, some (.int (zI m)), none, none], [.int (zI m)], es)) i_42_45 rfl ?_
  refine x0 (r := (48, [some (.ref 132), some (.int (zI m)), some (.int (zI bk)), some (.int (zI ((m * 3) + bk))), some (.int (zI wy)), some (.long (Int64.ofNat 0)), none, some (.int (zI m)), none, none], [.ref 132, .int (zI m)], es)) i_42_47 rfl ?_
  refine x_getr (p := 68) (k := 71) i_42_48 hs_es rfl rfl ?_
  show aW _ _ _ _ _ _ (51, [some (.ref 132), some (.int (zI m)), some (.int (zI bk)), some (.int (zI ((m * 3) + bk))), some (.int (zI wy)), some (.long (Int64.ofNat 0)), none, some (.int (zI m)), none, none], [.ref 71, .int (zI m)], es)
  refine x0 (r := (52, [some (.ref 132), some (.int (zI m)), some (.int (zI bk)), some (.int (zI ((m * 3) + bk))), some (.int (zI wy)), some (.long (Int64.ofNat 0)), none, some (.int (zI m)), none, none], [.int (zI bk), .ref 71, .int (zI m)], es)) i_42_51 rfl ?_
  refine x_call (vs := [.ref 71, .int (zI bk)]) (rs := [.int (zI m)]) i_42_52 rfl (fun _ => rfl) rfl rfl rfl rfl rfl (pCall_v (p := 7) hs_es rfl rfl rfl rfl rfl (by decide) rfl rfl rfl rfl rfl) ?_
  show aW _ _ _ _ _ _ (0, [some (.ref 71), some (.int (zI bk))], [], es)
  refine x0 (r := (1, [some (.ref 71), some (.int (zI bk))], [.ref 71], es)) i_35_0 rfl ?_
  refine x_getr (p := 7) (k := 77) i_35_1 hs_es rfl rfl ?_
  show aW _ _ _ _ _ _ (4, [some (.ref 71), some (.int (zI bk))], [.ref 77], es)
  refine x0 (r := (5, [some (.ref 71), some (.int (zI bk))], [.int (zI bk), .ref 77], es)) i_35_4 rfl ?_
  refine x_call (vs := [.ref 77, .int (zI bk)]) (rs := []) i_35_5 rfl (fun _ => rfl) rfl rfl rfl rfl rfl rfl ?_
  show aW _ _ _ _ _ _ (0, [some (.ref 77), some (.int (zI bk))], [], es)
  refine x0 (r := (1, [some (.ref 77), some (.int (zI bk))], [.int (zI bk)], es)) i_28_0 rfl ?_
  refine x_ifF i_28_1 (by unfold i32 iLO iHI; omega) rfl (by simp only [zC, cR]; omega) ?_
  refine x0 (r := (5, [some (.ref 77), some (.int (zI bk))], [.int (zI bk)], es)) i_28_4 rfl ?_
  refine x0 (r := (6, [some (.ref 77), some (.int (zI bk))], [.ref 77, .int (zI bk)], es)) i_28_5 rfl ?_
  refine x_alen (p := 13) (n := 3) i_28_6 hs_es rfl ?_
  refine x_cmpF i_28_7 (by unfold i32 iLO iHI; omega) (by unfold i32 iLO iHI; omega) rfl (by simp only [zC, cR]; omega) ?_
  refine x0 (r := (11, [some (.ref 77), some (.int (zI bk))], [.ref 77], es)) i_28_10 rfl ?_
  refine x0 (r := (12, [some (.ref 77), some (.int (zI bk))], [.int (zI bk), .ref 77], es)) i_28_11 rfl ?_
  refine x_iald (p := 13) i_28_12 hs_es rfl (by unfold i32 iLO iHI; omega) (by omega) (by omega) ?_
  rw [show (gA es 13 bk.toNat).toInt = nb from by exact hnb]
  have r_nb : -2147483648 ≤ nb ∧ nb ≤ 2147483647 := by
    have hh := i32_rng (gA es 13 bk.toNat)
    rw [hnb] at hh
    exact hh
  refine x0 (r := (17, [some (.ref 77), some (.int (zI bk))], [.int (zI nb)], es)) i_28_13 rfl ?_
  refine x_ret (v := some (.int (zI nb))) i_28_17 rfl (fun _ => rfl) rfl rfl rfl ?_
  show aW _ _ _ _ _ _ (8, [some (.ref 71), some (.int (zI bk))], [.int (zI nb)], es)
  refine x_ret (v := some (.int (zI nb))) i_35_8 rfl (fun _ => rfl) rfl rfl rfl ?_
  show aW _ _ _ _ _ _ (55, [some (.ref 132), some (.int (zI m)), some (.int (zI bk)), some (.int (zI ((m * 3) + bk))), some (.int (zI wy)), some (.long (Int64.ofNat 0)), none, some (.int (zI m)), none, none], [.int (zI nb), .int (zI m)], es)
  refine x_cmpF i_42_55 (by unfold i32 iLO iHI; omega) (by unfold i32 iLO iHI; omega) rfl (by simp only [zC, cR]; omega) ?_
  refine x0 (r := (59, [some (.ref 132), some (.int (zI m)), some (.int (zI bk)), some (.int (zI ((m * 3) + bk))), some (.int (zI wy)), some (.long (Int64.ofNat 0)), none, some (.int (zI m)), none, none], [.ref 132], es)) i_42_58 rfl ?_
  refine x_getr (p := 68) (k := 133) i_42_59 hs_es rfl rfl ?_
  show aW _ _ _ _ _ _ (62, [some (.ref 132), some (.int (zI m)), some (.int (zI bk)), some (.int (zI ((m * 3) + bk))), some (.int (zI wy)), some (.long (Int64.ofNat 0)), none, some (.int (zI m)), none, none], [.ref 133], es)
  refine x0 (r := (63, [some (.ref 132), some (.int (zI m)), some (.int (zI bk)), some (.int (zI ((m * 3) + bk))), some (.int (zI wy)), some (.long (Int64.ofNat 0)), none, some (.int (zI m)), none, none], [.int (zI ((m * 3) + bk)), .ref 133], es)) i_42_62 rfl ?_
  refine x0 (r := (65, [some (.ref 132), some (.int (zI m)), some (.int (zI bk)), some (.int (zI ((m * 3) + bk))), some (.int (zI wy)), some (.long (Int64.ofNat 0)), none, some (.int (zI m)), none, none], [.int (zI 25), .int (zI ((m * 3) + bk)), .ref 133], es)) i_42_63 (by rfl) ?_
  refine x_imul i_42_65 ?_
  refine x0 (r := (68, [some (.ref 132), some (.int (zI m)), some (.int (zI bk)), some (.int (zI ((m * 3) + bk))), some (.int (zI wy)), some (.long (Int64.ofNat 0)), none, some (.int (zI m)), none, none], [.int (zI m), .int (zI (((m * 3) + bk) * 25)), .ref 133], es)) i_42_66 rfl ?_
  refine x_iadd i_42_68 ?_
  refine x_call (vs := [.ref 133, .int (zI ((((m * 3) + bk) * 25) + m))]) (rs := []) i_42_69 rfl (fun _ => rfl) rfl rfl rfl rfl rfl rfl ?_
  show aW _ _ _ _ _ _ (0, [some (.ref 133), some (.int (zI ((((m * 3) + bk) * 25) + m)))], [], es)
  refine x0 (r := (1, [some (.ref 133), some (.int (zI ((((m * 3) + bk) * 25) + m)))], [.int (zI ((((m * 3) + bk) * 25) + m))], es)) i_28_0 rfl ?_
  refine x_ifF i_28_1 (by unfold i32 iLO iHI; omega) rfl (by simp only [zC, cR]; omega) ?_
  refine x0 (r := (5, [some (.ref 133), some (.int (zI ((((m * 3) + bk) * 25) + m)))], [.int (zI ((((m * 3) + bk) * 25) + m))], es)) i_28_4 rfl ?_
  refine x0 (r := (6, [some (.ref 133), some (.int (zI ((((m * 3) + bk) * 25) + m)))], [.ref 133, .int (zI ((((m * 3) + bk) * 25) + m))], es)) i_28_5 rfl ?_
  refine x_alen (p := 69) (n := 2325) i_28_6 hs_es rfl ?_
  refine x_cmpF i_28_7 (by unfold i32 iLO iHI; omega) (by unfold i32 iLO iHI; omega) rfl (by simp only [zC, cR]; omega) ?_
  refine x0 (r := (11, [some (.ref 133), some (.int (zI ((((m * 3) + bk) * 25) + m)))], [.ref 133], es)) i_28_10 rfl ?_
  refine x0 (r := (12, [some (.ref 133), some (.int (zI ((((m * 3) + bk) * 25) + m)))], [.int (zI ((((m * 3) + bk) * 25) + m)), .ref 133], es)) i_28_11 rfl ?_
  refine x_iald (p := 69) i_28_12 hs_es rfl (by unfold i32 iLO iHI; omega) (by omega) (by omega) ?_
  rw [show (gA es 69 ((((m * 3) + bk) * 25) + m).toNat).toInt = 0 from by exact hce]
  refine x0 (r := (17, [some (.ref 133), some (.int (zI ((((m * 3) + bk) * 25) + m)))], [.int (zI 0)], es)) i_28_13 rfl ?_
  refine x_ret (v := some (.int (zI 0))) i_28_17 rfl (fun _ => rfl) rfl rfl rfl ?_
  show aW _ _ _ _ _ _ (72, [some (.ref 132), some (.int (zI m)), some (.int (zI bk)), some (.int (zI ((m * 3) + bk))), some (.int (zI wy)), some (.long (Int64.ofNat 0)), none, some (.int (zI m)), none, none], [.int (zI 0)], es)
  refine x0 (r := (75, [some (.ref 132), some (.int (zI m)), some (.int (zI bk)), some (.int (zI ((m * 3) + bk))), some (.int (zI wy)), some (.long (Int64.ofNat 0)), none, some (.int (zI m)), none, none], [.int (zI 1000), .int (zI 0)], es)) i_42_72 (by rfl) ?_
  refine x_cmpF i_42_75 (by unfold i32 iLO iHI; omega) (by unfold i32 iLO iHI; omega) rfl (by simp only [zC, cR]; omega) ?_
  refine x0 (r := (79, [some (.ref 132), some (.int (zI m)), some (.int (zI bk)), some (.int (zI ((m * 3) + bk))), some (.int (zI wy)), some (.long (Int64.ofNat 0)), none, some (.int (zI m)), none, none], [.ref 132], es)) i_42_78 rfl ?_
  refine x_getr (p := 68) (k := 71) i_42_79 hs_es rfl rfl ?_
  show aW _ _ _ _ _ _ (82, [some (.ref 132), some (.int (zI m)), some (.int (zI bk)), some (.int (zI ((m * 3) + bk))), some (.int (zI wy)), some (.long (Int64.ofNat 0)), none, some (.int (zI m)), none, none], [.ref 71], es)
  refine x0 (r := (83, [some (.ref 132), some (.int (zI m)), some (.int (zI bk)), some (.int (zI ((m * 3) + bk))), some (.int (zI wy)), some (.long (Int64.ofNat 0)), none, some (.int (zI m)), none, none], [.int (zI bk), .ref 71], es)) i_42_82 rfl ?_
  refine x0 (r := (85, [some (.ref 132), some (.int (zI m)), some (.int (zI bk)), some (.int (zI ((m * 3) + bk))), some (.int (zI wy)), some (.long (Int64.ofNat 0)), none, some (.int (zI m)), none, none], [.int (zI m), .int (zI bk), .ref 71], es)) i_42_83 rfl ?_
  refine x0 (r := (86, [some (.ref 132), some (.int (zI m)), some (.int (zI bk)), some (.int (zI ((m * 3) + bk))), some (.int (zI wy)), some (.long (Int64.ofNat 0)), none, some (.int (zI m)), none, none], [.int (zI 2), .int (zI m), .int (zI bk), .ref 71], es)) i_42_85 (by rfl) ?_
  refine x_call (vs := [.ref 71, .int (zI bk), .int (zI m), .int (zI 2)]) (rs := []) i_42_86 rfl (fun _ => rfl) rfl rfl rfl rfl rfl (pCall_v (p := 7) hs_es rfl rfl rfl rfl rfl (by decide) rfl rfl rfl rfl rfl) ?_
  show aW _ _ _ _ _ _ (0, [some (.ref 71), some (.int (zI bk)), some (.int (zI m)), some (.int (zI 2))], [], es)
  refine x0 (r := (1, [some (.ref 71), some (.int (zI bk)), some (.int (zI m)), some (.int (zI 2))], [.ref 71], es)) i_43_0 rfl ?_
  refine x_getr (p := 7) (k := 78) i_43_1 hs_es rfl rfl ?_
  show aW _ _ _ _ _ _ (4, [some (.ref 71), some (.int (zI bk)), some (.int (zI m)), some (.int (zI 2))], [.ref 78], es)
  refine x0 (r := (5, [some (.ref 71), some (.int (zI bk)), some (.int (zI m)), some (.int (zI 2))], [.int (zI bk), .ref 78], es)) i_43_4 rfl ?_
  refine x0 (r := (7, [some (.ref 71), some (.int (zI bk)), some (.int (zI m)), some (.int (zI 2))], [.int (zI 24), .int (zI bk), .ref 78], es)) i_43_5 (by rfl) ?_
  refine x_imul i_43_7 ?_
  refine x0 (r := (9, [some (.ref 71), some (.int (zI bk)), some (.int (zI m)), some (.int (zI 2))], [.int (zI m), .int (zI (bk * 24)), .ref 78], es)) i_43_8 rfl ?_
  refine x_iadd i_43_9 ?_
  refine x0 (r := (11, [some (.ref 71), some (.int (zI bk)), some (.int (zI m)), some (.int (zI 2))], [.int (zI 4), .int (zI ((bk * 24) + m)), .ref 78], es)) i_43_10 (by rfl) ?_
  refine x_imul i_43_11 ?_
  refine x0 (r := (13, [some (.ref 71), some (.int (zI bk)), some (.int (zI m)), some (.int (zI 2))], [.int (zI 2), .int (zI (((bk * 24) + m) * 4)), .ref 78], es)) i_43_12 rfl ?_
  refine x_iadd i_43_13 ?_
  refine x_call (vs := [.ref 78, .int (zI ((((bk * 24) + m) * 4) + 2))]) (rs := []) i_43_14 rfl (fun _ => rfl) rfl rfl rfl rfl rfl rfl ?_
  show aW _ _ _ _ _ _ (0, [some (.ref 78), some (.int (zI ((((bk * 24) + m) * 4) + 2)))], [], es)
  refine x0 (r := (1, [some (.ref 78), some (.int (zI ((((bk * 24) + m) * 4) + 2)))], [.int (zI ((((bk * 24) + m) * 4) + 2))], es)) i_28_0 rfl ?_
  refine x_ifF i_28_1 (by unfold i32 iLO iHI; omega) rfl (by simp only [zC, cR]; omega) ?_
  refine x0 (r := (5, [some (.ref 78), some (.int (zI ((((bk * 24) + m) * 4) + 2)))], [.int (zI ((((bk * 24) + m) * 4) + 2))], es)) i_28_4 rfl ?_
  refine x0 (r := (6, [some (.ref 78), some (.int (zI ((((bk * 24) + m) * 4) + 2)))], [.ref 78, .int (zI ((((bk * 24) + m) * 4) + 2))], es)) i_28_5 rfl ?_
  refine x_alen (p := 14) (n := 288) i_28_6 hs_es rfl ?_
  refine x_cmpF i_28_7 (by unfold i32 iLO iHI; omega) (by unfold i32 iLO iHI; omega) rfl (by simp only [zC, cR]; omega) ?_
  refine x0 (r := (11, [some (.ref 78), some (.int (zI ((((bk * 24) + m) * 4) + 2)))], [.ref 78], es)) i_28_10 rfl ?_
  refine x0 (r := (12, [some (.ref 78), some (.int (zI ((((bk * 24) + m) * 4) + 2)))], [.int (zI ((((bk * 24) + m) * 4) + 2)), .ref 78], es)) i_28_11 rfl ?_
  refine x_iald (p := 14) i_28_12 hs_es rfl (by unfold i32 iLO iHI; omega) (by omega) (by omega) ?_
  obtain ⟨v1, e_v1⟩ : ∃ z : Int, z = (gA es 14 ((((bk * 24) + m) * 4) + 2).toNat).toInt := ⟨_, rfl⟩
  rw [← e_v1]
  have r_v1 : iLO ≤ v1 ∧ v1 ≤ iHI := by rw [e_v1]; exact i32_rng _
  unfold iLO iHI at r_v1
  refine x0 (r := (17, [some (.ref 78), some (.int (zI ((((bk * 24) + m) * 4) + 2)))], [.int (zI v1)], es)) i_28_13 rfl ?_
  refine x_ret (v := some (.int (zI v1))) i_28_17 rfl (fun _ => rfl) rfl rfl rfl ?_
  show aW _ _ _ _ _ _ (17, [some (.ref 71), some (.int (zI bk)), some (.int (zI m)), some (.int (zI 2))], [.int (zI v1)], es)
  refine x_ret (v := some (.int (zI v1))) i_43_17 rfl (fun _ => rfl) rfl rfl rfl ?_
  show aW _ _ _ _ _ _ (89, [some (.ref 132), some (.int (zI m)), some (.int (zI bk)), some (.int (zI ((m * 3) + bk))), some (.int (zI wy)), some (.long (Int64.ofNat 0)), none, some (.int (zI m)), none, none], [.int (zI v1)], es)
  refine x0 (r := (91, [some (.ref 132), some (.int (zI m)), some (.int (zI bk)), some (.int (zI ((m * 3) + bk))), some (.int (zI wy)), some (.long (Int64.ofNat 0)), none, some (.int (zI m)), some (.int (zI v1)), none], [], es)) i_42_89 rfl ?_
  refine x0 (r := (92, [some (.ref 132), some (.int (zI m)), some (.int (zI bk)), some (.int (zI ((m * 3) + bk))), some (.int (zI wy)), some (.long (Int64.ofNat 0)), none, some (.int (zI m)), some (.int (zI v1)), none], [.ref 132], es)) i_42_91 rfl ?_
  refine x_getr (p := 68) (k := 71) i_42_92 hs_es rfl rfl ?_
  show aW _ _ _ _ _ _ (95, [some (.ref 132), some (.int (zI m)), some (.int (zI bk)), some (.int (zI ((m * 3) + bk))), some (.int (zI wy)), some (.long (Int64.ofNat 0)), none, some (.int (zI m)), some (.int (zI v1)), none], [.ref 71], es)
  refine x0 (r := (96, [some (.ref 132), some (.int (zI m)), some (.int (zI bk)), some (.int (zI ((m * 3) + bk))), some (.int (zI wy)), some (.long (Int64.ofNat 0)), none, some (.int (zI m)), some (.int (zI v1)), none], [.int (zI bk), .ref 71], es)) i_42_95 rfl ?_
  refine x0 (r := (98, [some (.ref 132), some (.int (zI m)), some (.int (zI bk)), some (.int (zI ((m * 3) + bk))), some (.int (zI wy)), some (.long (Int64.ofNat 0)), none, some (.int (zI m)), some (.int (zI v1)), none], [.int (zI m), .int (zI bk), .ref 71], es)) i_42_96 rfl ?_
  refine x0 (r := (99, [some (.ref 132), some (.int (zI m)), some (.int (zI bk)), some (.int (zI ((m * 3) + bk))), some (.int (zI wy)), some (.long (Int64.ofNat 0)), none, some (.int (zI m)), some (.int (zI v1)), none], [.int (zI 3), .int (zI m), .int (zI bk), .ref 71], es)) i_42_98 (by rfl) ?_
  refine x_call (vs := [.ref 71, .int (zI bk), .int (zI m), .int (zI 3)]) (rs := []) i_42_99 rfl (fun _ => rfl) rfl rfl rfl rfl rfl (pCall_v (p := 7) hs_es rfl rfl rfl rfl rfl (by decide) rfl rfl rfl rfl rfl) ?_
  show aW _ _ _ _ _ _ (0, [some (.ref 71), some (.int (zI bk)), some (.int (zI m)), some (.int (zI 3))], [], es)
  refine x0 (r := (1, [some (.ref 71), some (.int (zI bk)), some (.int (zI m)), some (.int (zI 3))], [.ref 71], es)) i_43_0 rfl ?_
  refine x_getr (p := 7) (k := 78) i_43_1 hs_es rfl rfl ?_
  show aW _ _ _ _ _ _ (4, [some (.ref 71), some (.int (zI bk)), some (.int (zI m)), some (.int (zI 3))], [.ref 78], es)
  refine x0 (r := (5, [some (.ref 71), some (.int (zI bk)), some (.int (zI m)), some (.int (zI 3))], [.int (zI bk), .ref 78], es)) i_43_4 rfl ?_
  refine x0 (r := (7, [some (.ref 71), some (.int (zI bk)), some (.int (zI m)), some (.int (zI 3))], [.int (zI 24), .int (zI bk), .ref 78], es)) i_43_5 (by rfl) ?_
  refine x_imul i_43_7 ?_
  refine x0 (r := (9, [some (.ref 71), some (.int (zI bk)), some (.int (zI m)), some (.int (zI 3))], [.int (zI m), .int (zI (bk * 24)), .ref 78], es)) i_43_8 rfl ?_
  refine x_iadd i_43_9 ?_
  refine x0 (r := (11, [some (.ref 71), some (.int (zI bk)), some (.int (zI m)), some (.int (zI 3))], [.int (zI 4), .int (zI ((bk * 24) + m)), .ref 78], es)) i_43_10 (by rfl) ?_
  refine x_imul i_43_11 ?_
  refine x0 (r := (13, [some (.ref 71), some (.int (zI bk)), some (.int (zI m)), some (.int (zI 3))], [.int (zI 3), .int (zI (((bk * 24) + m) * 4)), .ref 78], es)) i_43_12 rfl ?_
  refine x_iadd i_43_13 ?_
  refine x_call (vs := [.ref 78, .int (zI ((((bk * 24) + m) * 4) + 3))]) (rs := []) i_43_14 rfl (fun _ => rfl) rfl rfl rfl rfl rfl rfl ?_
  show aW _ _ _ _ _ _ (0, [some (.ref 78), some (.int (zI ((((bk * 24) + m) * 4) + 3)))], [], es)
  refine x0 (r := (1, [some (.ref 78), some (.int (zI ((((bk * 24) + m) * 4) + 3)))], [.int (zI ((((bk * 24) + m) * 4) + 3))], es)) i_28_0 rfl ?_
  refine x_ifF i_28_1 (by unfold i32 iLO iHI; omega) rfl (by simp only [zC, cR]; omega) ?_
  refine x0 (r := (5, [some (.ref 78), some (.int (zI ((((bk * 24) + m) * 4) + 3)))], [.int (zI ((((bk * 24) + m) * 4) + 3))], es)) i_28_4 rfl ?_
  refine x0 (r := (6, [some (.ref 78), some (.int (zI ((((bk * 24) + m) * 4) + 3)))], [.ref 78, .int (zI ((((bk * 24) + m) * 4) + 3))], es)) i_28_5 rfl ?_
  refine x_alen (p := 14) (n := 288) i_28_6 hs_es rfl ?_
  refine x_cmpF i_28_7 (by unfold i32 iLO iHI; omega) (by unfold i32 iLO iHI; omega) rfl (by simp only [zC, cR]; omega) ?_
  refine x0 (r := (11, [some (.ref 78), some (.int (zI ((((bk * 24) + m) * 4) + 3)))], [.ref 78], es)) i_28_10 rfl ?_
  refine x0 (r := (12, [some (.ref 78), some (.int (zI ((((bk * 24) + m) * 4) + 3)))], [.int (zI ((((bk * 24) + m) * 4) + 3)), .ref 78], es)) i_28_11 rfl ?_
  refine x_iald (p := 14) i_28_12 hs_es rfl (by unfold i32 iLO iHI; omega) (by omega) (by omega) ?_
  obtain ⟨v2, e_v2⟩ : ∃ z : Int, z = (gA es 14 ((((bk * 24) + m) * 4) + 3).toNat).toInt := ⟨_, rfl⟩
  rw [← e_v2]
  have r_v2 : iLO ≤ v2 ∧ v2 ≤ iHI := by rw [e_v2]; exact i32_rng _
  unfold iLO iHI at r_v2
  refine x0 (r := (17, [some (.ref 78), some (.int (zI ((((bk * 24) + m) * 4) + 3)))], [.int (zI v2)], es)) i_28_13 rfl ?_
  refine x_ret (v := some (.int (zI v2))) i_28_17 rfl (fun _ => rfl) rfl rfl rfl ?_
  show aW _ _ _ _ _ _ (17, [some (.ref 71), some (.int (zI bk)), some (.int (zI m)), some (.int (zI 3))], [.int (zI v2)], es)
  refine x_ret (v := some (.int (zI v2))) i_43_17 rfl (fun _ => rfl) rfl rfl rfl ?_
  show aW _ _ _ _ _ _ (102, [some (.ref 132), some (.int (zI m)), some (.int (zI bk)), some (.int (zI ((m * 3) + bk))), some (.int (zI wy)), some (.long (Int64.ofNat 0)), none, some (.int (zI m)), some (.int (zI v1)), none], [.int (zI v2)], es)
  refine x0 (r := (104, [some (.ref 132), some (.int (zI m)), some (.int (zI bk)), some (.int (zI ((m * 3) + bk))), some (.int (zI wy)), some (.long (Int64.ofNat 0)), none, some (.int (zI m)), some (.int (zI v1)), none], [.int (zI wy), .int (zI v2)], es)) i_42_102 rfl ?_
  refine x0 (r := (105, [some (.ref 132), some (.int (zI m)), some (.int (zI bk)), some (.int (zI ((m * 3) + bk))), some (.int (zI wy)), some (.long (Int64.ofNat 0)), none, some (.int (zI m)), some (.int (zI v1)), none], [.int (zI m), .int (zI wy), .int (zI v2)], es)) i_42_104 rfl ?_
  refine x0 (r := (106, [some (.ref 132), some (.int (zI m)), some (.int (zI bk)), some (.int (zI ((m * 3) + bk))), some (.int (zI wy)), some (.long (Int64.ofNat 0)), none, some (.int (zI m)), some (.int (zI v1)), none], [.int (zI 1), .int (zI m), .int (zI wy), .int (zI v2)], es)) i_42_105 (by rfl) ?_
  refine x_op i_42_106 (w := (zI m &&& zI 1)) rfl rfl ?_
  obtain ⟨v3, e_v3⟩ : ∃ z : Int, z = (zI m &&& zI 1).toInt := ⟨_, rfl⟩
  rw [← e_v3]
  have r_v3 : iLO ≤ v3 ∧ v3 ≤ iHI := by rw [e_v3]; exact i32_rng _
  unfold iLO iHI at r_v3
  refine x_call (vs := [.int (zI v2), .int (zI wy), .int (zI v3)]) (rs := []) i_42_107 rfl (fun _ => rfl) rfl rfl rfl rfl rfl rfl ?_
  show aW _ _ _ _ _ _ (0, [some (.int (zI v2)), some (.int (zI wy)), some (.int (zI v3))], [], es)
  refine x0 (r := (1, [some (.int (zI v2)), some (.int (zI wy)), some (.int (zI v3))], [.int (zI wy)], es)) i_44_0 rfl ?_
  refine x0 (r := (2, [some (.int (zI v2)), some (.int (zI wy)), some (.int (zI v3))], [.int (zI 1), .int (zI wy)], es)) i_44_1 (by rfl) ?_
  by_cases c4 : wy ≠ 1
  · refine x_cmpT i_44_2 (by unfold i32 iLO iHI; omega) (by unfold i32 iLO iHI; omega) rfl (by simp only [zC, cR]; omega) ?_
    refine x0 (r := (17, [some (.int (zI v2)), some (.int (zI wy)), some (.int (zI v3))], [.int (zI v2)], es)) i_44_16 rfl ?_
    refine x_ret (v := some (.int (zI v2))) i_44_17 rfl (fun _ => rfl) rfl rfl rfl ?_
    show aW _ _ _ _ _ _ (110, [some (.ref 132), some (.int (zI m)), some (.int (zI bk)), some (.int (zI ((m * 3) + bk))), some (.int (zI wy)), some (.long (Int64.ofNat 0)), none, some (.int (zI m)), some (.int (zI v1)), none], [.int (zI v2)], es)
    refine x0 (r := (112, [some (.ref 132), some (.int (zI m)), some (.int (zI bk)), some (.int (zI ((m * 3) + bk))), some (.int (zI wy)), some (.long (Int64.ofNat 0)), none, some (.int (zI m)), some (.int (zI v1)), some (.int (zI v2))], [], es)) i_42_110 rfl ?_
    refine x0 (r := (114, [some (.ref 132), some (.int (zI m)), some (.int (zI bk)), some (.int (zI ((m * 3) + bk))), some (.int (zI wy)), some (.long (Int64.ofNat 0)), none, some (.int (zI m)), some (.int (zI v1)), some (.int (zI v2))], [.long (Int64.ofNat 0)], es)) i_42_112 rfl ?_
    refine x0 (r := (116, [some (.ref 132), some (.int (zI m)), some (.int (zI bk)), some (.int (zI ((m * 3) + bk))), some (.int (zI wy)), some (.long (Int64.ofNat 0)), none, some (.int (zI m)), some (.int (zI v1)), some (.int (zI v2))], [.int (zI v1), .long (Int64.ofNat 0)], es)) i_42_114 rfl ?_
    refine x0 (r := (118, [some (.ref 132), some (.int (zI m)), some (.int (zI bk)), some (.int (zI ((m * 3) + bk))), some (.int (zI wy)), some (.long (Int64.ofNat 0)), none, some (.int (zI m)), some (.int (zI v1)), some (.int (zI v2))], [.int (zI v2), .int (zI v1), .long (Int64.ofNat 0)], es)) i_42_116 rfl ?_
    refine x_call (vs := [.int (zI v1), .int (zI v2)]) (rs := [.long (Int64.ofNat 0)]) i_42_118 rfl (fun _ => rfl) rfl rfl rfl rfl rfl rfl ?_
    show aW _ _ _ _ _ _ (0, [some (.int (zI v1)), some (.int (zI v2))], [], es)
    refine bit_sp hs_es ⟨by omega, by omega⟩ ⟨by omega, by omega⟩ (fun w5 p_w5 => ?_)
    show aW _ _ _ _ _ _ (121, [some (.ref 132), some (.int (zI m)), some (.int (zI bk)), some (.int (zI ((m * 3) + bk))), some (.int (zI wy)), some (.long (Int64.ofNat 0)), none, some (.int (zI m)), some (.int (zI v1)), some (.int (zI v2))], [.long w5, .long (Int64.ofNat 0)], es)
    refine x0 (r := (123, [some (.ref 132), some (.int (zI m)), some (.int (zI bk)), some (.int (zI ((m * 3) + bk))), some (.int (zI wy)), some (.long (Int64.ofNat 0)), none, some (.int (zI m)), some (.int (zI v1)), some (.int (zI v2))], [.int (zI v1), .long w5, .long (Int64.ofNat 0)], es)) i_42_121 rfl ?_
    refine x0 (r := (124, [some (.ref 132), some (.int (zI m)), some (.int (zI bk)), some (.int (zI ((m * 3) + bk))), some (.int (zI wy)), some (.long (Int64.ofNat 0)), none, some (.int (zI m)), some (.int (zI v1)), some (.int (zI v2))], [.int (zI 1), .int (zI v1), .long w5, .long (Int64.ofNat 0)], es)) i_42_123 (by rfl) ?_
    refine x_isub i_42_124 ?_
    refine x0 (r := (127, [some (.ref 132), some (.int (zI m)), some (.int (zI bk)), some (.int (zI ((m * 3) + bk))), some (.int (zI wy)), some (.long (Int64.ofNat 0)), none, some (.int (zI m)), some (.int (zI v1)), some (.int (zI v2))], [.int (zI v2), .int (zI (v1 - 1)), .long w5, .long (Int64.ofNat 0)], es)) i_42_125 rfl ?_
    refine x_call (vs := [.int (zI (v1 - 1)), .int (zI v2)]) (rs := [.long w5, .long (Int64.ofNat 0)]) i_42_127 rfl (fun _ => rfl) rfl rfl rfl rfl rfl rfl ?_
    show aW _ _ _ _ _ _ (0, [some (.int (zI (v1 - 1))), some (.int (zI v2))], [], es)
    refine bit_sp hs_es ⟨by omega, by omega⟩ ⟨by omega, by omega⟩ (fun w6 p_w6 => ?_)
    show aW _ _ _ _ _ _ (130, [some (.ref 132), some (.int (zI m)), some (.int (zI bk)), some (.int (zI ((m * 3) + bk))), some (.int (zI wy)), some (.long (Int64.ofNat 0)), none, some (.int (zI m)), some (.int (zI v1)), some (.int (zI v2))], [.long w6, .long w5, .long (Int64.ofNat 0)], es)
    refine x0 (r := (131, [some (.ref 132), some (.int (zI m)), some (.int (zI bk)), some (.int (zI ((m * 3) + bk))), some (.int (zI wy)), some (.long (Int64.ofNat 0)), none, some (.int (zI m)), some (.int (zI v1)), some (.int (zI v2))], [.long (w5 ||| w6), .long (Int64.ofNat 0)], es)) i_42_130 rfl ?_
    obtain ⟨w7, e_w7⟩ : ∃ z : Int64, z = w5 ||| w6 := ⟨_, rfl⟩
    rw [← e_w7]
    refine x0 (r := (133, [some (.ref 132), some (.int (zI m)), some (.int (zI bk)), some (.int (zI ((m * 3) + bk))), some (.int (zI wy)), some (.long (Int64.ofNat 0)), none, some (.int (zI m)), some (.int (zI v1)), some (.int (zI v2))], [.int (zI v1), .long w7, .long (Int64.ofNat 0)], es)) i_42_131 rfl ?_
    refine x0 (r := (134, [some (.ref 132), some (.int (zI m)), some (.int (zI bk)), some (.int (zI ((m * 3) + bk))), some (.int (zI wy)), some (.long (Int64.ofNat 0)), none, some (.int (zI m)), some (.int (zI v1)), some (.int (zI v2))], [.int (zI 1), .int (zI v1), .long w7, .long (Int64.ofNat 0)], es)) i_42_133 (by rfl) ?_
    refine x_iadd i_42_134 ?_
    refine x0 (r := (137, [some (.ref 132), some (.int (zI m)), some (.int (zI bk)), some (.int (zI ((m * 3) + bk))), some (.int (zI wy)), some (.long (Int64.ofNat 0)), none, some (.int (zI m)), some (.int (zI v1)), some (.int (zI v2))], [.int (zI v2), .int (zI (v1 + 1)), .long w7, .long (Int64.ofNat 0)], es)) i_42_135 rfl ?_
    refine x_call (vs := [.int (zI (v1 + 1)), .int (zI v2)]) (rs := [.long w7, .long (Int64.ofNat 0)]) i_42_137 rfl (fun _ => rfl) rfl rfl rfl rfl rfl rfl ?_
    show aW _ _ _ _ _ _ (0, [some (.int (zI (v1 + 1))), some (.int (zI v2))], [], es)
    refine bit_sp hs_es ⟨by omega, by omega⟩ ⟨by omega, by omega⟩ (fun w8 p_w8 => ?_)
    show aW _ _ _ _ _ _ (140, [some (.ref 132), some (.int (zI m)), some (.int (zI bk)), some (.int (zI ((m * 3) + bk))), some (.int (zI wy)), some (.long (Int64.ofNat 0)), none, some (.int (zI m)), some (.int (zI v1)), some (.int (zI v2))], [.long w8, .long w7, .long (Int64.ofNat 0)], es)
    refine x0 (r := (141, [some (.ref 132), some (.int (zI m)), some (.int (zI bk)), some (.int (zI ((m * 3) + bk))), some (.int (zI wy)), some (.long (Int64.ofNat 0)), none, some (.int (zI m)), some (.int (zI v1)), some (.int (zI v2))], [.long (w7 ||| w8), .long (Int64.ofNat 0)], es)) i_42_140 rfl ?_
    obtain ⟨w9, e_w9⟩ : ∃ z : Int64, z = w7 ||| w8 := ⟨_, rfl⟩
    rw [← e_w9]
    refine x0 (r := (143, [some (.ref 132), some (.int (zI m)), some (.int (zI bk)), some (.int (zI ((m * 3) + bk))), some (.int (zI wy)), some (.long (Int64.ofNat 0)), none, some (.int (zI m)), some (.int (zI v1)), some (.int (zI v2))], [.int (zI v1), .long w9, .long (Int64.ofNat 0)], es)) i_42_141 rfl ?_
    refine x0 (r := (145, [some (.ref 132), some (.int (zI m)), some (.int (zI bk)), some (.int (zI ((m * 3) + bk))), some (.int (zI wy)), some (.long (Int64.ofNat 0)), none, some (.int (zI m)), some (.int (zI v1)), some (.int (zI v2))], [.int (zI v2), .int (zI v1), .long w9, .long (Int64.ofNat 0)], es)) i_42_143 rfl ?_
    refine x0 (r := (146, [some (.ref 132), some (.int (zI m)), some (.int (zI bk)), some (.int (zI ((m * 3) + bk))), some (.int (zI wy)), some (.long (Int64.ofNat 0)), none, some (.int (zI m)), some (.int (zI v1)), some (.int (zI v2))], [.int (zI 1), .int (zI v2), .int (zI v1), .long w9, .long (Int64.ofNat 0)], es)) i_42_145 (by rfl) ?_
    refine x_isub i_42_146 ?_
    refine x_call (vs := [.int (zI v1), .int (zI (v2 - 1))]) (rs := [.long w9, .long (Int64.ofNat 0)]) i_42_147 rfl (fun _ => rfl) rfl rfl rfl rfl rfl rfl ?_
    show aW _ _ _ _ _ _ (0, [some (.int (zI v1)), some (.int (zI (v2 - 1)))], [], es)
    refine bit_sp hs_es ⟨by omega, by omega⟩ ⟨by omega, by omega⟩ (fun w10 p_w10 => ?_)
    show aW _ _ _ _ _ _ (150, [some (.ref 132), some (.int (zI m)), some (.int (zI bk)), some (.int (zI ((m * 3) + bk))), some (.int (zI wy)), some (.long (Int64.ofNat 0)), none, some (.int (zI m)), some (.int (zI v1)), some (.int (zI v2))], [.long w10, .long w9, .long (Int64.ofNat 0)], es)
    refine x0 (r := (151, [some (.ref 132), some (.int (zI m)), some (.int (zI bk)), some (.int (zI ((m * 3) + bk))), some (.int (zI wy)), some (.long (Int64.ofNat 0)), none, some (.int (zI m)), some (.int (zI v1)), some (.int (zI v2))], [.long (w9 ||| w10), .long (Int64.ofNat 0)], es)) i_42_150 rfl ?_
    obtain ⟨w11, e_w11⟩ : ∃ z : Int64, z = w9 ||| w10 := ⟨_, rfl⟩
    rw [← e_w11]
    refine x0 (r := (153, [some (.ref 132), some (.int (zI m)), some (.int (zI bk)), some (.int (zI ((m * 3) + bk))), some (.int (zI wy)), some (.long (Int64.ofNat 0)), none, some (.int (zI m)), some (.int (zI v1)), some (.int (zI v2))], [.int (zI v1), .long w11, .long (Int64.ofNat 0)], es)) i_42_151 rfl ?_
    refine x0 (r := (155, [some (.ref 132), some (.int (zI m)), some (.int (zI bk)), some (.int (zI ((m * 3) + bk))), some (.int (zI wy)), some (.long (Int64.ofNat 0)), none, some (.int (zI m)), some (.int (zI v1)), some (.int (zI v2))], [.int (zI v2), .int (zI v1), .long w11, .long (Int64.ofNat 0)], es)) i_42_153 rfl ?_
    refine x0 (r := (156, [some (.ref 132), some (.int (zI m)), some (.int (zI bk)), some (.int (zI ((m * 3) + bk))), some (.int (zI wy)), some (.long (Int64.ofNat 0)), none, some (.int (zI m)), some (.int (zI v1)), some (.int (zI v2))], [.int (zI 1), .int (zI v2), .int (zI v1), .long w11, .long (Int64.ofNat 0)], es)) i_42_155 (by rfl) ?_
    refine x_iadd i_42_156 ?_
    refine x_call (vs := [.int (zI v1), .int (zI (v2 + 1))]) (rs := [.long w11, .long (Int64.ofNat 0)]) i_42_157 rfl (fun _ => rfl) rfl rfl rfl rfl rfl rfl ?_
    show aW _ _ _ _ _ _ (0, [some (.int (zI v1)), some (.int (zI (v2 + 1)))], [], es)
    refine bit_sp hs_es ⟨by omega, by omega⟩ ⟨by omega, by omega⟩ (fun w12 p_w12 => ?_)
    show aW _ _ _ _ _ _ (160, [some (.ref 132), some (.int (zI m)), some (.int (zI bk)), some (.int (zI ((m * 3) + bk))), some (.int (zI wy)), some (.long (Int64.ofNat 0)), none, some (.int (zI m)), some (.int (zI v1)), some (.int (zI v2))], [.long w12, .long w11, .long (Int64.ofNat 0)], es)
    refine x0 (r := (161, [some (.ref 132), some (.int (zI m)), some (.int (zI bk)), some (.int (zI ((m * 3) + bk))), some (.int (zI wy)), some (.long (Int64.ofNat 0)), none, some (.int (zI m)), some (.int (zI v1)), some (.int (zI v2))], [.long (w11 ||| w12), .long (Int64.ofNat 0)], es)) i_42_160 rfl ?_
    obtain ⟨w13, e_w13⟩ : ∃ z : Int64, z = w11 ||| w12 := ⟨_, rfl⟩
    rw [← e_w13]
    refine x0 (r := (163, [some (.ref 132), some (.int (zI m)), some (.int (zI bk)), some (.int (zI ((m * 3) + bk))), some (.int (zI wy)), some (.long (Int64.ofNat 0)), none, some (.int (zI m)), some (.int (zI v1)), some (.int (zI v2))], [.int (zI v1), .long w13, .long (Int64.ofNat 0)], es)) i_42_161 rfl ?_
    refine x0 (r := (164, [some (.ref 132), some (.int (zI m)), some (.int (zI bk)), some (.int (zI ((m * 3) + bk))), some (.int (zI wy)), some (.long (Int64.ofNat 0)), none, some (.int (zI m)), some (.int (zI v1)), some (.int (zI v2))], [.int (zI 5), .int (zI v1), .long w13, .long (Int64.ofNat 0)], es)) i_42_163 (by rfl) ?_
    refine x0 (r := (166, [some (.ref 132), some (.int (zI m)), some (.int (zI bk)), some (.int (zI ((m * 3) + bk))), some (.int (zI wy)), some (.long (Int64.ofNat 0)), none, some (.int (zI m)), some (.int (zI v1)), some (.int (zI v2))], [.int (zI v2), .int (zI 5), .int (zI v1), .long w13, .long (Int64.ofNat 0)], es)) i_42_164 rfl ?_
    refine x_isub i_42_166 ?_
    refine x_call (vs := [.int (zI v1), .int (zI (5 - v2))]) (rs := [.long w13, .long (Int64.ofNat 0)]) i_42_167 rfl (fun _ => rfl) rfl rfl rfl rfl rfl rfl ?_
    show aW _ _ _ _ _ _ (0, [some (.int (zI v1)), some (.int (zI (5 - v2)))], [], es)
    refine bit_sp hs_es ⟨by omega, by omega⟩ ⟨by omega, by omega⟩ (fun w14 p_w14 => ?_)
    show aW _ _ _ _ _ _ (170, [some (.ref 132), some (.int (zI m)), some (.int (zI bk)), some (.int (zI ((m * 3) + bk))), some (.int (zI wy)), some (.long (Int64.ofNat 0)), none, some (.int (zI m)), some (.int (zI v1)), some (.int (zI v2))], [.long w14, .long w13, .long (Int64.ofNat 0)], es)
    refine x0 (r := (171, [some (.ref 132), some (.int (zI m)), some (.int (zI bk)), some (.int (zI ((m * 3) + bk))), some (.int (zI wy)), some (.long (Int64.ofNat 0)), none, some (.int (zI m)), some (.int (zI v1)), some (.int (zI v2))], [.long (w13 ||| w14), .long (Int64.ofNat 0)], es)) i_42_170 rfl ?_
    obtain ⟨w15, e_w15⟩ : ∃ z : Int64, z = w13 ||| w14 := ⟨_, rfl⟩
    rw [← e_w15]
    refine x0 (r := (172, [some (.ref 132), some (.int (zI m)), some (.int (zI bk)), some (.int (zI ((m * 3) + bk))), some (.int (zI wy)), some (.long (Int64.ofNat 0)), none, some (.int (zI m)), some (.int (zI v1)), some (.int (zI v2))], [.long ((Int64.ofNat 0) ||| w15)], es)) i_42_171 rfl ?_
    obtain ⟨w16, e_w16⟩ : ∃ z : Int64, z = (Int64.ofNat 0) ||| w15 := ⟨_, rfl⟩
    rw [← e_w16]
    refine x0 (r := (174, [some (.ref 132), some (.int (zI m)), some (.int (zI bk)), some (.int (zI ((m * 3) + bk))), some (.int (zI wy)), some (.long w16), none, some (.int (zI m)), some (.int (zI v1)), some (.int (zI v2))], [], es)) i_42_172 rfl ?_
    refine x_iinc (x := m) i_42_174 rfl (by show 7 < 10; decide) ?_
    show aW _ _ _ _ _ _ (177, [some (.ref 132), some (.int (zI m)), some (.int (zI bk)), some (.int (zI ((m * 3) + bk))), some (.int (zI wy)), some (.long w16), none, some (.int (zI (m + 1))), some (.int (zI v1)), some (.int (zI v2))], [], es)
    refine x0 (r := (32, [some (.ref 132), some (.int (zI m)), some (.int (zI bk)), some (.int (zI ((m * 3) + bk))), some (.int (zI wy)), some (.long w16), none, some (.int (zI (m + 1))), some (.int (zI v1)), some (.int (zI v2))], [], es)) i_42_177 rfl ?_
    refine x0 (r := (34, [some (.ref 132), some (.int (zI m)), some (.int (zI bk)), some (.int (zI ((m * 3) + bk))), some (.int (zI wy)), some (.long w16), none, some (.int (zI (m + 1))), some (.int (zI v1)), some (.int (zI v2))], [.int (zI (m + 1))], es)) i_42_32 rfl ?_
    refine x0 (r := (35, [some (.ref 132), some (.int (zI m)), some (.int (zI bk)), some (.int (zI ((m * 3) + bk))), some (.int (zI wy)), some (.long w16), none, some (.int (zI (m + 1))), some (.int (zI v1)), some (.int (zI v2))], [.ref 132, .int (zI (m + 1))], es)) i_42_34 rfl ?_
    refine x_getr (p := 68) (k := 135) i_42_35 hs_es rfl rfl ?_
    show aW _ _ _ _ _ _ (38, [some (.ref 132), some (.int (zI m)), some (.int (zI bk)), some (.int (zI ((m * 3) + bk))), some (.int (zI wy)), some (.long w16), none, some (.int (zI (m + 1))), some (.int (zI v1)), some (.int (zI v2))], [.ref 135, .int (zI (m + 1))], es)
    refine x0 (r := (39, [some (.ref 132), some (.int (zI m)), some (.int (zI bk)), some (.int (zI ((m * 3) + bk))), some (.int (zI wy)), some (.long w16), none, some (.int (zI (m + 1))), some (.int (zI v1)), some (.int (zI v2))], [.int (zI ((m * 3) + bk)), .ref 135, .int (zI (m + 1))], es)) i_42_38 rfl ?_
    refine x_call (vs := [.ref 135, .int (zI ((m * 3) + bk))]) (rs := [.int (zI (m + 1))]) i_42_39 rfl (fun _ => rfl) rfl rfl rfl rfl rfl rfl ?_
    show aW _ _ _ _ _ _ (0, [some (.ref 135), some (.int (zI ((m * 3) + bk)))], [], es)
    refine x0 (r := (1, [some (.ref 135), some (.int (zI ((m * 3) + bk)))], [.int (zI ((m * 3) + bk))], es)) i_28_0 rfl ?_
    refine x_ifF i_28_1 (by unfold i32 iLO iHI; omega) rfl (by simp only [zC, cR]; omega) ?_
    refine x0 (r := (5, [some (.ref 135), some (.int (zI ((m * 3) + bk)))], [.int (zI ((m * 3) + bk))], es)) i_28_4 rfl ?_
    refine x0 (r := (6, [some (.ref 135), some (.int (zI ((m * 3) + bk)))], [.ref 135, .int (zI ((m * 3) + bk))], es)) i_28_5 rfl ?_
    refine x_alen (p := 71) (n := 93) i_28_6 hs_es rfl ?_
    refine x_cmpF i_28_7 (by unfold i32 iLO iHI; omega) (by unfold i32 iLO iHI; omega) rfl (by simp only [zC, cR]; omega) ?_
    refine x0 (r := (11, [some (.ref 135), some (.int (zI ((m * 3) + bk)))], [.ref 135], es)) i_28_10 rfl ?_
    refine x0 (r := (12, [some (.ref 135), some (.int (zI ((m * 3) + bk)))], [.int (zI ((m * 3) + bk)), .ref 135], es)) i_28_11 rfl ?_
    refine x_iald (p := 71) i_28_12 hs_es rfl (by unfold i32 iLO iHI; omega) (by omega) (by omega) ?_
    rw [show (gA es 71 ((m * 3) + bk).toNat).toInt = m from by exact hl]
    refine x0 (r := (17, [some (.ref 135), some (.int (zI ((m * 3) + bk)))], [.int (zI m)], es)) i_28_13 rfl ?_
    refine x_ret (v := some (.int (zI m))) i_28_17 rfl (fun _ => rfl) rfl rfl rfl ?_
    show aW _ _ _ _ _ _ (42, [some (.ref 132), some (.int (zI m)), some (.int (zI bk)), some (.int (zI ((m * 3) + bk))), some (.int (zI wy)), some (.long w16), none, some (.int (zI (m + 1))), some (.int (zI v1)), some (.int (zI v2))], [.int (zI m), .int (zI (m + 1))], es)
    refine x_cmpT i_42_42 (by unfold i32 iLO iHI; omega) (by unfold i32 iLO iHI; omega) rfl (by simp only [zC, cR]; omega) ?_
    refine x0 (r := (182, [some (.ref 132), some (.int (zI m)), some (.int (zI bk)), some (.int (zI ((m * 3) + bk))), some (.int (zI wy)), some (.long w16), none, some (.int (zI (m + 1))), some (.int (zI v1)), some (.int (zI v2))], [.long w16], es)) i_42_180 rfl ?_
    refine x_ret (v := some (.long w16)) i_42_182 rfl (fun _ => rfl) rfl rfl rfl ?_
    exact K1 v1 e_v1 v2 e_v2 v3 e_v3 c4 w5 p_w5 w6 p_w6 w7 e_w7 w8 p_w8 w9 e_w9 w10 p_w10 w11 e_w11 w12 p_w12 w13 e_w13 w14 p_w14 w15 e_w15 w16 e_w16
  · refine x_cmpF i_44_2 (by unfold i32 iLO iHI; omega) (by unfold i32 iLO iHI; omega) rfl (by simp only [zC, cR]; omega) ?_
    refine x0 (r := (6, [some (.int (zI v2)), some (.int (zI wy)), some (.int (zI v3))], [.int (zI v3)], es)) i_44_5 rfl ?_
    refine x0 (r := (7, [some (.int (zI v2)), some (.int (zI wy)), some (.int (zI v3))], [.int (zI 1), .int (zI v3)], es)) i_44_6 (by rfl) ?_
    by_cases c17 : v3 ≠ 1
    · refine x_cmpT i_44_7 (by unfold i32 iLO iHI; omega) (by unfold i32 iLO iHI; omega) rfl (by simp only [zC, cR]; omega) ?_
      refine x0 (r := (17, [some (.int (zI v2)), some (.int (zI wy)), some (.int (zI v3))], [.int (zI v2)], es)) i_44_16 rfl ?_
      refine x_ret (v := some (.int (zI v2))) i_44_17 rfl (fun _ => rfl) rfl rfl rfl ?_
      show aW _ _ _ _ _ _ (110, [some (.ref 132), some (.int (zI m)), some (.int (zI bk)), some (.int (zI ((m * 3) + bk))), some (.int (zI wy)), some (.long (Int64.ofNat 0)), none, some (.int (zI m)), some (.int (zI v1)), none], [.int (zI v2)], es)
      refine x0 (r := (112, [some (.ref 132), some (.int (zI m)), some (.int (zI bk)), some (.int (zI ((m * 3) + bk))), some (.int (zI wy)), some (.long (Int64.ofNat 0)), none, some (.int (zI m)), some (.int (zI v1)), some (.int (zI v2))], [], es)) i_42_110 rfl ?_
      refine x0 (r := (114, [some (.ref 132), some (.int (zI m)), some (.int (zI bk)), some (.int (zI ((m * 3) + bk))), some (.int (zI wy)), some (.long (Int64.ofNat 0)), none, some (.int (zI m)), some (.int (zI v1)), some (.int (zI v2))], [.long (Int64.ofNat 0)], es)) i_42_112 rfl ?_
      refine x0 (r := (116, [some (.ref 132), some (.int (zI m)), some (.int (zI bk)), some (.int (zI ((m * 3) + bk))), some (.int (zI wy)), some (.long (Int64.ofNat 0)), none, some (.int (zI m)), some (.int (zI v1)), some (.int (zI v2))], [.int (zI v1), .long (Int64.ofNat 0)], es)) i_42_114 rfl ?_
      refine x0 (r := (118, [some (.ref 132), some (.int (zI m)), some (.int (zI bk)), some (.int (zI ((m * 3) + bk))), some (.int (zI wy)), some (.long (Int64.ofNat 0)), none, some (.int (zI m)), some (.int (zI v1)), some (.int (zI v2))], [.int (zI v2), .int (zI v1), .long (Int64.ofNat 0)], es)) i_42_116 rfl ?_
      refine x_call (vs := [.int (zI v1), .int (zI v2)]) (rs := [.long (Int64.ofNat 0)]) i_42_118 rfl (fun _ => rfl) rfl rfl rfl rfl rfl rfl ?_
      show aW _ _ _ _ _ _ (0, [some (.int (zI v1)), some (.int (zI v2))], [], es)
      refine bit_sp hs_es ⟨by omega, by omega⟩ ⟨by omega, by omega⟩ (fun w18 p_w18 => ?_)
      show aW _ _ _ _ _ _ (121, [some (.ref 132), some (.int (zI m)), some (.int (zI bk)), some (.int (zI ((m * 3) + bk))), some (.int (zI wy)), some (.long (Int64.ofNat 0)), none, some (.int (zI m)), some (.int (zI v1)), some (.int (zI v2))], [.long w18, .long (Int64.ofNat 0)], es)
      refine x0 (r := (123, [some (.ref 132), some (.int (zI m)), some (.int (zI bk)), some (.int (zI ((m * 3) + bk))), some (.int (zI wy)), some (.long (Int64.ofNat 0)), none, some (.int (zI m)), some (.int (zI v1)), some (.int (zI v2))], [.int (zI v1), .long w18, .long (Int64.ofNat 0)], es)) i_42_121 rfl ?_
      refine x0 (r := (124, [some (.ref 132), some (.int (zI m)), some (.int (zI bk)), some (.int (zI ((m * 3) + bk))), some (.int (zI wy)), some (.long (Int64.ofNat 0)), none, some (.int (zI m)), some (.int (zI v1)), some (.int (zI v2))], [.int (zI 1), .int (zI v1), .long w18, .long (Int64.ofNat 0)], es)) i_42_123 (by rfl) ?_
      refine x_isub i_42_124 ?_
      refine x0 (r := (127, [some (.ref 132), some (.int (zI m)), some (.int (zI bk)), some (.int (zI ((m * 3) + bk))), some (.int (zI wy)), some (.long (Int64.ofNat 0)), none, some (.int (zI m)), some (.int (zI v1)), some (.int (zI v2))], [.int (zI v2), .int (zI (v1 - 1)), .long w18, .long (Int64.ofNat 0)], es)) i_42_125 rfl ?_
      refine x_call (vs := [.int (zI (v1 - 1)), .int (zI v2)]) (rs := [.long w18, .long (Int64.ofNat 0)]) i_42_127 rfl (fun _ => rfl) rfl rfl rfl rfl rfl rfl ?_
      show aW _ _ _ _ _ _ (0, [some (.int (zI (v1 - 1))), some (.int (zI v2))], [], es)
      refine bit_sp hs_es ⟨by omega, by omega⟩ ⟨by omega, by omega⟩ (fun w19 p_w19 => ?_)
      show aW _ _ _ _ _ _ (130, [some (.ref 132), some (.int (zI m)), some (.int (zI bk)), some (.int (zI ((m * 3) + bk))), some (.int (zI wy)), some (.long (Int64.ofNat 0)), none, some (.int (zI m)), some (.int (zI v1)), some (.int (zI v2))], [.long w19, .long w18, .long (Int64.ofNat 0)], es)
      refine x0 (r := (131, [some (.ref 132), some (.int (zI m)), some (.int (zI bk)), some (.int (zI ((m * 3) + bk))), some (.int (zI wy)), some (.long (Int64.ofNat 0)), none, some (.int (zI m)), some (.int (zI v1)), some (.int (zI v2))], [.long (w18 ||| w19), .long (Int64.ofNat 0)], es)) i_42_130 rfl ?_
      obtain ⟨w20, e_w20⟩ : ∃ z : Int64, z = w18 ||| w19 := ⟨_, rfl⟩
      rw [← e_w20]
      refine x0 (r := (133, [some (.ref 132), some (.int (zI m)), some (.int (zI bk)), some (.int (zI ((m * 3) + bk))), some (.int (zI wy)), some (.long (Int64.ofNat 0)), none, some (.int (zI m)), some (.int (zI v1)), some (.int (zI v2))], [.int (zI v1), .long w20, .long (Int64.ofNat 0)], es)) i_42_131 rfl ?_
      refine x0 (r := (134, [some (.ref 132), some (.int (zI m)), some (.int (zI bk)), some (.int (zI ((m * 3) + bk))), some (.int (zI wy)), some (.long (Int64.ofNat 0)), none, some (.int (zI m)), some (.int (zI v1)), some (.int (zI v2))], [.int (zI 1), .int (zI v1), .long w20, .long (Int64.ofNat 0)], es)) i_42_133 (by rfl) ?_
      refine x_iadd i_42_134 ?_
      refine x0 (r := (137, [some (.ref 132), some (.int (zI m)), some (.int (zI bk)), some (.int (zI ((m * 3) + bk))), some (.int (zI wy)), some (.long (Int64.ofNat 0)), none, some (.int (zI m)), some (.int (zI v1)), some (.int (zI v2))], [.int (zI v2), .int (zI (v1 + 1)), .long w20, .long (Int64.ofNat 0)], es)) i_42_135 rfl ?_
      refine x_call (vs := [.int (zI (v1 + 1)), .int (zI v2)]) (rs := [.long w20, .long (Int64.ofNat 0)]) i_42_137 rfl (fun _ => rfl) rfl rfl rfl rfl rfl rfl ?_
      show aW _ _ _ _ _ _ (0, [some (.int (zI (v1 + 1))), some (.int (zI v2))], [], es)
      refine bit_sp hs_es ⟨by omega, by omega⟩ ⟨by omega, by omega⟩ (fun w21 p_w21 => ?_)
      show aW _ _ _ _ _ _ (140, [some (.ref 132), some (.int (zI m)), some (.int (zI bk)), some (.int (zI ((m * 3) + bk))), some (.int (zI wy)), some (.long (Int64.ofNat 0)), none, some (.int (zI m)), some (.int (zI v1)), some (.int (zI v2))], [.long w21, .long w20, .long (Int64.ofNat 0)], es)
      refine x0 (r := (141, [some (.ref 132), some (.int (zI m)), some (.int (zI bk)), some (.int (zI ((m * 3) + bk))), some (.int (zI wy)), some (.long (Int64.ofNat 0)), none, some (.int (zI m)), some (.int (zI v1)), some (.int (zI v2))], [.long (w20 ||| w21), .long (Int64.ofNat 0)], es)) i_42_140 rfl ?_
      obtain ⟨w22, e_w22⟩ : ∃ z : Int64, z = w20 ||| w21 := ⟨_, rfl⟩
      rw [← e_w22]
      refine x0 (r := (143, [some (.ref 132), some (.int (zI m)), some (.int (zI bk)), some (.int (zI ((m * 3) + bk))), some (.int (zI wy)), some (.long (Int64.ofNat 0)), none, some (.int (zI m)), some (.int (zI v1)), some (.int (zI v2))], [.int (zI v1), .long w22, .long (Int64.ofNat 0)], es)) i_42_141 rfl ?_
      refine x0 (r := (145, [some (.ref 132), some (.int (zI m)), some (.int (zI bk)), some (.int (zI ((m * 3) + bk))), some (.int (zI wy)), some (.long (Int64.ofNat 0)), none, some (.int (zI m)), some (.int (zI v1)), some (.int (zI v2))], [.int (zI v2), .int (zI v1), .long w22, .long (Int64.ofNat 0)], es)) i_42_143 rfl ?_
      refine x0 (r := (146, [some (.ref 132), some (.int (zI m)), some (.int (zI bk)), some (.int (zI ((m * 3) + bk))), some (.int (zI wy)), some (.long (Int64.ofNat 0)), none, some (.int (zI m)), some (.int (zI v1)), some (.int (zI v2))], [.int (zI 1), .int (zI v2), .int (zI v1), .long w22, .long (Int64.ofNat 0)], es)) i_42_145 (by rfl) ?_
      refine x_isub i_42_146 ?_
      refine x_call (vs := [.int (zI v1), .int (zI (v2 - 1))]) (rs := [.long w22, .long (Int64.ofNat 0)]) i_42_147 rfl (fun _ => rfl) rfl rfl rfl rfl rfl rfl ?_
      show aW _ _ _ _ _ _ (0, [some (.int (zI v1)), some (.int (zI (v2 - 1)))], [], es)
      refine bit_sp hs_es ⟨by omega, by omega⟩ ⟨by omega, by omega⟩ (fun w23 p_w23 => ?_)
      show aW _ _ _ _ _ _ (150, [some (.ref 132), some (.int (zI m)), some (.int (zI bk)), some (.int (zI ((m * 3) + bk))), some (.int (zI wy)), some (.long (Int64.ofNat 0)), none, some (.int (zI m)), some (.int (zI v1)), some (.int (zI v2))], [.long w23, .long w22, .long (Int64.ofNat 0)], es)
      refine x0 (r := (151, [some (.ref 132), some (.int (zI m)), some (.int (zI bk)), some (.int (zI ((m * 3) + bk))), some (.int (zI wy)), some (.long (Int64.ofNat 0)), none, some (.int (zI m)), some (.int (zI v1)), some (.int (zI v2))], [.long (w22 ||| w23), .long (Int64.ofNat 0)], es)) i_42_150 rfl ?_
      obtain ⟨w24, e_w24⟩ : ∃ z : Int64, z = w22 ||| w23 := ⟨_, rfl⟩
      rw [← e_w24]
      refine x0 (r := (153, [some (.ref 132), some (.int (zI m)), some (.int (zI bk)), some (.int (zI ((m * 3) + bk))), some (.int (zI wy)), some (.long (Int64.ofNat 0)), none, some (.int (zI m)), some (.int (zI v1)), some (.int (zI v2))], [.int (zI v1), .long w24, .long (Int64.ofNat 0)], es)) i_42_151 rfl ?_
      refine x0 (r := (155, [some (.ref 132), some (.int (zI m)), some (.int (zI bk)), some (.int (zI ((m * 3) + bk))), some (.int (zI wy)), some (.long (Int64.ofNat 0)), none, some (.int (zI m)), some (.int (zI v1)), some (.int (zI v2))], [.int (zI v2), .int (zI v1), .long w24, .long (Int64.ofNat 0)], es)) i_42_153 rfl ?_
      refine x0 (r := (156, [some (.ref 132), some (.int (zI m)), some (.int (zI bk)), some (.int (zI ((m * 3) + bk))), some (.int (zI wy)), some (.long (Int64.ofNat 0)), none, some (.int (zI m)), some (.int (zI v1)), some (.int (zI v2))], [.int (zI 1), .int (zI v2), .int (zI v1), .long w24, .long (Int64.ofNat 0)], es)) i_42_155 (by rfl) ?_
      refine x_iadd i_42_156 ?_
      refine x_call (vs := [.int (zI v1), .int (zI (v2 + 1))]) (rs := [.long w24, .long (Int64.ofNat 0)]) i_42_157 rfl (fun _ => rfl) rfl rfl rfl rfl rfl rfl ?_
      show aW _ _ _ _ _ _ (0, [some (.int (zI v1)), some (.int (zI (v2 + 1)))], [], es)
      refine bit_sp hs_es ⟨by omega, by omega⟩ ⟨by omega, by omega⟩ (fun w25 p_w25 => ?_)
      show aW _ _ _ _ _ _ (160, [some (.ref 132), some (.int (zI m)), some (.int (zI bk)), some (.int (zI ((m * 3) + bk))), some (.int (zI wy)), some (.long (Int64.ofNat 0)), none, some (.int (zI m)), some (.int (zI v1)), some (.int (zI v2))], [.long w25, .long w24, .long (Int64.ofNat 0)], es)
      refine x0 (r := (161, [some (.ref 132), some (.int (zI m)), some (.int (zI bk)), some (.int (zI ((m * 3) + bk))), some (.int (zI wy)), some (.long (Int64.ofNat 0)), none, some (.int (zI m)), some (.int (zI v1)), some (.int (zI v2))], [.long (w24 ||| w25), .long (Int64.ofNat 0)], es)) i_42_160 rfl ?_
      obtain ⟨w26, e_w26⟩ : ∃ z : Int64, z = w24 ||| w25 := ⟨_, rfl⟩
      rw [← e_w26]
      refine x0 (r := (163, [some (.ref 132), some (.int (zI m)), some (.int (zI bk)), some (.int (zI ((m * 3) + bk))), some (.int (zI wy)), some (.long (Int64.ofNat 0)), none, some (.int (zI m)), some (.int (zI v1)), some (.int (zI v2))], [.int (zI v1), .long w26, .long (Int64.ofNat 0)], es)) i_42_161 rfl ?_
      refine x0 (r := (164, [some (.ref 132), some (.int (zI m)), some (.int (zI bk)), some (.int (zI ((m * 3) + bk))), some (.int (zI wy)), some (.long (Int64.ofNat 0)), none, some (.int (zI m)), some (.int (zI v1)), some (.int (zI v2))], [.int (zI 5), .int (zI v1), .long w26, .long (Int64.ofNat 0)], es)) i_42_163 (by rfl) ?_
      refine x0 (r := (166, [some (.ref 132), some (.int (zI m)), some (.int (zI bk)), some (.int (zI ((m * 3) + bk))), some (.int (zI wy)), some (.long (Int64.ofNat 0)), none, some (.int (zI m)), some (.int (zI v1)), some (.int (zI v2))], [.int (zI v2), .int (zI 5), .int (zI v1), .long w26, .long (Int64.ofNat 0)], es)) i_42_164 rfl ?_
      refine x_isub i_42_166 ?_
      refine x_call (vs := [.int (zI v1), .int (zI (5 - v2))]) (rs := [.long w26, .long (Int64.ofNat 0)]) i_42_167 rfl (fun _ => rfl) rfl rfl rfl rfl rfl rfl ?_
      show aW _ _ _ _ _ _ (0, [some (.int (zI v1)), some (.int (zI (5 - v2)))], [], es)
      refine bit_sp hs_es ⟨by omega, by omega⟩ ⟨by omega, by omega⟩ (fun w27 p_w27 => ?_)
      show aW _ _ _ _ _ _ (170, [some (.ref 132), some (.int (zI m)), some (.int (zI bk)), some (.int (zI ((m * 3) + bk))), some (.int (zI wy)), some (.long (Int64.ofNat 0)), none, some (.int (zI m)), some (.int (zI v1)), some (.int (zI v2))], [.long w27, .long w26, .long (Int64.ofNat 0)], es)
      refine x0 (r := (171, [some (.ref 132), some (.int (zI m)), some (.int (zI bk)), some (.int (zI ((m * 3) + bk))), some (.int (zI wy)), some (.long (Int64.ofNat 0)), none, some (.int (zI m)), some (.int (zI v1)), some (.int (zI v2))], [.long (w26 ||| w27), .long (Int64.ofNat 0)], es)) i_42_170 rfl ?_
      obtain ⟨w28, e_w28⟩ : ∃ z : Int64, z = w26 ||| w27 := ⟨_, rfl⟩
      rw [← e_w28]
      refine x0 (r := (172, [some (.ref 132), some (.int (zI m)), some (.int (zI bk)), some (.int (zI ((m * 3) + bk))), some (.int (zI wy)), some (.long (Int64.ofNat 0)), none, some (.int (zI m)), some (.int (zI v1)), some (.int (zI v2))], [.long ((Int64.ofNat 0) ||| w28)], es)) i_42_171 rfl ?_
      obtain ⟨w29, e_w29⟩ : ∃ z : Int64, z = (Int64.ofNat 0) ||| w28 := ⟨_, rfl⟩
      rw [← e_w29]
      refine x0 (r := (174, [some (.ref 132), some (.int (zI m)), some (.int (zI bk)), some (.int (zI ((m * 3) + bk))), some (.int (zI wy)), some (.long w29), none, some (.int (zI m)), some (.int (zI v1)), some (.int (zI v2))], [], es)) i_42_172 rfl ?_
      refine x_iinc (x := m) i_42_174 rfl (by show 7 < 10; decide) ?_
      show aW _ _ _ _ _ _ (177, [some (.ref 132), some (.int (zI m)), some (.int (zI bk)), some (.int (zI ((m * 3) + bk))), some (.int (zI wy)), some (.long w29), none, some (.int (zI (m + 1))), some (.int (zI v1)), some (.int (zI v2))], [], es)
      refine x0 (r := (32, [some (.ref 132), some (.int (zI m)), some (.int (zI bk)), some (.int (zI ((m * 3) + bk))), some (.int (zI wy)), some (.long w29), none, some (.int (zI (m + 1))), some (.int (zI v1)), some (.int (zI v2))], [], es)) i_42_177 rfl ?_
      refine x0 (r := (34, [some (.ref 132), some (.int (zI m)), some (.int (zI bk)), some (.int (zI ((m * 3) + bk))), some (.int (zI wy)), some (.long w29), none, some (.int (zI (m + 1))), some (.int (zI v1)), some (.int (zI v2))], [.int (zI (m + 1))], es)) i_42_32 rfl ?_
      refine x0 (r := (35, [some (.ref 132), some (.int (zI m)), some (.int (zI bk)), some (.int (zI ((m * 3) + bk))), some (.int (zI wy)), some (.long w29), none, some (.int (zI (m + 1))), some (.int (zI v1)), some (.int (zI v2))], [.ref 132, .int (zI (m + 1))], es)) i_42_34 rfl ?_
      refine x_getr (p := 68) (k := 135) i_42_35 hs_es rfl rfl ?_
      show aW _ _ _ _ _ _ (38, [some (.ref 132), some (.int (zI m)), some (.int (zI bk)), some (.int (zI ((m * 3) + bk))), some (.int (zI wy)), some (.long w29), none, some (.int (zI (m + 1))), some (.int (zI v1)), some (.int (zI v2))], [.ref 135, .int (zI (m + 1))], es)
      refine x0 (r := (39, [some (.ref 132), some (.int (zI m)), some (.int (zI bk)), some (.int (zI ((m * 3) + bk))), some (.int (zI wy)), some (.long w29), none, some (.int (zI (m + 1))), some (.int (zI v1)), some (.int (zI v2))], [.int (zI ((m * 3) + bk)), .ref 135, .int (zI (m + 1))], es)) i_42_38 rfl ?_
      refine x_call (vs := [.ref 135, .int (zI ((m * 3) + bk))]) (rs := [.int (zI (m + 1))]) i_42_39 rfl (fun _ => rfl) rfl rfl rfl rfl rfl rfl ?_
      show aW _ _ _ _ _ _ (0, [some (.ref 135), some (.int (zI ((m * 3) + bk)))], [], es)
      refine x0 (r := (1, [some (.ref 135), some (.int (zI ((m * 3) + bk)))], [.int (zI ((m * 3) + bk))], es)) i_28_0 rfl ?_
      refine x_ifF i_28_1 (by unfold i32 iLO iHI; omega) rfl (by simp only [zC, cR]; omega) ?_
      refine x0 (r := (5, [some (.ref 135), some (.int (zI ((m * 3) + bk)))], [.int (zI ((m * 3) + bk))], es)) i_28_4 rfl ?_
      refine x0 (r := (6, [some (.ref 135), some (.int (zI ((m * 3) + bk)))], [.ref 135, .int (zI ((m * 3) + bk))], es)) i_28_5 rfl ?_
      refine x_alen (p := 71) (n := 93) i_28_6 hs_es rfl ?_
      refine x_cmpF i_28_7 (by unfold i32 iLO iHI; omega) (by unfold i32 iLO iHI; omega) rfl (by simp only [zC, cR]; omega) ?_
      refine x0 (r := (11, [some (.ref 135), some (.int (zI ((m * 3) + bk)))], [.ref 135], es)) i_28_10 rfl ?_
      refine x0 (r := (12, [some (.ref 135), some (.int (zI ((m * 3) + bk)))], [.int (zI ((m * 3) + bk)), .ref 135], es)) i_28_11 rfl ?_
      refine x_iald (p := 71) i_28_12 hs_es rfl (by unfold i32 iLO iHI; omega) (by omega) (by omega) ?_
      rw [show (gA es 71 ((m * 3) + bk).toNat).toInt = m from by exact hl]
      refine x0 (r := (17, [some (.ref 135), some (.int (zI ((m * 3) + bk)))], [.int (zI m)], es)) i_28_13 rfl ?_
      refine x_ret (v := some (.int (zI m))) i_28_17 rfl (fun _ => rfl) rfl rfl rfl ?_
      show aW _ _ _ _ _ _ (42, [some (.ref 132), some (.int (zI m)), some (.int (zI bk)), some (.int (zI ((m * 3) + bk))), some (.int (zI wy)), some (.long w29), none, some (.int (zI (m + 1))), some (.int (zI v1)), some (.int (zI v2))], [.int (zI m), .int (zI (m + 1))], es)
      refine x_cmpT i_42_42 (by unfold i32 iLO iHI; omega) (by unfold i32 iLO iHI; omega) rfl (by simp only [zC, cR]; omega) ?_
      refine x0 (r := (182, [some (.ref 132), some (.int (zI m)), some (.int (zI bk)), some (.int (zI ((m * 3) + bk))), some (.int (zI wy)), some (.long w29), none, some (.int (zI (m + 1))), some (.int (zI v1)), some (.int (zI v2))], [.long w29], es)) i_42_180 rfl ?_
      refine x_ret (v := some (.long w29)) i_42_182 rfl (fun _ => rfl) rfl rfl rfl ?_
      exact K2 v1 e_v1 v2 e_v2 v3 e_v3 c4 c17 w18 p_w18 w19 p_w19 w20 e_w20 w21 p_w21 w22 e_w22 w23 p_w23 w24 e_w24 w25 p_w25 w26 e_w26 w27 p_w27 w28 e_w28 w29 e_w29
    · refine x_cmpF i_44_7 (by unfold i32 iLO iHI; omega) (by unfold i32 iLO iHI; omega) rfl (by simp only [zC, cR]; omega) ?_
      refine x0 (r := (11, [some (.int (zI v2)), some (.int (zI wy)), some (.int (zI v3))], [.int (zI 5)], es)) i_44_10 (by rfl) ?_
      refine x0 (r := (12, [some (.int (zI v2)), some (.int (zI wy)), some (.int (zI v3))], [.int (zI v2), .int (zI 5)], es)) i_44_11 rfl ?_
      refine x_isub i_44_12 ?_
      refine x0 (r := (17, [some (.int (zI v2)), some (.int (zI wy)), some (.int (zI v3))], [.int (zI (5 - v2))], es)) i_44_13 rfl ?_
      refine x_ret (v := some (.int (zI (5 - v2)))) i_44_17 rfl (fun _ => rfl) rfl rfl rfl ?_
      show aW _ _ _ _ _ _ (110, [some (.ref 132), some (.int (zI m)), some (.int (zI bk)), some (.int (zI ((m * 3) + bk))), some (.int (zI wy)), some (.long (Int64.ofNat 0)), none, some (.int (zI m)), some (.int (zI v1)), none], [.int (zI (5 - v2))], es)
      refine x0 (r := (112, [some (.ref 132), some (.int (zI m)), some (.int (zI bk)), some (.int (zI ((m * 3) + bk))), some (.int (zI wy)), some (.long (Int64.ofNat 0)), none, some (.int (zI m)), some (.int (zI v1)), some (.int (zI (5 - v2)))], [], es)) i_42_110 rfl ?_
      refine x0 (r := (114, [some (.ref 132), some (.int (zI m)), some (.int (zI bk)), some (.int (zI ((m * 3) + bk))), some (.int (zI wy)), some (.long (Int64.ofNat 0)), none, some (.int (zI m)), some (.int (zI v1)), some (.int (zI (5 - v2)))], [.long (Int64.ofNat 0)], es)) i_42_112 rfl ?_
      refine x0 (r := (116, [some (.ref 132), some (.int (zI m)), some (.int (zI bk)), some (.int (zI ((m * 3) + bk))), some (.int (zI wy)), some (.long (Int64.ofNat 0)), none, some (.int (zI m)), some (.int (zI v1)), some (.int (zI (5 - v2)))], [.int (zI v1), .long (Int64.ofNat 0)], es)) i_42_114 rfl ?_
      refine x0 (r := (118, [some (.ref 132), some (.int (zI m)), some (.int (zI bk)), some (.int (zI ((m * 3) + bk))), some (.int (zI wy)), some (.long (Int64.ofNat 0)), none, some (.int (zI m)), some (.int (zI v1)), some (.int (zI (5 - v2)))], [.int (zI (5 - v2)), .int (zI v1), .long (Int64.ofNat 0)], es)) i_42_116 rfl ?_
      refine x_call (vs := [.int (zI v1), .int (zI (5 - v2))]) (rs := [.long (Int64.ofNat 0)]) i_42_118 rfl (fun _ => rfl) rfl rfl rfl rfl rfl rfl ?_
      show aW _ _ _ _ _ _ (0, [some (.int (zI v1)), some (.int (zI (5 - v2)))], [], es)
      refine bit_sp hs_es ⟨by omega, by omega⟩ ⟨by omega, by omega⟩ (fun w30 p_w30 => ?_)
      show aW _ _ _ _ _ _ (121, [some (.ref 132), some (.int (zI m)), some (.int (zI bk)), some (.int (zI ((m * 3) + bk))), some (.int (zI wy)), some (.long (Int64.ofNat 0)), none, some (.int (zI m)), some (.int (zI v1)), some (.int (zI (5 - v2)))], [.long w30, .long (Int64.ofNat 0)], es)
      refine x0 (r := (123, [some (.ref 132), some (.int (zI m)), some (.int (zI bk)), some (.int (zI ((m * 3) + bk))), some (.int (zI wy)), some (.long (Int64.ofNat 0)), none, some (.int (zI m)), some (.int (zI v1)), some (.int (zI (5 - v2)))], [.int (zI v1), .long w30, .long (Int64.ofNat 0)], es)) i_42_121 rfl ?_
      refine x0 (r := (124, [some (.ref 132), some (.int (zI m)), some (.int (zI bk)), some (.int (zI ((m * 3) + bk))), some (.int (zI wy)), some (.long (Int64.ofNat 0)), none, some (.int (zI m)), some (.int (zI v1)), some (.int (zI (5 - v2)))], [.int (zI 1), .int (zI v1), .long w30, .long (Int64.ofNat 0)], es)) i_42_123 (by rfl) ?_
      refine x_isub i_42_124 ?_
      refine x0 (r := (127, [some (.ref 132), some (.int (zI m)), some (.int (zI bk)), some (.int (zI ((m * 3) + bk))), some (.int (zI wy)), some (.long (Int64.ofNat 0)), none, some (.int (zI m)), some (.int (zI v1)), some (.int (zI (5 - v2)))], [.int (zI (5 - v2)), .int (zI (v1 - 1)), .long w30, .long (Int64.ofNat 0)], es)) i_42_125 rfl ?_
      refine x_call (vs := [.int (zI (v1 - 1)), .int (zI (5 - v2))]) (rs := [.long w30, .long (Int64.ofNat 0)]) i_42_127 rfl (fun _ => rfl) rfl rfl rfl rfl rfl rfl ?_
      show aW _ _ _ _ _ _ (0, [some (.int (zI (v1 - 1))), some (.int (zI (5 - v2)))], [], es)
      refine bit_sp hs_es ⟨by omega, by omega⟩ ⟨by omega, by omega⟩ (fun w31 p_w31 => ?_)
      show aW _ _ _ _ _ _ (130, [some (.ref 132), some (.int (zI m)), some (.int (zI bk)), some (.int (zI ((m * 3) + bk))), some (.int (zI wy)), some (.long (Int64.ofNat 0)), none, some (.int (zI m)), some (.int (zI v1)), some (.int (zI (5 - v2)))], [.long w31, .long w30, .long (Int64.ofNat 0)], es)
      refine x0 (r := (131, [some (.ref 132), some (.int (zI m)), some (.int (zI bk)), some (.int (zI ((m * 3) + bk))), some (.int (zI wy)), some (.long (Int64.ofNat 0)), none, some (.int (zI m)), some (.int (zI v1)), some (.int (zI (5 - v2)))], [.long (w30 ||| w31), .long (Int64.ofNat 0)], es)) i_42_130 rfl ?_
      obtain ⟨w32, e_w32⟩ : ∃ z : Int64, z = w30 ||| w31 := ⟨_, rfl⟩
      rw [← e_w32]
      refine x0 (r := (133, [some (.ref 132), some (.int (zI m)), some (.int (zI bk)), some (.int (zI ((m * 3) + bk))), some (.int (zI wy)), some (.long (Int64.ofNat 0)), none, some (.int (zI m)), some (.int (zI v1)), some (.int (zI (5 - v2)))], [.int (zI v1), .long w32, .long (Int64.ofNat 0)], es)) i_42_131 rfl ?_
      refine x0 (r := (134, [some (.ref 132), some (.int (zI m)), some (.int (zI bk)), some (.int (zI ((m * 3) + bk))), some (.int (zI wy)), some (.long (Int64.ofNat 0)), none, some (.int (zI m)), some (.int (zI v1)), some (.int (zI (5 - v2)))], [.int (zI 1), .int (zI v1), .long w32, .long (Int64.ofNat 0)], es)) i_42_133 (by rfl) ?_
      refine x_iadd i_42_134 ?_
      refine x0 (r := (137, [some (.ref 132), some (.int (zI m)), some (.int (zI bk)), some (.int (zI ((m * 3) + bk))), some (.int (zI wy)), some (.long (Int64.ofNat 0)), none, some (.int (zI m)), some (.int (zI v1)), some (.int (zI (5 - v2)))], [.int (zI (5 - v2)), .int (zI (v1 + 1)), .long w32, .long (Int64.ofNat 0)], es)) i_42_135 rfl ?_
      refine x_call (vs := [.int (zI (v1 + 1)), .int (zI (5 - v2))]) (rs := [.long w32, .long (Int64.ofNat 0)]) i_42_137 rfl (fun _ => rfl) rfl rfl rfl rfl rfl rfl ?_
      show aW _ _ _ _ _ _ (0, [some (.int (zI (v1 + 1))), some (.int (zI (5 - v2)))], [], es)
      refine bit_sp hs_es ⟨by omega, by omega⟩ ⟨by omega, by omega⟩ (fun w33 p_w33 => ?_)
      show aW _ _ _ _ _ _ (140, [some (.ref 132), some (.int (zI m)), some (.int (zI bk)), some (.int (zI ((m * 3) + bk))), some (.int (zI wy)), some (.long (Int64.ofNat 0)), none, some (.int (zI m)), some (.int (zI v1)), some (.int (zI (5 - v2)))], [.long w33, .long w32, .long (Int64.ofNat 0)], es)
      refine x0 (r := (141, [some (.ref 132), some (.int (zI m)), some (.int (zI bk)), some (.int (zI ((m * 3) + bk))), some (.int (zI wy)), some (.long (Int64.ofNat 0)), none, some (.int (zI m)), some (.int (zI v1)), some (.int (zI (5 - v2)))], [.long (w32 ||| w33), .long (Int64.ofNat 0)], es)) i_42_140 rfl ?_
      obtain ⟨w34, e_w34⟩ : ∃ z : Int64, z = w32 ||| w33 := ⟨_, rfl⟩
      rw [← e_w34]
      refine x0 (r := (143, [some (.ref 132), some (.int (zI m)), some (.int (zI bk)), some (.int (zI ((m * 3) + bk))), some (.int (zI wy)), some (.long (Int64.ofNat 0)), none, some (.int (zI m)), some (.int (zI v1)), some (.int (zI (5 - v2)))], [.int (zI v1), .long w34, .long (Int64.ofNat 0)], es)) i_42_141 rfl ?_
      refine x0 (r := (145, [some (.ref 132), some (.int (zI m)), some (.int (zI bk)), some (.int (zI ((m * 3) + bk))), some (.int (zI wy)), some (.long (Int64.ofNat 0)), none, some (.int (zI m)), some (.int (zI v1)), some (.int (zI (5 - v2)))], [.int (zI (5 - v2)), .int (zI v1), .long w34, .long (Int64.ofNat 0)], es)) i_42_143 rfl ?_
      refine x0 (r := (146, [some (.ref 132), some (.int (zI m)), some (.int (zI bk)), some (.int (zI ((m * 3) + bk))), some (.int (zI wy)), some (.long (Int64.ofNat 0)), none, some (.int (zI m)), some (.int (zI v1)), some (.int (zI (5 - v2)))], [.int (zI 1), .int (zI (5 - v2)), .int (zI v1), .long w34, .long (Int64.ofNat 0)], es)) i_42_145 (by rfl) ?_
      refine x_isub i_42_146 ?_
      refine x_call (vs := [.int (zI v1), .int (zI ((5 - v2) - 1))]) (rs := [.long w34, .long (Int64.ofNat 0)]) i_42_147 rfl (fun _ => rfl) rfl rfl rfl rfl rfl rfl ?_
      show aW _ _ _ _ _ _ (0, [some (.int (zI v1)), some (.int (zI ((5 - v2) - 1)))], [], es)
      refine bit_sp hs_es ⟨by omega, by omega⟩ ⟨by omega, by omega⟩ (fun w35 p_w35 => ?_)
      show aW _ _ _ _ _ _ (150, [some (.ref 132), some (.int (zI m)), some (.int (zI bk)), some (.int (zI ((m * 3) + bk))), some (.int (zI wy)), some (.long (Int64.ofNat 0)), none, some (.int (zI m)), some (.int (zI v1)), some (.int (zI (5 - v2)))], [.long w35, .long w34, .long (Int64.ofNat 0)], es)
      refine x0 (r := (151, [some (.ref 132), some (.int (zI m)), some (.int (zI bk)), some (.int (zI ((m * 3) + bk))), some (.int (zI wy)), some (.long (Int64.ofNat 0)), none, some (.int (zI m)), some (.int (zI v1)), some (.int (zI (5 - v2)))], [.long (w34 ||| w35), .long (Int64.ofNat 0)], es)) i_42_150 rfl ?_
      obtain ⟨w36, e_w36⟩ : ∃ z : Int64, z = w34 ||| w35 := ⟨_, rfl⟩
      rw [← e_w36]
      refine x0 (r := (153, [some (.ref 132), some (.int (zI m)), some (.int (zI bk)), some (.int (zI ((m * 3) + bk))), some (.int (zI wy)), some (.long (Int64.ofNat 0)), none, some (.int (zI m)), some (.int (zI v1)), some (.int (zI (5 - v2)))], [.int (zI v1), .long w36, .long (Int64.ofNat 0)], es)) i_42_151 rfl ?_
      refine x0 (r := (155, [some (.ref 132), some (.int (zI m)), some (.int (zI bk)), some (.int (zI ((m * 3) + bk))), some (.int (zI wy)), some (.long (Int64.ofNat 0)), none, some (.int (zI m)), some (.int (zI v1)), some (.int (zI (5 - v2)))], [.int (zI (5 - v2)), .int (zI v1), .long w36, .long (Int64.ofNat 0)], es)) i_42_153 rfl ?_
      refine x0 (r := (156, [some (.ref 132), some (.int (zI m)), some (.int (zI bk)), some (.int (zI ((m * 3) + bk))), some (.int (zI wy)), some (.long (Int64.ofNat 0)), none, some (.int (zI m)), some (.int (zI v1)), some (.int (zI (5 - v2)))], [.int (zI 1), .int (zI (5 - v2)), .int (zI v1), .long w36, .long (Int64.ofNat 0)], es)) i_42_155 (by rfl) ?_
      refine x_iadd i_42_156 ?_
      refine x_call (vs := [.int (zI v1), .int (zI ((5 - v2) + 1))]) (rs := [.long w36, .long (Int64.ofNat 0)]) i_42_157 rfl (fun _ => rfl) rfl rfl rfl rfl rfl rfl ?_
      show aW _ _ _ _ _ _ (0, [some (.int (zI v1)), some (.int (zI ((5 - v2) + 1)))], [], es)
      refine bit_sp hs_es ⟨by omega, by omega⟩ ⟨by omega, by omega⟩ (fun w37 p_w37 => ?_)
      show aW _ _ _ _ _ _ (160, [some (.ref 132), some (.int (zI m)), some (.int (zI bk)), some (.int (zI ((m * 3) + bk))), some (.int (zI wy)), some (.long (Int64.ofNat 0)), none, some (.int (zI m)), some (.int (zI v1)), some (.int (zI (5 - v2)))], [.long w37, .long w36, .long (Int64.ofNat 0)], es)
      refine x0 (r := (161, [some (.ref 132), some (.int (zI m)), some (.int (zI bk)), some (.int (zI ((m * 3) + bk))), some (.int (zI wy)), some (.long (Int64.ofNat 0)), none, some (.int (zI m)), some (.int (zI v1)), some (.int (zI (5 - v2)))], [.long (w36 ||| w37), .long (Int64.ofNat 0)], es)) i_42_160 rfl ?_
      obtain ⟨w38, e_w38⟩ : ∃ z : Int64, z = w36 ||| w37 := ⟨_, rfl⟩
      rw [← e_w38]
      refine x0 (r := (163, [some (.ref 132), some (.int (zI m)), some (.int (zI bk)), some (.int (zI ((m * 3) + bk))), some (.int (zI wy)), some (.long (Int64.ofNat 0)), none, some (.int (zI m)), some (.int (zI v1)), some (.int (zI (5 - v2)))], [.int (zI v1), .long w38, .long (Int64.ofNat 0)], es)) i_42_161 rfl ?_
      refine x0 (r := (164, [some (.ref 132), some (.int (zI m)), some (.int (zI bk)), some (.int (zI ((m * 3) + bk))), some (.int (zI wy)), some (.long (Int64.ofNat 0)), none, some (.int (zI m)), some (.int (zI v1)), some (.int (zI (5 - v2)))], [.int (zI 5), .int (zI v1), .long w38, .long (Int64.ofNat 0)], es)) i_42_163 (by rfl) ?_
      refine x0 (r := (166, [some (.ref 132), some (.int (zI m)), some (.int (zI bk)), some (.int (zI ((m * 3) + bk))), some (.int (zI wy)), some (.long (Int64.ofNat 0)), none, some (.int (zI m)), some (.int (zI v1)), some (.int (zI (5 - v2)))], [.int (zI (5 - v2)), .int (zI 5), .int (zI v1), .long w38, .long (Int64.ofNat 0)], es)) i_42_164 rfl ?_
      refine x_isub i_42_166 ?_
      refine x_call (vs := [.int (zI v1), .int (zI (5 - (5 - v2)))]) (rs := [.long w38, .long (Int64.ofNat 0)]) i_42_167 rfl (fun _ => rfl) rfl rfl rfl rfl rfl rfl ?_
      show aW _ _ _ _ _ _ (0, [some (.int (zI v1)), some (.int (zI (5 - (5 - v2))))], [], es)
      refine bit_sp hs_es ⟨by omega, by omega⟩ ⟨by omega, by omega⟩ (fun w39 p_w39 => ?_)
      show aW _ _ _ _ _ _ (170, [some (.ref 132), some (.int (zI m)), some (.int (zI bk)), some (.int (zI ((m * 3) + bk))), some (.int (zI wy)), some (.long (Int64.ofNat 0)), none, some (.int (zI m)), some (.int (zI v1)), some (.int (zI (5 - v2)))], [.long w39, .long w38, .long (Int64.ofNat 0)], es)
      refine x0 (r := (171, [some (.ref 132), some (.int (zI m)), some (.int (zI bk)), some (.int (zI ((m * 3) + bk))), some (.int (zI wy)), some (.long (Int64.ofNat 0)), none, some (.int (zI m)), some (.int (zI v1)), some (.int (zI (5 - v2)))], [.long (w38 ||| w39), .long (Int64.ofNat 0)], es)) i_42_170 rfl ?_
      obtain ⟨w40, e_w40⟩ : ∃ z : Int64, z = w38 ||| w39 := ⟨_, rfl⟩
      rw [← e_w40]
      refine x0 (r := (172, [some (.ref 132), some (.int (zI m)), some (.int (zI bk)), some (.int (zI ((m * 3) + bk))), some (.int (zI wy)), some (.long (Int64.ofNat 0)), none, some (.int (zI m)), some (.int (zI v1)), some (.int (zI (5 - v2)))], [.long ((Int64.ofNat 0) ||| w40)], es)) i_42_171 rfl ?_
      obtain ⟨w41, e_w41⟩ : ∃ z : Int64, z = (Int64.ofNat 0) ||| w40 := ⟨_, rfl⟩
      rw [← e_w41]
      refine x0 (r := (174, [some (.ref 132), some (.int (zI m)), some (.int (zI bk)), some (.int (zI ((m * 3) + bk))), some (.int (zI wy)), some (.long w41), none, some (.int (zI m)), some (.int (zI v1)), some (.int (zI (5 - v2)))], [], es)) i_42_172 rfl ?_
      refine x_iinc (x := m) i_42_174 rfl (by show 7 < 10; decide) ?_
      show aW _ _ _ _ _ _ (177, [some (.ref 132), some (.int (zI m)), some (.int (zI bk)), some (.int (zI ((m * 3) + bk))), some (.int (zI wy)), some (.long w41), none, some (.int (zI (m + 1))), some (.int (zI v1)), some (.int (zI (5 - v2)))], [], es)
      refine x0 (r := (32, [some (.ref 132), some (.int (zI m)), some (.int (zI bk)), some (.int (zI ((m * 3) + bk))), some (.int (zI wy)), some (.long w41), none, some (.int (zI (m + 1))), some (.int (zI v1)), some (.int (zI (5 - v2)))], [], es)) i_42_177 rfl ?_
      refine x0 (r := (34, [some (.ref 132), some (.int (zI m)), some (.int (zI bk)), some (.int (zI ((m * 3) + bk))), some (.int (zI wy)), some (.long w41), none, some (.int (zI (m + 1))), some (.int (zI v1)), some (.int (zI (5 - v2)))], [.int (zI (m + 1))], es)) i_42_32 rfl ?_
      refine x0 (r := (35, [some (.ref 132), some (.int (zI m)), some (.int (zI bk)), some (.int (zI ((m * 3) + bk))), some (.int (zI wy)), some (.long w41), none, some (.int (zI (m + 1))), some (.int (zI v1)), some (.int (zI (5 - v2)))], [.ref 132, .int (zI (m + 1))], es)) i_42_34 rfl ?_
      refine x_getr (p := 68) (k := 135) i_42_35 hs_es rfl rfl ?_
      show aW _ _ _ _ _ _ (38, [some (.ref 132), some (.int (zI m)), some (.int (zI bk)), some (.int (zI ((m * 3) + bk))), some (.int (zI wy)), some (.long w41), none, some (.int (zI (m + 1))), some (.int (zI v1)), some (.int (zI (5 - v2)))], [.ref 135, .int (zI (m + 1))], es)
      refine x0 (r := (39, [some (.ref 132), some (.int (zI m)), some (.int (zI bk)), some (.int (zI ((m * 3) + bk))), some (.int (zI wy)), some (.long w41), none, some (.int (zI (m + 1))), some (.int (zI v1)), some (.int (zI (5 - v2)))], [.int (zI ((m * 3) + bk)), .ref 135, .int (zI (m + 1))], es)) i_42_38 rfl ?_
      refine x_call (vs := [.ref 135, .int (zI ((m * 3) + bk))]) (rs := [.int (zI (m + 1))]) i_42_39 rfl (fun _ => rfl) rfl rfl rfl rfl rfl rfl ?_
      show aW _ _ _ _ _ _ (0, [some (.ref 135), some (.int (zI ((m * 3) + bk)))], [], es)
      refine x0 (r := (1, [some (.ref 135), some (.int (zI ((m * 3) + bk)))], [.int (zI ((m * 3) + bk))], es)) i_28_0 rfl ?_
      refine x_ifF i_28_1 (by unfold i32 iLO iHI; omega) rfl (by simp only [zC, cR]; omega) ?_
      refine x0 (r := (5, [some (.ref 135), some (.int (zI ((m * 3) + bk)))], [.int (zI ((m * 3) + bk))], es)) i_28_4 rfl ?_
      refine x0 (r := (6, [some (.ref 135), some (.int (zI ((m * 3) + bk)))], [.ref 135, .int (zI ((m * 3) + bk))], es)) i_28_5 rfl ?_
      refine x_alen (p := 71) (n := 93) i_28_6 hs_es rfl ?_
      refine x_cmpF i_28_7 (by unfold i32 iLO iHI; omega) (by unfold i32 iLO iHI; omega) rfl (by simp only [zC, cR]; omega) ?_
      refine x0 (r := (11, [some (.ref 135), some (.int (zI ((m * 3) + bk)))], [.ref 135], es)) i_28_10 rfl ?_
      refine x0 (r := (12, [some (.ref 135), some (.int (zI ((m * 3) + bk)))], [.int (zI ((m * 3) + bk)), .ref 135], es)) i_28_11 rfl ?_
      refine x_iald (p := 71) i_28_12 hs_es rfl (by unfold i32 iLO iHI; omega) (by omega) (by omega) ?_
      rw [show (gA es 71 ((m * 3) + bk).toNat).toInt = m from by exact hl]
      refine x0 (r := (17, [some (.ref 135), some (.int (zI ((m * 3) + bk)))], [.int (zI m)], es)) i_28_13 rfl ?_
      refine x_ret (v := some (.int (zI m))) i_28_17 rfl (fun _ => rfl) rfl rfl rfl ?_
      show aW _ _ _ _ _ _ (42, [some (.ref 132), some (.int (zI m)), some (.int (zI bk)), some (.int (zI ((m * 3) + bk))), some (.int (zI wy)), some (.long w41), none, some (.int (zI (m + 1))), some (.int (zI v1)), some (.int (zI (5 - v2)))], [.int (zI m), .int (zI (m + 1))], es)
      refine x_cmpT i_42_42 (by unfold i32 iLO iHI; omega) (by unfold i32 iLO iHI; omega) rfl (by simp only [zC, cR]; omega) ?_
      refine x0 (r := (182, [some (.ref 132), some (.int (zI m)), some (.int (zI bk)), some (.int (zI ((m * 3) + bk))), some (.int (zI wy)), some (.long w41), none, some (.int (zI (m + 1))), some (.int (zI v1)), some (.int (zI (5 - v2)))], [.long w41], es)) i_42_180 rfl ?_
      refine x_ret (v := some (.long w41)) i_42_182 rfl (fun _ => rfl) rfl rfl rfl ?_
      exact K3 v1 e_v1 v2 e_v2 v3 e_v3 c4 c17 w30 p_w30 w31 p_w31 w32 e_w32 w33 p_w33 w34 e_w34 w35 p_w35 w36 e_w36 w37 p_w37 w38 e_w38 w39 p_w39 w40 e_w40 w41 e_w41
theorem s_nz0 {O : pOut} {d kc ks : Nat} {Q : pRes → Prop} {es : PH} {m bk nb wy : Int} (hs_es : sh es) (hb : 0 ≤ bk ∧ bk ≤ 2) (hm : 0 ≤ m ∧ m ≤ 24) (hmn : nb ≤ m) (hn : nb ≤ 24) (hq0 : (gI es 53 0).toInt = bk) (hq1 : (gI es 53 1).toInt = (bk + 1)) (hq2 : (gI es 53 2).toInt = 0) (hpo : ∀ i, i < 8 → (gA es 55 i).toInt = 0) (hli : (gI es 68 2).toInt = 0) (hnb : (gA es 13 bk.toNat).toInt = nb) (hwy : (gA es 54 bk.toNat).toInt = wy) (hf : (gA es 70 ((m * 3) + bk).toNat).toInt = m) (hl : (gA es 71 ((m * 3) + bk).toNat).toInt = m) (hle : (gA es 72 ((m * 3) + bk).toNat).toInt = 0) (hce : (gA es 69 ((((m * 3) + bk) * 25) + m).toNat).toInt = 0)
    (K1 : Q (.inl (some (.long (Int64.ofNat 0))), es, kc, ks)) :
    aW O (d + 2) 42 kc ks Q (0, [some (.ref 132), some (.int (zI m)), some (.int (zI bk)), none, none, none, none, none, none, none], [], es) := by
  refine x0 (r := (1, [some (.ref 132), some (.int (zI m)), some (.int (zI bk)), none, none, none, none, none, none, none], [.int (zI m)], es)) i_42_0 rfl ?_
  refine x0 (r := (2, [some (.ref 132), some (.int (zI m)), some (.int (zI bk)), none, none, none, none, none, none, none], [.int (zI 3), .int (zI m)], es)) i_42_1 (by rfl) ?_
  refine x_imul i_42_2 ?_
  refine x0 (r := (4, [some (.ref 132), some (.int (zI m)), some (.int (zI bk)), none, none, none, none, none, none, none], [.int (zI bk), .int (zI (m * 3))], es)) i_42_3 rfl ?_
  refine x_iadd i_42_4 ?_
  refine x0 (r := (6, [some (.ref 132), some (.int (zI m)), some (.int (zI bk)), some (.int (zI ((m * 3) + bk))), none, none, none, none, none, none], [], es)) i_42_5 rfl ?_
  refine x0 (r := (7, [some (.ref 132), some (.int (zI m)), some (.int (zI bk)), some (.int (zI ((m * 3) + bk))), none, none, none, none, none, none], [.ref 132], es)) i_42_6 rfl ?_
  refine x_getr (p := 68) (k := 117) i_42_7 hs_es rfl rfl ?_
  show aW _ _ _ _ _ _ (10, [some (.ref 132), some (.int (zI m)), some (.int (zI bk)), some (.int (zI ((m * 3) + bk))), none, none, none, none, none, none], [.ref 117], es)
  refine x_getr (p := 53) (k := 118) i_42_10 hs_es rfl rfl ?_
  show aW _ _ _ _ _ _ (13, [some (.ref 132), some (.int (zI m)), some (.int (zI bk)), some (.int (zI ((m * 3) + bk))), none, none, none, none, none, none], [.ref 118], es)
  refine x0 (r := (14, [some (.ref 132), some (.int (zI m)), some (.int (zI bk)), some (.int (zI ((m * 3) + bk))), none, none, none, none, none, none], [.int (zI bk), .ref 118], es)) i_42_13 rfl ?_
  refine x_call (vs := [.ref 118, .int (zI bk)]) (rs := []) i_42_14 rfl (fun _ => rfl) rfl rfl rfl rfl rfl rfl ?_
  show aW _ _ _ _ _ _ (0, [some (.ref 118), some (.int (zI bk))], [], es)
  refine x0 (r := (1, [some (.ref 118), some (.int (zI bk))], [.int (zI bk)], es)) i_28_0 rfl ?_
  refine x_ifF i_28_1 (by unfold i32 iLO iHI; omega) rfl (by simp only [zC, cR]; omega) ?_
  refine x0 (r := (5, [some (.ref 118), some (.int (zI bk))], [.int (zI bk)], es)) i_28_4 rfl ?_
  refine x0 (r := (6, [some (.ref 118), some (.int (zI bk))], [.ref 118, .int (zI bk)], es)) i_28_5 rfl ?_
  refine x_alen (p := 54) (n := 3) i_28_6 hs_es rfl ?_
  refine x_cmpF i_28_7 (by unfold i32 iLO iHI; omega) (by unfold i32 iLO iHI; omega) rfl (by simp only [zC, cR]; omega) ?_
  refine x0 (r := (11, [some (.ref 118), some (.int (zI bk))], [.ref 118], es)) i_28_10 rfl ?_
  refine x0 (r := (12, [some (.ref 118), some (.int (zI bk))], [.int (zI bk), .ref 118], es)) i_28_11 rfl ?_
  refine x_iald (p := 54) i_28_12 hs_es rfl (by unfold i32 iLO iHI; omega) (by omega) (by omega) ?_
  rw [show (gA es 54 bk.toNat).toInt = wy from by exact hwy]
  have r_wy : -2147483648 ≤ wy ∧ wy ≤ 2147483647 := by
    have hh := i32_rng (gA es 54 bk.toNat)
    rw [hwy] at hh
    exact hh
  refine x0 (r := (17, [some (.ref 118), some (.int (zI bk))], [.int (zI wy)], es)) i_28_13 rfl ?_
  refine x_ret (v := some (.int (zI wy))) i_28_17 rfl (fun _ => rfl) rfl rfl rfl ?_
  show aW _ _ _ _ _ _ (17, [some (.ref 132), some (.int (zI m)), some (.int (zI bk)), some (.int (zI ((m * 3) + bk))), none, none, none, none, none, none], [.int (zI wy)], es)
  refine x0 (r := (19, [some (.ref 132), some (.int (zI m)), some (.int (zI bk)), some (.int (zI ((m * 3) + bk))), some (.int (zI wy)), none, none, none, none, none], [], es)) i_42_17 rfl ?_
  refine x0 (r := (20, [some (.ref 132), some (.int (zI m)), some (.int (zI bk)), some (.int (zI ((m * 3) + bk))), some (.int (zI wy)), none, none, none, none, none], [.long (Int64.ofNat 0)], es)) i_42_19 rfl ?_
  refine x0 (r := (22, [some (.ref 132), some (.int (zI m)), some (.int (zI bk)), some (.int (zI ((m * 3) + bk))), some (.int (zI wy)), some (.long (Int64.ofNat 0)), none, none, none, none], [], es)) i_42_20 rfl ?_
  refine x0 (r := (23, [some (.ref 132), some (.int (zI m)), some (.int (zI bk)), some (.int (zI ((m * 3) + bk))), some (.int (zI wy)), some (.long (Int64.ofNat 0)), none, none, none, none], [.ref 132], es)) i_42_22 rfl ?_
  refine x_getr (p := 68) (k := 134) i_42_23 hs_es rfl rfl ?_
  show aW _ _ _ _ _ _ (26, [some (.ref 132), some (.int (zI m)), some (.int (zI bk)), some (.int (zI ((m * 3) + bk))), some (.int (zI wy)), some (.long (Int64.ofNat 0)), none, none, none, none], [.ref 134], es)
  refine x0 (r := (27, [some (.ref 132), some (.int (zI m)), some (.int (zI bk)), some (.int (zI ((m * 3) + bk))), some (.int (zI wy)), some (.long (Int64.ofNat 0)), none, none, none, none], [.int (zI ((m * 3) + bk)), .ref 134], es)) i_42_26 rfl ?_
  refine x_call (vs := [.ref 134, .int (zI ((m * 3) + bk))]) (rs := []) i_42_27 rfl (fun _ => rfl) rfl rfl rfl rfl rfl rfl ?_
  show aW _ _ _ _ _ _ (0, [some (.ref 134), some (.int (zI ((m * 3) + bk)))], [], es)
  refine x0 (r := (1, [some (.ref 134), some (.int (zI ((m * 3) + bk)))], [.int (zI ((m * 3) + bk))], es)) i_28_0 rfl ?_
  refine x_ifF i_28_1 (by unfold i32 iLO iHI; omega) rfl (by simp only [zC, cR]; omega) ?_
  refine x0 (r := (5, [some (.ref 134), some (.int (zI ((m * 3) + bk)))], [.int (zI ((m * 3) + bk))], es)) i_28_4 rfl ?_
  refine x0 (r := (6, [some (.ref 134), some (.int (zI ((m * 3) + bk)))], [.ref 134, .int (zI ((m * 3) + bk))], es)) i_28_5 rfl ?_
  refine x_alen (p := 70) (n := 93) i_28_6 hs_es rfl ?_
  refine x_cmpF i_28_7 (by unfold i32 iLO iHI; omega) (by unfold i32 iLO iHI; omega) rfl (by simp only [zC, cR]; omega) ?_
  refine x0 (r := (11, [some (.ref 134), some (.int (zI ((m * 3) + bk)))], [.ref 134], es)) i_28_10 rfl ?_
  refine x0 (r := (12, [some (.ref 134), some (.int (zI ((m * 3) + bk)))], [.int (zI ((m * 3) + bk)), .ref 134], es)) i_28_11 rfl ?_
  refine x_iald (p := 70) i_28_12 hs_es rfl (by unfold i32 iLO iHI; omega) (by omega) (by omega) ?_
  rw [show (gA es 70 ((m * 3) + bk).toNat).toInt = m from by exact hf]
  refine x0 (r := (17, [some (.ref 134), some (.int (zI ((m * 3) + bk)))], [.int (zI m)], es)) i_28_13 rfl ?_
  refine x_ret (v := some (.int (zI m))) i_28_17 rfl (fun _ => rfl) rfl rfl rfl ?_
  show aW _ _ _ _ _ _ (30, [some (.ref 132), some (.int (zI m)), some (.int (zI bk)), some (.int (zI ((m * 3) + bk))), some (.int (zI wy)), some (.long (Int64.ofNat 0)), none, none, none, none], [.int (zI m)], es)
  refine x0 (r := (32, [some (.ref 132), some (.int (zI m)), some (.int (zI bk)), some (.int (zI ((m * 3) + bk))), some (.int (zI wy)), some (.long (Int64.ofNat 0)), none, some (.int (zI m)), none, none], [], es)) i_42_30 rfl ?_
  refine x0 (r := (34, [some (.ref 132), some (.int (zI m)), some (.int (zI bk)), some (.int (zI ((m * 3) + bk))), some (.int (zI wy)), some (.long (Int64.ofNat 0)), none, some (.int (zI m)), none, none], [.int (zI m)], es)) i_42_32 rfl ?_
  refine x0 (r := (35, [some (.ref 132), some (.int (zI m)), some (.int (zI bk)), some (.int (zI ((m * 3) + bk))), some (.int (zI wy)), some (.long (Int64.ofNat 0)), none, some (.int (zI m)), none, none], [.ref 132, .int (zI m)], es)) i_42_34 rfl ?_
  refine x_getr (p := 68) (k := 135) i_42_35 hs_es rfl rfl ?_
  show aW _ _ _ _ _ _ (38, [some (.ref 132), some (.int (zI m)), some (.int (zI bk)), some (.int (zI ((m * 3) + bk))), some (.int (zI wy)), some (.long (Int64.ofNat 0)), none, some (.int (zI m)), none, none], [.ref 135, .int (zI m)], es)
  refine x0 (r := (39, [some (.ref 132), some (.int (zI m)), some (.int (zI bk)), some (.int (zI ((m * 3) + bk))), some (.int (zI wy)), some (.long (Int64.ofNat 0)), none, some (.int (zI m)), none, none], [.int (zI ((m * 3) + bk)), .ref 135, .int (zI m)], es)) i_42_38 rfl ?_
  refine x_call (vs := [.ref 135, .int (zI ((m * 3) + bk))]) (rs := [.int (zI m)]) i_42_39 rfl (fun _ => rfl) rfl rfl rfl rfl rfl rfl ?_
  show aW _ _ _ _ _ _ (0, [some (.ref 135), some (.int (zI ((m * 3) + bk)))], [], es)
  refine x0 (r := (1, [some (.ref 135), some (.int (zI ((m * 3) + bk)))], [.int (zI ((m * 3) + bk))], es)) i_28_0 rfl ?_
  refine x_ifF i_28_1 (by unfold i32 iLO iHI; omega) rfl (by simp only [zC, cR]; omega) ?_
  refine x0 (r := (5, [some (.ref 135), some (.int (zI ((m * 3) + bk)))], [.int (zI ((m * 3) + bk))], es)) i_28_4 rfl ?_
  refine x0 (r := (6, [some (.ref 135), some (.int (zI ((m * 3) + bk)))], [.ref 135, .int (zI ((m * 3) + bk))], es)) i_28_5 rfl ?_
  refine x_alen (p := 71) (n := 93) i_28_6 hs_es rfl ?_
  refine x_cmpF i_28_7 (by unfold i32 iLO iHI; omega) (by unfold i32 iLO iHI; omega) rfl (by simp only [zC, cR]; omega) ?_
  refine x0 (r := (11, [some (.ref 135), some (.int (zI ((m * 3) + bk)))], [.ref 135], es)) i_28_10 rfl ?_
  refine x0 (r := (12, [some (.ref 135), some (.int (zI ((m * 3) + bk)))], [.int (zI ((m * 3) + bk)), .ref 135], es)) i_28_11 rfl ?_
  refine x_iald (p := 71) i_28_12 hs_es rfl (by unfold i32 iLO iHI; omega) (by omega) (by omega) ?_
  rw [show (gA es 71 ((m * 3) + bk).toNat).toInt = m from by exact hl]
  refine x0 (r := (17, [some (.ref 135), some (.int (zI ((m * 3) + bk)))], [.int (zI m)], es)) i_28_13 rfl ?_
  refine x_ret (v := some (.int (zI m))) i_28_17 rfl (fun _ => rfl) rfl rfl rfl ?_
  show aW _ _ _ _ _ _ (42, [some (.ref 132), some (.int (zI m)), some (.int (zI bk)), some (.int (zI ((m * 3) + bk))), some (.int (zI wy)), some (.long (Int64.ofNat 0)), none, some (.int (zI m)), none, none], [.int (zI m), .int (zI m)], es)
  refine x_cmpF i_42_42 (by unfold i32 iLO iHI; omega) (by unfold i32 iLO iHI; omega) rfl (by simp only [zC, cR]; omega) ?_
  refine x0 (r := (47, [some (.ref 132), some (.int (zI m)), some (.int (zI bk)), some (.int (zI ((m * 3) + bk))), some (.int (zI wy)), some (.long (Int64.ofNat 0)), none, some (.int (zI m)), none, none], [.int (zI m)], es)) i_42_45 rfl ?_
  refine x0 (r := (48, [some (.ref 132), some (.int (zI m)), some (.int (zI bk)), some (.int (zI ((m * 3) + bk))), some (.int (zI wy)), some (.long (Int64.ofNat 0)), none, some (.int (zI m)), none, none], [.ref 132, .int (zI m)], es)) i_42_47 rfl ?_
  refine x_getr (p := 68) (k := 71) i_42_48 hs_es rfl rfl ?_
  show aW _ _ _ _ _ _ (51, [some (.ref 132), some (.int (zI m)), some (.int (zI bk)), some (.int (zI ((m * 3) + bk))), some (.int (zI wy)), some (.long (Int64.ofNat 0)), none, some (.int (zI m)), none, none], [.ref 71, .int (zI m)], es)
  refine x0 (r := (52, [some (.ref 132), some (.int (zI m)), some (.int (zI bk)), some (.int (zI ((m * 3) + bk))), some (.int (zI wy)), some (.long (Int64.ofNat 0)), none, some (.int (zI m)), none, none], [.int (zI bk), .ref 71, .int (zI m)], es)) i_42_51 rfl ?_
  refine x_call (vs := [.ref 71, .int (zI bk)]) (rs := [.int (zI m)]) i_42_52 rfl (fun _ => rfl) rfl rfl rfl rfl rfl (pCall_v (p := 7) hs_es rfl rfl rfl rfl rfl (by decide) rfl rfl rfl rfl rfl) ?_
  show aW _ _ _ _ _ _ (0, [some (.ref 71), some (.int (zI bk))], [], es)
  refine x0 (r := (1, [some (.ref 71), some (.int (zI bk))], [.ref 71], es)) i_35_0 rfl ?_
  refine x_getr (p := 7) (k := 77) i_35_1 hs_es rfl rfl ?_
  show aW _ _ _ _ _ _ (4, [some (.ref 71), some (.int (zI bk))], [.ref 77], es)
  refine x0 (r := (5, [some (.ref 71), some (.int (zI bk))], [.int (zI bk), .ref 77], es)) i_35_4 rfl ?_
  refine x_call (vs := [.ref 77, .int (zI bk)]) (rs := []) i_35_5 rfl (fun _ => rfl) rfl rfl rfl rfl rfl rfl ?_
  show aW _ _ _ _ _ _ (0, [some (.ref 77), some (.int (zI bk))], [], es)
  refine x0 (r := (1, [some (.ref 77), some (.int (zI bk))], [.int (zI bk)], es)) i_28_0 rfl ?_
  refine x_ifF i_28_1 (by unfold i32 iLO iHI; omega) rfl (by simp only [zC, cR]; omega) ?_
  refine x0 (r := (5, [some (.ref 77), some (.int (zI bk))], [.int (zI bk)], es)) i_28_4 rfl ?_
  refine x0 (r := (6, [some (.ref 77), some (.int (zI bk))], [.ref 77, .int (zI bk)], es)) i_28_5 rfl ?_
  refine x_alen (p := 13) (n := 3) i_28_6 hs_es rfl ?_
  refine x_cmpF i_28_7 (by unfold i32 iLO iHI; omega) (by unfold i32 iLO iHI; omega) rfl (by simp only [zC, cR]; omega) ?_
  refine x0 (r := (11, [some (.ref 77), some (.int (zI bk))], [.ref 77], es)) i_28_10 rfl ?_
  refine x0 (r := (12, [some (.ref 77), some (.int (zI bk))], [.int (zI bk), .ref 77], es)) i_28_11 rfl ?_
  refine x_iald (p := 13) i_28_12 hs_es rfl (by unfold i32 iLO iHI; omega) (by omega) (by omega) ?_
  rw [show (gA es 13 bk.toNat).toInt = nb from by exact hnb]
  have r_nb : -2147483648 ≤ nb ∧ nb ≤ 2147483647 := by
    have hh := i32_rng (gA es 13 bk.toNat)
    rw [hnb] at hh
    exact hh
  refine x0 (r := (17, [some (.ref 77), some (.int (zI bk))], [.int (zI nb)], es)) i_28_13 rfl ?_
  refine x_ret (v := some (.int (zI nb))) i_28_17 rfl (fun _ => rfl) rfl rfl rfl ?_
  show aW _ _ _ _ _ _ (8, [some (.ref 71), some (.int (zI bk))], [.int (zI nb)], es)
  refine x_ret (v := some (.int (zI nb))) i_35_8 rfl (fun _ => rfl) rfl rfl rfl ?_
  show aW _ _ _ _ _ _ (55, [some (.ref 132), some (.int (zI m)), some (.int (zI bk)), some (.int (zI ((m * 3) + bk))), some (.int (zI wy)), some (.long (Int64.ofNat 0)), none, some (.int (zI m)), none, none], [.int (zI nb), .int (zI m)], es)
  refine x_cmpT i_42_55 (by unfold i32 iLO iHI; omega) (by unfold i32 iLO iHI; omega) rfl (by simp only [zC, cR]; omega) ?_
  refine x0 (r := (182, [some (.ref 132), some (.int (zI m)), some (.int (zI bk)), some (.int (zI ((m * 3) + bk))), some (.int (zI wy)), some (.long (Int64.ofNat 0)), none, some (.int (zI m)), none, none], [.long (Int64.ofNat 0)], es)) i_42_180 rfl ?_
  refine x_ret (v := some (.long (Int64.ofNat 0))) i_42_182 rfl (fun _ => rfl) rfl rfl rfl ?_
  exact K1
/-- the SQUARES that a NOTE is near to: its own at least -/
def nearP (m bk : Int) (es : PH) (w : Int64) : Prop := ∀ t : Nat, t < 36 → (gA es 14 ((((bk * 24) + m) * 4) + 2).toNat).toInt = ((t % 6 : Nat) : Int) → (gA es 14 ((((bk * 24) + m) * 4) + 3).toNat).toInt = (if (gA es 54 bk.toNat).toInt = 1 ∧ m % 2 = 1 then 5 - ((t / 6 : Nat) : Int) else ((t / 6 : Nat) : Int)) → lbit w t = true
theorem nn_sp {O : pOut} {d kc ks : Nat} {Q : pRes → Prop} {es : PH} {m bk nb wy : Int} (hs : sh es) (hb : 0 ≤ bk ∧ bk ≤ 2) (hm : 0 ≤ m ∧ m ≤ 23) (hmn : m + 1 ≤ nb) (hn : nb ≤ 24) (hq0 : (gI es 53 0).toInt = bk) (hq1 : (gI es 53 1).toInt = (bk + 1)) (hq2 : (gI es 53 2).toInt = 0) (hpo : ∀ i, i < 8 → (gA es 55 i).toInt = 0) (hli : (gI es 68 2).toInt = 0) (hnb : (gA es 13 bk.toNat).toInt = nb) (hwy : (gA es 54 bk.toNat).toInt = wy) (hf : (gA es 70 ((m * 3) + bk).toNat).toInt = m) (hl : (gA es 71 ((m * 3) + bk).toNat).toInt = m) (hle : (gA es 72 ((m * 3) + bk).toNat).toInt = 0) (hce : (gA es 69 ((((m * 3) + bk) * 25) + m).toNat).toInt = 0) (h2 : -20 ≤ (gA es 14 ((((bk * 24) + m) * 4) + 2).toNat).toInt ∧ (gA es 14 ((((bk * 24) + m) * 4) + 2).toNat).toInt ≤ 20) (h3 : -20 ≤ (gA es 14 ((((bk * 24) + m) * 4) + 3).toNat).toInt ∧ (gA es 14 ((((bk * 24) + m) * 4) + 3).toNat).toInt ≤ 20) (K : ∀ w, nearP m bk es w → Q (.inl (some (.long w)), es, kc, ks)) : aW O (d + 2) 42 kc ks Q (0, [some (.ref 132), some (.int (zI m)), some (.int (zI bk)), none, none, none, none, none, none, none], [], es) := by
  refine s_nn0 (d := d) hs hb hm hmn hn hq0 hq1 hq2 hpo hli hnb hwy hf hl hle hce h2 h3 (fun v1 e_v1 v2 e_v2 v3 e_v3 c4 w5 p_w5 w6 p_w6 w7 e_w7 w8 p_w8 w9 e_w9 w10 p_w10 w11 e_w11 w12 p_w12 w13 e_w13 w14 p_w14 w15 e_w15 w16 e_w16 => K _ (fun t ht h4 h5 => ?_)) (fun v1 e_v1 v2 e_v2 v3 e_v3 c4 c17 w18 p_w18 w19 p_w19 w20 e_w20 w21 p_w21 w22 e_w22 w23 p_w23 w24 e_w24 w25 p_w25 w26 e_w26 w27 p_w27 w28 e_w28 w29 e_w29 => K _ (fun t ht h4 h5 => ?_)) (fun v1 e_v1 v2 e_v2 v3 e_v3 c4 c17 w30 p_w30 w31 p_w31 w32 e_w32 w33 p_w33 w34 e_w34 w35 p_w35 w36 e_w36 w37 p_w37 w38 e_w38 w39 p_w39 w40 e_w40 w41 e_w41 => K _ (fun t ht h4 h5 => ?_))
  · rw [hwy] at h5
    have hsd : v3 = m % 2 := by rw [e_v3, and1 (by unfold i32 iLO iHI; omega)]
    rw [if_neg (by omega)] at h5
    have et : t = ((6 * v2) + v1).toNat := by omega
    have hb1 := p_w5 ⟨by omega, by omega, by omega, by omega⟩
    rw [← et] at hb1
    rw [e_w16, lbit_or, e_w15, lbit_or, e_w13, lbit_or, e_w11, lbit_or, e_w9, lbit_or, e_w7, lbit_or, hb1]
    simp
  · rw [hwy] at h5
    have hsd : v3 = m % 2 := by rw [e_v3, and1 (by unfold i32 iLO iHI; omega)]
    rw [if_neg (by omega)] at h5
    have et : t = ((6 * v2) + v1).toNat := by omega
    have hb1 := p_w18 ⟨by omega, by omega, by omega, by omega⟩
    rw [← et] at hb1
    rw [e_w29, lbit_or, e_w28, lbit_or, e_w26, lbit_or, e_w24, lbit_or, e_w22, lbit_or, e_w20, lbit_or, hb1]
    simp
  · rw [hwy] at h5
    have hsd : v3 = m % 2 := by rw [e_v3, and1 (by unfold i32 iLO iHI; omega)]
    rw [if_pos (by omega)] at h5
    have et : t = ((6 * (5 - v2)) + v1).toNat := by omega
    have hb1 := p_w30 ⟨by omega, by omega, by omega, by omega⟩
    rw [← et] at hb1
    rw [e_w41, lbit_or, e_w40, lbit_or, e_w38, lbit_or, e_w36, lbit_or, e_w34, lbit_or, e_w32, lbit_or, hb1]
    simp
theorem nz_sp {O : pOut} {d kc ks : Nat} {Q : pRes → Prop} {es : PH} {m bk nb wy : Int} (hs : sh es) (hb : 0 ≤ bk ∧ bk ≤ 2) (hm : 0 ≤ m ∧ m ≤ 24) (hmn : nb ≤ m) (hn : nb ≤ 24) (hq0 : (gI es 53 0).toInt = bk) (hq1 : (gI es 53 1).toInt = (bk + 1)) (hq2 : (gI es 53 2).toInt = 0) (hpo : ∀ i, i < 8 → (gA es 55 i).toInt = 0) (hli : (gI es 68 2).toInt = 0) (hnb : (gA es 13 bk.toNat).toInt = nb) (hwy : (gA es 54 bk.toNat).toInt = wy) (hf : (gA es 70 ((m * 3) + bk).toNat).toInt = m) (hl : (gA es 71 ((m * 3) + bk).toNat).toInt = m) (hle : (gA es 72 ((m * 3) + bk).toNat).toInt = 0) (hce : (gA es 69 ((((m * 3) + bk) * 25) + m).toNat).toInt = 0) (K : Q (.inl (some (.long (Int64.ofNat 0))), es, kc, ks)) : aW O (d + 2) 42 kc ks Q (0, [some (.ref 132), some (.int (zI m)), some (.int (zI bk)), none, none, none, none, none, none, none], [], es) := s_nz0 (d := d) hs hb hm hmn hn hq0 hq1 hq2 hpo hli hnb hwy hf hl hle hce K
theorem s_hp0 {O : pOut} {d kc ks : Nat} {Q : pRes → Prop} {es : PH} {m bk nb wy : Int} (hs_es : sh es) (hb : 0 ≤ bk ∧ bk ≤ 2) (hm : 0 ≤ m ∧ m ≤ 23) (hmn : m + 1 ≤ nb) (hn : nb ≤ 24) (hq0 : (gI es 53 0).toInt = bk) (hq1 : (gI es 53 1).toInt = (bk + 1)) (hq2 : (gI es 53 2).toInt = 0) (hpo : ∀ i, i < 8 → (gA es 55 i).toInt = 0) (hli : (gI es 68 2).toInt = 0) (hnb : (gA es 13 bk.toNat).toInt = nb) (hwy : (gA es 54 bk.toNat).toInt = wy) (hf : (gA es 70 ((m * 3) + bk).toNat).toInt = m) (hl : (gA es 71 ((m * 3) + bk).toNat).toInt = m) (hle : (gA es 72 ((m * 3) + bk).toNat).toInt = 0) (hce : (gA es 69 ((((m * 3) + bk) * 25) + m).toNat).toInt = 0) (h2 : -20 ≤ (gA es 14 ((((bk * 24) + m) * 4) + 2).toNat).toInt ∧ (gA es 14 ((((bk * 24) + m) * 4) + 2).toNat).toInt ≤ 20) (h3 : -20 ≤ (gA es 14 ((((bk * 24) + m) * 4) + 3).toNat).toInt ∧ (gA es 14 ((((bk * 24) + m) * 4) + 3).toNat).toInt ≤ 20)
    (K1 : ∀ w1 : Int64, nearP m bk es w1 → ∀ w2 : Int64, w2 = (Int64.ofNat 0) &&& w1 → ∀ w3 : Int64, w3 = (Int64.ofNat 0) ||| w2 → ∀ w4 : Int64, w4 = (Int64.ofNat 0) &&& w1 → ∀ w5 : Int64, w5 = (Int64.ofNat 0) ||| w4 → ∀ w6 : Int64, w6 = (Int64.ofNat 0) ||| w1 → Q (.inl (some (.long w6)), es, kc, ks)) :
    aW O (d + 3) 41 kc ks Q (0, [some (.ref 132), some (.int (zI m)), none, none, none, none, none, none, none, none, none], [], es) := by
  refine x0 (r := (1, [some (.ref 132), some (.int (zI m)), none, none, none, none, none, none, none, none, none], [.long (Int64.ofNat 0)], es)) i_41_0 rfl ?_
  refine x0 (r := (2, [some (.ref 132), some (.int (zI m)), some (.long (Int64.ofNat 0)), none, none, none, none, none, none, none, none], [], es)) i_41_1 rfl ?_
  refine x0 (r := (3, [some (.ref 132), some (.int (zI m)), some (.long (Int64.ofNat 0)), none, none, none, none, none, none, none, none], [.long (Int64.ofNat 0)], es)) i_41_2 rfl ?_
  refine x0 (r := (5, [some (.ref 132), some (.int (zI m)), some (.long (Int64.ofNat 0)), none, some (.long (Int64.ofNat 0)), none, none, none, none, none, none], [], es)) i_41_3 rfl ?_
  refine x0 (r := (6, [some (.ref 132), some (.int (zI m)), some (.long (Int64.ofNat 0)), none, some (.long (Int64.ofNat 0)), none, none, none, none, none, none], [.long (Int64.ofNat 0)], es)) i_41_5 rfl ?_
  refine x0 (r := (8, [some (.ref 132), some (.int (zI m)), some (.long (Int64.ofNat 0)), none, some (.long (Int64.ofNat 0)), none, some (.long (Int64.ofNat 0)), none, none, none, none], [], es)) i_41_6 rfl ?_
  refine x0 (r := (9, [some (.ref 132), some (.int (zI m)), some (.long (Int64.ofNat 0)), none, some (.long (Int64.ofNat 0)), none, some (.long (Int64.ofNat 0)), none, none, none, none], [.ref 132], es)) i_41_8 rfl ?_
  refine x_getr (p := 68) (k := 117) i_41_9 hs_es rfl rfl ?_
  show aW _ _ _ _ _ _ (12, [some (.ref 132), some (.int (zI m)), some (.long (Int64.ofNat 0)), none, some (.long (Int64.ofNat 0)), none, some (.long (Int64.ofNat 0)), none, none, none, none], [.ref 117], es)
  refine x_geti (p := 53) i_41_12 hs_es rfl rfl ?_
  rw [show (gI es 53 0).toInt = bk from by exact hq0]
  refine x0 (r := (17, [some (.ref 132), some (.int (zI m)), some (.long (Int64.ofNat 0)), none, some (.long (Int64.ofNat 0)), none, some (.long (Int64.ofNat 0)), none, some (.int (zI bk)), none, none], [], es)) i_41_15 rfl ?_
  refine x0 (r := (19, [some (.ref 132), some (.int (zI m)), some (.long (Int64.ofNat 0)), none, some (.long (Int64.ofNat 0)), none, some (.long (Int64.ofNat 0)), none, some (.int (zI bk)), none, none], [.int (zI bk)], es)) i_41_17 rfl ?_
  refine x0 (r := (20, [some (.ref 132), some (.int (zI m)), some (.long (Int64.ofNat 0)), none, some (.long (Int64.ofNat 0)), none, some (.long (Int64.ofNat 0)), none, some (.int (zI bk)), none, none], [.ref 132, .int (zI bk)], es)) i_41_19 rfl ?_
  refine x_getr (p := 68) (k := 117) i_41_20 hs_es rfl rfl ?_
  show aW _ _ _ _ _ _ (23, [some (.ref 132), some (.int (zI m)), some (.long (Int64.ofNat 0)), none, some (.long (Int64.ofNat 0)), none, some (.long (Int64.ofNat 0)), none, some (.int (zI bk)), none, none], [.ref 117, .int (zI bk)], es)
  refine x_geti (p := 53) i_41_23 hs_es rfl rfl ?_
  rw [show (gI es 53 1).toInt = (bk + 1) from by exact hq1]
  refine x_cmpF i_41_26 (by unfold i32 iLO iHI; omega) (by unfold i32 iLO iHI; omega) rfl (by simp only [zC, cR]; omega) ?_
  refine x0 (r := (30, [some (.ref 132), some (.int (zI m)), some (.long (Int64.ofNat 0)), none, some (.long (Int64.ofNat 0)), none, some (.long (Int64.ofNat 0)), none, some (.int (zI bk)), none, none], [.ref 132], es)) i_41_29 rfl ?_
  refine x0 (r := (31, [some (.ref 132), some (.int (zI m)), some (.long (Int64.ofNat 0)), none, some (.long (Int64.ofNat 0)), none, some (.long (Int64.ofNat 0)), none, some (.int (zI bk)), none, none], [.int (zI m), .ref 132], es)) i_41_30 rfl ?_
  refine x0 (r := (33, [some (.ref 132), some (.int (zI m)), some (.long (Int64.ofNat 0)), none, some (.long (Int64.ofNat 0)), none, some (.long (Int64.ofNat 0)), none, some (.int (zI bk)), none, none], [.int (zI bk), .int (zI m), .ref 132], es)) i_41_31 rfl ?_
  refine x_call (vs := [.ref 132, .int (zI m), .int (zI bk)]) (rs := []) i_41_33 rfl (fun _ => rfl) rfl rfl rfl rfl rfl (pCall_v (p := 68) hs_es rfl rfl rfl rfl rfl (by decide) rfl rfl rfl rfl rfl) ?_
  show aW _ _ _ _ _ _ (0, [some (.ref 132), some (.int (zI m)), some (.int (zI bk)), none, none, none, none, none, none, none], [], es)
  refine nn_sp hs_es hb hm hmn hn hq0 hq1 hq2 hpo hli hnb hwy hf hl hle hce h2 h3 (fun w1 p_w1 => ?_)
  show aW _ _ _ _ _ _ (36, [some (.ref 132), some (.int (zI m)), some (.long (Int64.ofNat 0)), none, some (.long (Int64.ofNat 0)), none, some (.long (Int64.ofNat 0)), none, some (.int (zI bk)), none, none], [.long w1], es)
  refine x0 (r := (38, [some (.ref 132), some (.int (zI m)), some (.long (Int64.ofNat 0)), none, some (.long (Int64.ofNat 0)), none, some (.long (Int64.ofNat 0)), none, some (.int (zI bk)), some (.long w1), none], [], es)) i_41_36 rfl ?_
  refine x0 (r := (40, [some (.ref 132), some (.int (zI m)), some (.long (Int64.ofNat 0)), none, some (.long (Int64.ofNat 0)), none, some (.long (Int64.ofNat 0)), none, some (.int (zI bk)), some (.long w1), none], [.long (Int64.ofNat 0)], es)) i_41_38 rfl ?_
  refine x0 (r := (42, [some (.ref 132), some (.int (zI m)), some (.long (Int64.ofNat 0)), none, some (.long (Int64.ofNat 0)), none, some (.long (Int64.ofNat 0)), none, some (.int (zI bk)), some (.long w1), none], [.long (Int64.ofNat 0), .long (Int64.ofNat 0)], es)) i_41_40 rfl ?_
  refine x0 (r := (44, [some (.ref 132), some (.int (zI m)), some (.long (Int64.ofNat 0)), none, some (.long (Int64.ofNat 0)), none, some (.long (Int64.ofNat 0)), none, some (.int (zI bk)), some (.long w1), none], [.long w1, .long (Int64.ofNat 0), .long (Int64.ofNat 0)], es)) i_41_42 rfl ?_
  refine x0 (r := (45, [some (.ref 132), some (.int (zI m)), some (.long (Int64.ofNat 0)), none, some (.long (Int64.ofNat 0)), none, some (.long (Int64.ofNat 0)), none, some (.int (zI bk)), some (.long w1), none], [.long ((Int64.ofNat 0) &&& w1), .long (Int64.ofNat 0)], es)) i_41_44 rfl ?_
  obtain ⟨w2, e_w2⟩ : ∃ z : Int64, z = (Int64.ofNat 0) &&& w1 := ⟨_, rfl⟩
  rw [← e_w2]
  refine x0 (r := (46, [some (.ref 132), some (.int (zI m)), some (.long (Int64.ofNat 0)), none, some (.long (Int64.ofNat 0)), none, some (.long (Int64.ofNat 0)), none, some (.int (zI bk)), some (.long w1), none], [.long ((Int64.ofNat 0) ||| w2)], es)) i_41_45 rfl ?_
  obtain ⟨w3, e_w3⟩ : ∃ z : Int64, z = (Int64.ofNat 0) ||| w2 := ⟨_, rfl⟩
  rw [← e_w3]
  refine x0 (r := (48, [some (.ref 132), some (.int (zI m)), some (.long (Int64.ofNat 0)), none, some (.long (Int64.ofNat 0)), none, some (.long w3), none, some (.int (zI bk)), some (.long w1), none], [], es)) i_41_46 rfl ?_
  refine x0 (r := (50, [some (.ref 132), some (.int (zI m)), some (.long (Int64.ofNat 0)), none, some (.long (Int64.ofNat 0)), none, some (.long w3), none, some (.int (zI bk)), some (.long w1), none], [.long (Int64.ofNat 0)], es)) i_41_48 rfl ?_
  refine x0 (r := (51, [some (.ref 132), some (.int (zI m)), some (.long (Int64.ofNat 0)), none, some (.long (Int64.ofNat 0)), none, some (.long w3), none, some (.int (zI bk)), some (.long w1), none], [.long (Int64.ofNat 0), .long (Int64.ofNat 0)], es)) i_41_50 rfl ?_
  refine x0 (r := (53, [some (.ref 132), some (.int (zI m)), some (.long (Int64.ofNat 0)), none, some (.long (Int64.ofNat 0)), none, some (.long w3), none, some (.int (zI bk)), some (.long w1), none], [.long w1, .long (Int64.ofNat 0), .long (Int64.ofNat 0)], es)) i_41_51 rfl ?_
  refine x0 (r := (54, [some (.ref 132), some (.int (zI m)), some (.long (Int64.ofNat 0)), none, some (.long (Int64.ofNat 0)), none, some (.long w3), none, some (.int (zI bk)), some (.long w1), none], [.long ((Int64.ofNat 0) &&& w1), .long (Int64.ofNat 0)], es)) i_41_53 rfl ?_
  obtain ⟨w4, e_w4⟩ : ∃ z : Int64, z = (Int64.ofNat 0) &&& w1 := ⟨_, rfl⟩
  rw [← e_w4]
  refine x0 (r := (55, [some (.ref 132), some (.int (zI m)), some (.long (Int64.ofNat 0)), none, some (.long (Int64.ofNat 0)), none, some (.long w3), none, some (.int (zI bk)), some (.long w1), none], [.long ((Int64.ofNat 0) ||| w4)], es)) i_41_54 rfl ?_
  obtain ⟨w5, e_w5⟩ : ∃ z : Int64, z = (Int64.ofNat 0) ||| w4 := ⟨_, rfl⟩
  rw [← e_w5]
  refine x0 (r := (57, [some (.ref 132), some (.int (zI m)), some (.long (Int64.ofNat 0)), none, some (.long w5), none, some (.long w3), none, some (.int (zI bk)), some (.long w1), none], [], es)) i_41_55 rfl ?_
  refine x0 (r := (58, [some (.ref 132), some (.int (zI m)), some (.long (Int64.ofNat 0)), none, some (.long w5), none, some (.long w3), none, some (.int (zI bk)), some (.long w1), none], [.long (Int64.ofNat 0)], es)) i_41_57 rfl ?_
  refine x0 (r := (60, [some (.ref 132), some (.int (zI m)), some (.long (Int64.ofNat 0)), none, some (.long w5), none, some (.long w3), none, some (.int (zI bk)), some (.long w1), none], [.long w1, .long (Int64.ofNat 0)], es)) i_41_58 rfl ?_
  refine x0 (r := (61, [some (.ref 132), some (.int (zI m)), some (.long (Int64.ofNat 0)), none, some (.long w5), none, some (.long w3), none, some (.int (zI bk)), some (.long w1), none], [.long ((Int64.ofNat 0) ||| w1)], es)) i_41_60 rfl ?_
  obtain ⟨w6, e_w6⟩ : ∃ z : Int64, z = (Int64.ofNat 0) ||| w1 := ⟨_, rfl⟩
  rw [← e_w6]
  refine x0 (r := (62, [some (.ref 132), some (.int (zI m)), some (.long w6), none, some (.long w5), none, some (.long w3), none, some (.int (zI bk)), some (.long w1), none], [], es)) i_41_61 rfl ?_
  refine x_iinc (x := bk) i_41_62 rfl (by show 8 < 11; decide) ?_
  show aW _ _ _ _ _ _ (65, [some (.ref 132), some (.int (zI m)), some (.long w6), none, some (.long w5), none, some (.long w3), none, some (.int (zI (bk + 1))), some (.long w1), none], [], es)
  refine x0 (r := (17, [some (.ref 132), some (.int (zI m)), some (.long w6), none, some (.long w5), none, some (.long w3), none, some (.int (zI (bk + 1))), some (.long w1), none], [], es)) i_41_65 rfl ?_
  refine x0 (r := (19, [some (.ref 132), some (.int (zI m)), some (.long w6), none, some (.long w5), none, some (.long w3), none, some (.int (zI (bk + 1))), some (.long w1), none], [.int (zI (bk + 1))], es)) i_41_17 rfl ?_
  refine x0 (r := (20, [some (.ref 132), some (.int (zI m)), some (.long w6), none, some (.long w5), none, some (.long w3), none, some (.int (zI (bk + 1))), some (.long w1), none], [.ref 132, .int (zI (bk + 1))], es)) i_41_19 rfl ?_
  refine x_getr (p := 68) (k := 117) i_41_20 hs_es rfl rfl ?_
  show aW _ _ _ _ _ _ (23, [some (.ref 132), some (.int (zI m)), some (.long w6), none, some (.long w5), none, some (.long w3), none, some (.int (zI (bk + 1))), some (.long w1), none], [.ref 117, .int (zI (bk + 1))], es)
  refine x_geti (p := 53) i_41_23 hs_es rfl rfl ?_
  rw [show (gI es 53 1).toInt = (bk + 1) from by exact hq1]
  refine x_cmpT i_41_26 (by unfold i32 iLO iHI; omega) (by unfold i32 iLO iHI; omega) rfl (by simp only [zC, cR]; omega) ?_
  refine x0 (r := (69, [some (.ref 132), some (.int (zI m)), some (.long w6), none, some (.long w5), none, some (.long w3), none, some (.int (zI (bk + 1))), some (.long w1), none], [.ref 132], es)) i_41_68 rfl ?_
  refine x_getr (p := 68) (k := 117) i_41_69 hs_es rfl rfl ?_
  show aW _ _ _ _ _ _ (72, [some (.ref 132), some (.int (zI m)), some (.long w6), none, some (.long w5), none, some (.long w3), none, some (.int (zI (bk + 1))), some (.long w1), none], [.ref 117], es)
  refine x_getr (p := 53) (k := 119) i_41_72 hs_es rfl rfl ?_
  show aW _ _ _ _ _ _ (75, [some (.ref 132), some (.int (zI m)), some (.long w6), none, some (.long w5), none, some (.long w3), none, some (.int (zI (bk + 1))), some (.long w1), none], [.ref 119], es)
  refine x0 (r := (77, [some (.ref 132), some (.int (zI m)), some (.long w6), none, some (.long w5), none, some (.long w3), none, some (.int (zI (bk + 1))), some (.long w1), none], [.int (zI 6), .ref 119], es)) i_41_75 (by rfl) ?_
  refine x_call (vs := [.ref 119, .int (zI 6)]) (rs := []) i_41_77 rfl (fun _ => rfl) rfl rfl rfl rfl rfl rfl ?_
  show aW _ _ _ _ _ _ (0, [some (.ref 119), some (.int (zI 6))], [], es)
  refine x0 (r := (1, [some (.ref 119), some (.int (zI 6))], [.int (zI 6)], es)) i_28_0 rfl ?_
  refine x_ifF i_28_1 (by unfold i32 iLO iHI; omega) rfl (by simp only [zC, cR]; omega) ?_
  refine x0 (r := (5, [some (.ref 119), some (.int (zI 6))], [.int (zI 6)], es)) i_28_4 rfl ?_
  refine x0 (r := (6, [some (.ref 119), some (.int (zI 6))], [.ref 119, .int (zI 6)], es)) i_28_5 rfl ?_
  refine x_alen (p := 55) (n := 8) i_28_6 hs_es rfl ?_
  refine x_cmpF i_28_7 (by unfold i32 iLO iHI; omega) (by unfold i32 iLO iHI; omega) rfl (by simp only [zC, cR]; omega) ?_
  refine x0 (r := (11, [some (.ref 119), some (.int (zI 6))], [.ref 119], es)) i_28_10 rfl ?_
  refine x0 (r := (12, [some (.ref 119), some (.int (zI 6))], [.int (zI 6), .ref 119], es)) i_28_11 rfl ?_
  refine x_iald (p := 55) i_28_12 hs_es rfl (by unfold i32 iLO iHI; omega) (by omega) (by omega) ?_
  rw [show (gA es 55 (Int.toNat 6)).toInt = 0 from by exact (hpo _ (by omega))]
  refine x0 (r := (17, [some (.ref 119), some (.int (zI 6))], [.int (zI 0)], es)) i_28_13 rfl ?_
  refine x_ret (v := some (.int (zI 0))) i_28_17 rfl (fun _ => rfl) rfl rfl rfl ?_
  show aW _ _ _ _ _ _ (80, [some (.ref 132), some (.int (zI m)), some (.long w6), none, some (.long w5), none, some (.long w3), none, some (.int (zI (bk + 1))), some (.long w1), none], [.int (zI 0)], es)
  refine x0 (r := (82, [some (.ref 132), some (.int (zI m)), some (.long w6), none, some (.long w5), none, some (.long w3), none, some (.int (zI 0)), some (.long w1), none], [], es)) i_41_80 rfl ?_
  refine x0 (r := (83, [some (.ref 132), some (.int (zI m)), some (.long w6), none, some (.long w5), none, some (.long w3), none, some (.int (zI 0)), some (.long w1), none], [.ref 132], es)) i_41_82 rfl ?_
  refine x_getr (p := 68) (k := 117) i_41_83 hs_es rfl rfl ?_
  show aW _ _ _ _ _ _ (86, [some (.ref 132), some (.int (zI m)), some (.long w6), none, some (.long w5), none, some (.long w3), none, some (.int (zI 0)), some (.long w1), none], [.ref 117], es)
  refine x_geti (p := 53) i_41_86 hs_es rfl rfl ?_
  rw [show (gI es 53 1).toInt = (bk + 1) from by exact hq1]
  refine x0 (r := (90, [some (.ref 132), some (.int (zI m)), some (.long w6), none, some (.long w5), none, some (.long w3), none, some (.int (zI 0)), some (.long w1), none], [.ref 132, .int (zI (bk + 1))], es)) i_41_89 rfl ?_
  refine x_getr (p := 68) (k := 117) i_41_90 hs_es rfl rfl ?_
  show aW _ _ _ _ _ _ (93, [some (.ref 132), some (.int (zI m)), some (.long w6), none, some (.long w5), none, some (.long w3), none, some (.int (zI 0)), some (.long w1), none], [.ref 117, .int (zI (bk + 1))], es)
  refine x_geti (p := 53) i_41_93 hs_es rfl rfl ?_
  rw [show (gI es 53 0).toInt = bk from by exact hq0]
  refine x_isub i_41_96 ?_
  refine x0 (r := (99, [some (.ref 132), some (.int (zI m)), some (.long w6), none, some (.long w5), none, some (.long w3), none, some (.int (zI 0)), some (.long w1), none], [.int (zI 0), .int (zI ((bk + 1) - bk))], es)) i_41_97 rfl ?_
  refine x_ifT i_41_99 (by unfold i32 iLO iHI; omega) rfl (by simp only [zC, cR]; omega) ?_
  refine x0 (r := (119, [some (.ref 132), some (.int (zI m)), some (.long w6), none, some (.long w5), none, some (.long w3), none, some (.int (zI 0)), some (.long w1), none], [.int (zI 0), .int (zI ((bk + 1) - bk))], es)) i_41_118 (by rfl) ?_
  refine x_isub i_41_119 ?_
  refine x0 (r := (122, [some (.ref 132), some (.int (zI m)), some (.long w6), none, some (.long w5), none, some (.long w3), none, some (.int (zI 0)), some (.int (zI (((bk + 1) - bk) - 0))), none], [], es)) i_41_120 rfl ?_
  refine x0 (r := (124, [some (.ref 132), some (.int (zI m)), some (.long w6), none, some (.long w5), none, some (.long w3), none, some (.int (zI 0)), some (.int (zI (((bk + 1) - bk) - 0))), none], [.int (zI (((bk + 1) - bk) - 0))], es)) i_41_122 rfl ?_
  refine x_ifT i_41_124 (by unfold i32 iLO iHI; omega) rfl (by simp only [zC, cR]; omega) ?_
  refine x0 (r := (133, [some (.ref 132), some (.int (zI m)), some (.long w6), none, some (.long w5), none, some (.long w3), none, some (.int (zI 0)), some (.int (zI (((bk + 1) - bk) - 0))), none], [.int (zI (((bk + 1) - bk) - 0))], es)) i_41_131 rfl ?_
  refine x0 (r := (134, [some (.ref 132), some (.int (zI m)), some (.long w6), none, some (.long w5), none, some (.long w3), none, some (.int (zI 0)), some (.int (zI (((bk + 1) - bk) - 0))), none], [.int (zI 1), .int (zI (((bk + 1) - bk) - 0))], es)) i_41_133 (by rfl) ?_
  refine x_cmpF i_41_134 (by unfold i32 iLO iHI; omega) (by unfold i32 iLO iHI; omega) rfl (by simp only [zC, cR]; omega) ?_
  refine x0 (r := (138, [some (.ref 132), some (.int (zI m)), some (.long w6), none, some (.long w5), none, some (.long w3), none, some (.int (zI 0)), some (.int (zI (((bk + 1) - bk) - 0))), none], [.long w6], es)) i_41_137 rfl ?_
  refine x0 (r := (154, [some (.ref 132), some (.int (zI m)), some (.long w6), none, some (.long w5), none, some (.long w3), none, some (.int (zI 0)), some (.int (zI (((bk + 1) - bk) - 0))), none], [.long w6], es)) i_41_138 rfl ?_
  refine x_ret (v := some (.long w6)) i_41_154 rfl (fun _ => rfl) rfl rfl rfl ?_
  exact K1 w1 p_w1 w2 e_w2 w3 e_w3 w4 e_w4 w5 e_w5 w6 e_w6
def zerP (_ _ : Int) (_ : PH) (w : Int64) : Prop := w = Int64.ofNat 0
theorem nz_sq {O : pOut} {d kc ks : Nat} {Q : pRes → Prop} {es : PH} {m bk nb wy : Int} (hs : sh es) (hb : 0 ≤ bk ∧ bk ≤ 2) (hm : 0 ≤ m ∧ m ≤ 24) (hmn : nb ≤ m) (hn : nb ≤ 24) (hq0 : (gI es 53 0).toInt = bk) (hq1 : (gI es 53 1).toInt = (bk + 1)) (hq2 : (gI es 53 2).toInt = 0) (hpo : ∀ i, i < 8 → (gA es 55 i).toInt = 0) (hli : (gI es 68 2).toInt = 0) (hnb : (gA es 13 bk.toNat).toInt = nb) (hwy : (gA es 54 bk.toNat).toInt = wy) (hf : (gA es 70 ((m * 3) + bk).toNat).toInt = m) (hl : (gA es 71 ((m * 3) + bk).toNat).toInt = m) (hle : (gA es 72 ((m * 3) + bk).toNat).toInt = 0) (hce : (gA es 69 ((((m * 3) + bk) * 25) + m).toNat).toInt = 0) (K : ∀ w, zerP m bk es w → Q (.inl (some (.long w)), es, kc, ks)) : aW O (d + 2) 42 kc ks Q (0, [some (.ref 132), some (.int (zI m)), some (.int (zI bk)), none, none, none, none, none, none, none], [], es) := nz_sp (d := d) hs hb hm hmn hn hq0 hq1 hq2 hpo hli hnb hwy hf hl hle hce (K _ rfl)
theorem s_hz0 {O : pOut} {d kc ks : Nat} {Q : pRes → Prop} {es : PH} {m bk nb wy : Int} (hs_es : sh es) (hb : 0 ≤ bk ∧ bk ≤ 2) (hm : 0 ≤ m ∧ m ≤ 24) (hmn : nb ≤ m) (hn : nb ≤ 24) (hq0 : (gI es 53 0).toInt = bk) (hq1 : (gI es 53 1).toInt = (bk + 1)) (hq2 : (gI es 53 2).toInt = 0) (hpo : ∀ i, i < 8 → (gA es 55 i).toInt = 0) (hli : (gI es 68 2).toInt = 0) (hnb : (gA es 13 bk.toNat).toInt = nb) (hwy : (gA es 54 bk.toNat).toInt = wy) (hf : (gA es 70 ((m * 3) + bk).toNat).toInt = m) (hl : (gA es 71 ((m * 3) + bk).toNat).toInt = m) (hle : (gA es 72 ((m * 3) + bk).toNat).toInt = 0) (hce : (gA es 69 ((((m * 3) + bk) * 25) + m).toNat).toInt = 0)
    (K1 : ∀ w1 : Int64, zerP m bk es w1 → ∀ w2 : Int64, w2 = (Int64.ofNat 0) &&& w1 → ∀ w3 : Int64, w3 = (Int64.ofNat 0) ||| w2 → ∀ w4 : Int64, w4 = (Int64.ofNat 0) &&& w1 → ∀ w5 : Int64, w5 = (Int64.ofNat 0) ||| w4 → ∀ w6 : Int64, w6 = (Int64.ofNat 0) ||| w1 → Q (.inl (some (.long w6)), es, kc, ks)) :
    aW O (d + 3) 41 kc ks Q (0, [some (.ref 132), some (.int (zI m)), none, none, none, none, none, none, none, none, none], [], es) := by
  refine x0 (r := (1, [some (.ref 132), some (.int (zI m)), none, none, none, none, none, none, none, none, none], [.long (Int64.ofNat 0)], es)) i_41_0 rfl ?_
  refine x0 (r := (2, [some (.ref 132), some (.int (zI m)), some (.long (Int64.ofNat 0)), none, none, none, none, none, none, none, none], [], es)) i_41_1 rfl ?_
  refine x0 (r := (3, [some (.ref 132), some (.int (zI m)), some (.long (Int64.ofNat 0)), none, none, none, none, none, none, none, none], [.long (Int64.ofNat 0)], es)) i_41_2 rfl ?_
  refine x0 (r := (5, [some (.ref 132), some (.int (zI m)), some (.long (Int64.ofNat 0)), none, some (.long (Int64.ofNat 0)), none, none, none, none, none, none], [], es)) i_41_3 rfl ?_
  refine x0 (r := (6, [some (.ref 132), some (.int (zI m)), some (.long (Int64.ofNat 0)), none, some (.long (Int64.ofNat 0)), none, none, none, none, none, none], [.long (Int64.ofNat 0)], es)) i_41_5 rfl ?_
  refine x0 (r := (8, [some (.ref 132), some (.int (zI m)), some (.long (Int64.ofNat 0)), none, some (.long (Int64.ofNat 0)), none, some (.long (Int64.ofNat 0)), none, none, none, none], [], es)) i_41_6 rfl ?_
  refine x0 (r := (9, [some (.ref 132), some (.int (zI m)), some (.long (Int64.ofNat 0)), none, some (.long (Int64.ofNat 0)), none, some (.long (Int64.ofNat 0)), none, none, none, none], [.ref 132], es)) i_41_8 rfl ?_
  refine x_getr (p := 68) (k := 117) i_41_9 hs_es rfl rfl ?_
  show aW _ _ _ _ _ _ (12, [some (.ref 132), some (.int (zI m)), some (.long (Int64.ofNat 0)), none, some (.long (Int64.ofNat 0)), none, some (.long (Int64.ofNat 0)), none, none, none, none], [.ref 117], es)
  refine x_geti (p := 53) i_41_12 hs_es rfl rfl ?_
  rw [show (gI es 53 0).toInt = bk from by exact hq0]
  refine x0 (r := (17, [some (.ref 132), some (.int (zI m)), some (.long (Int64.ofNat 0)), none, some (.long (Int64.ofNat 0)), none, some (.long (Int64.ofNat 0)), none, some (.int (zI bk)), none, none], [], es)) i_41_15 rfl ?_
  refine x0 (r := (19, [some (.ref 132), some (.int (zI m)), some (.long (Int64.ofNat 0)), none, some (.long (Int64.ofNat 0)), none, some (.long (Int64.ofNat 0)), none, some (.int (zI bk)), none, none], [.int (zI bk)], es)) i_41_17 rfl ?_
  refine x0 (r := (20, [some (.ref 132), some (.int (zI m)), some (.long (Int64.ofNat 0)), none, some (.long (Int64.ofNat 0)), none, some (.long (Int64.ofNat 0)), none, some (.int (zI bk)), none, none], [.ref 132, .int (zI bk)], es)) i_41_19 rfl ?_
  refine x_getr (p := 68) (k := 117) i_41_20 hs_es rfl rfl ?_
  show aW _ _ _ _ _ _ (23, [some (.ref 132), some (.int (zI m)), some (.long (Int64.ofNat 0)), none, some (.long (Int64.ofNat 0)), none, some (.long (Int64.ofNat 0)), none, some (.int (zI bk)), none, none], [.ref 117, .int (zI bk)], es)
  refine x_geti (p := 53) i_41_23 hs_es rfl rfl ?_
  rw [show (gI es 53 1).toInt = (bk + 1) from by exact hq1]
  refine x_cmpF i_41_26 (by unfold i32 iLO iHI; omega) (by unfold i32 iLO iHI; omega) rfl (by simp only [zC, cR]; omega) ?_
  refine x0 (r := (30, [some (.ref 132), some (.int (zI m)), some (.long (Int64.ofNat 0)), none, some (.long (Int64.ofNat 0)), none, some (.long (Int64.ofNat 0)), none, some (.int (zI bk)), none, none], [.ref 132], es)) i_41_29 rfl ?_
  refine x0 (r := (31, [some (.ref 132), some (.int (zI m)), some (.long (Int64.ofNat 0)), none, some (.long (Int64.ofNat 0)), none, some (.long (Int64.ofNat 0)), none, some (.int (zI bk)), none, none], [.int (zI m), .ref 132], es)) i_41_30 rfl ?_
  refine x0 (r := (33, [some (.ref 132), some (.int (zI m)), some (.long (Int64.ofNat 0)), none, some (.long (Int64.ofNat 0)), none, some (.long (Int64.ofNat 0)), none, some (.int (zI bk)), none, none], [.int (zI bk), .int (zI m), .ref 132], es)) i_41_31 rfl ?_
  refine x_call (vs := [.ref 132, .int (zI m), .int (zI bk)]) (rs := []) i_41_33 rfl (fun _ => rfl) rfl rfl rfl rfl rfl (pCall_v (p := 68) hs_es rfl rfl rfl rfl rfl (by decide) rfl rfl rfl rfl rfl) ?_
  show aW _ _ _ _ _ _ (0, [some (.ref 132), some (.int (zI m)), some (.int (zI bk)), none, none, none, none, none, none, none], [], es)
  refine nz_sq hs_es hb hm hmn hn hq0 hq1 hq2 hpo hli hnb hwy hf hl hle hce (fun w1 p_w1 => ?_)
  show aW _ _ _ _ _ _ (36, [some (.ref 132), some (.int (zI m)), some (.long (Int64.ofNat 0)), none, some (.long (Int64.ofNat 0)), none, some (.long (Int64.ofNat 0)), none, some (.int (zI bk)), none, none], [.long w1], es)
  refine x0 (r := (38, [some (.ref 132), some (.int (zI m)), some (.long (Int64.ofNat 0)), none, some (.long (Int64.ofNat 0)), none, some (.long (Int64.ofNat 0)), none, some (.int (zI bk)), some (.long w1), none], [], es)) i_41_36 rfl ?_
  refine x0 (r := (40, [some (.ref 132), some (.int (zI m)), some (.long (Int64.ofNat 0)), none, some (.long (Int64.ofNat 0)), none, some (.long (Int64.ofNat 0)), none, some (.int (zI bk)), some (.long w1), none], [.long (Int64.ofNat 0)], es)) i_41_38 rfl ?_
  refine x0 (r := (42, [some (.ref 132), some (.int (zI m)), some (.long (Int64.ofNat 0)), none, some (.long (Int64.ofNat 0)), none, some (.long (Int64.ofNat 0)), none, some (.int (zI bk)), some (.long w1), none], [.long (Int64.ofNat 0), .long (Int64.ofNat 0)], es)) i_41_40 rfl ?_
  refine x0 (r := (44, [some (.ref 132), some (.int (zI m)), some (.long (Int64.ofNat 0)), none, some (.long (Int64.ofNat 0)), none, some (.long (Int64.ofNat 0)), none, some (.int (zI bk)), some (.long w1), none], [.long w1, .long (Int64.ofNat 0), .long (Int64.ofNat 0)], es)) i_41_42 rfl ?_
  refine x0 (r := (45, [some (.ref 132), some (.int (zI m)), some (.long (Int64.ofNat 0)), none, some (.long (Int64.ofNat 0)), none, some (.long (Int64.ofNat 0)), none, some (.int (zI bk)), some (.long w1), none], [.long ((Int64.ofNat 0) &&& w1), .long (Int64.ofNat 0)], es)) i_41_44 rfl ?_
  obtain ⟨w2, e_w2⟩ : ∃ z : Int64, z = (Int64.ofNat 0) &&& w1 := ⟨_, rfl⟩
  rw [← e_w2]
  refine x0 (r := (46, [some (.ref 132), some (.int (zI m)), some (.long (Int64.ofNat 0)), none, some (.long (Int64.ofNat 0)), none, some (.long (Int64.ofNat 0)), none, some (.int (zI bk)), some (.long w1), none], [.long ((Int64.ofNat 0) ||| w2)], es)) i_41_45 rfl ?_
  obtain ⟨w3, e_w3⟩ : ∃ z : Int64, z = (Int64.ofNat 0) ||| w2 := ⟨_, rfl⟩
  rw [← e_w3]
  refine x0 (r := (48, [some (.ref 132), some (.int (zI m)), some (.long (Int64.ofNat 0)), none, some (.long (Int64.ofNat 0)), none, some (.long w3), none, some (.int (zI bk)), some (.long w1), none], [], es)) i_41_46 rfl ?_
  refine x0 (r := (50, [some (.ref 132), some (.int (zI m)), some (.long (Int64.ofNat 0)), none, some (.long (Int64.ofNat 0)), none, some (.long w3), none, some (.int (zI bk)), some (.long w1), none], [.long (Int64.ofNat 0)], es)) i_41_48 rfl ?_
  refine x0 (r := (51, [some (.ref 132), some (.int (zI m)), some (.long (Int64.ofNat 0)), none, some (.long (Int64.ofNat 0)), none, some (.long w3), none, some (.int (zI bk)), some (.long w1), none], [.long (Int64.ofNat 0), .long (Int64.ofNat 0)], es)) i_41_50 rfl ?_
  refine x0 (r := (53, [some (.ref 132), some (.int (zI m)), some (.long (Int64.ofNat 0)), none, some (.long (Int64.ofNat 0)), none, some (.long w3), none, some (.int (zI bk)), some (.long w1), none], [.long w1, .long (Int64.ofNat 0), .long (Int64.ofNat 0)], es)) i_41_51 rfl ?_
  refine x0 (r := (54, [some (.ref 132), some (.int (zI m)), some (.long (Int64.ofNat 0)), none, some (.long (Int64.ofNat 0)), none, some (.long w3), none, some (.int (zI bk)), some (.long w1), none], [.long ((Int64.ofNat 0) &&& w1), .long (Int64.ofNat 0)], es)) i_41_53 rfl ?_
  obtain ⟨w4, e_w4⟩ : ∃ z : Int64, z = (Int64.ofNat 0) &&& w1 := ⟨_, rfl⟩
  rw [← e_w4]
  refine x0 (r := (55, [some (.ref 132), some (.int (zI m)), some (.long (Int64.ofNat 0)), none, some (.long (Int64.ofNat 0)), none, some (.long w3), none, some (.int (zI bk)), some (.long w1), none], [.long ((Int64.ofNat 0) ||| w4)], es)) i_41_54 rfl ?_
  obtain ⟨w5, e_w5⟩ : ∃ z : Int64, z = (Int64.ofNat 0) ||| w4 := ⟨_, rfl⟩
  rw [← e_w5]
  refine x0 (r := (57, [some (.ref 132), some (.int (zI m)), some (.long (Int64.ofNat 0)), none, some (.long w5), none, some (.long w3), none, some (.int (zI bk)), some (.long w1), none], [], es)) i_41_55 rfl ?_
  refine x0 (r := (58, [some (.ref 132), some (.int (zI m)), some (.long (Int64.ofNat 0)), none, some (.long w5), none, some (.long w3), none, some (.int (zI bk)), some (.long w1), none], [.long (Int64.ofNat 0)], es)) i_41_57 rfl ?_
  refine x0 (r := (60, [some (.ref 132), some (.int (zI m)), some (.long (Int64.ofNat 0)), none, some (.long w5), none, some (.long w3), none, some (.int (zI bk)), some (.long w1), none], [.long w1, .long (Int64.ofNat 0)], es)) i_41_58 rfl ?_
  refine x0 (r := (61, [some (.ref 132), some (.int (zI m)), some (.long (Int64.ofNat 0)), none, some (.long w5), none, some (.long w3), none, some (.int (zI bk)), some (.long w1), none], [.long ((Int64.ofNat 0) ||| w1)], es)) i_41_60 rfl ?_
  obtain ⟨w6, e_w6⟩ : ∃ z : Int64, z = (Int64.ofNat 0) ||| w1 := ⟨_, rfl⟩
  rw [← e_w6]
  refine x0 (r := (62, [some (.ref 132), some (.int (zI m)), some (.long w6), none, some (.long w5), none, some (.long w3), none, some (.int (zI bk)), some (.long w1), none], [], es)) i_41_61 rfl ?_
  refine x_iinc (x := bk) i_41_62 rfl (by show 8 < 11; decide) ?_
  show aW _ _ _ _ _ _ (65, [some (.ref 132), some (.int (zI m)), some (.long w6), none, some (.long w5), none, some (.long w3), none, some (.int (zI (bk + 1))), some (.long w1), none], [], es)
  refine x0 (r := (17, [some (.ref 132), some (.int (zI m)), some (.long w6), none, some (.long w5), none, some (.long w3), none, some (.int (zI (bk + 1))), some (.long w1), none], [], es)) i_41_65 rfl ?_
  refine x0 (r := (19, [some (.ref 132), some (.int (zI m)), some (.long w6), none, some (.long w5), none, some (.long w3), none, some (.int (zI (bk + 1))), some (.long w1), none], [.int (zI (bk + 1))], es)) i_41_17 rfl ?_
  refine x0 (r := (20, [some (.ref 132), some (.int (zI m)), some (.long w6), none, some (.long w5), none, some (.long w3), none, some (.int (zI (bk + 1))), some (.long w1), none], [.ref 132, .int (zI (bk + 1))], es)) i_41_19 rfl ?_
  refine x_getr (p := 68) (k := 117) i_41_20 hs_es rfl rfl ?_
  show aW _ _ _ _ _ _ (23, [some (.ref 132), some (.int (zI m)), some (.long w6), none, some (.long w5), none, some (.long w3), none, some (.int (zI (bk + 1))), some (.long w1), none], [.ref 117, .int (zI (bk + 1))], es)
  refine x_geti (p := 53) i_41_23 hs_es rfl rfl ?_
  rw [show (gI es 53 1).toInt = (bk + 1) from by exact hq1]
  refine x_cmpT i_41_26 (by unfold i32 iLO iHI; omega) (by unfold i32 iLO iHI; omega) rfl (by simp only [zC, cR]; omega) ?_
  refine x0 (r := (69, [some (.ref 132), some (.int (zI m)), some (.long w6), none, some (.long w5), none, some (.long w3), none, some (.int (zI (bk + 1))), some (.long w1), none], [.ref 132], es)) i_41_68 rfl ?_
  refine x_getr (p := 68) (k := 117) i_41_69 hs_es rfl rfl ?_
  show aW _ _ _ _ _ _ (72, [some (.ref 132), some (.int (zI m)), some (.long w6), none, some (.long w5), none, some (.long w3), none, some (.int (zI (bk + 1))), some (.long w1), none], [.ref 117], es)
  refine x_getr (p := 53) (k := 119) i_41_72 hs_es rfl rfl ?_
  show aW _ _ _ _ _ _ (75, [some (.ref 132), some (.int (zI m)), some (.long w6), none, some (.long w5), none, some (.long w3), none, some (.int (zI (bk + 1))), some (.long w1), none], [.ref 119], es)
  refine x0 (r := (77, [some (.ref 132), some (.int (zI m)), some (.long w6), none, some (.long w5), none, some (.long w3), none, some (.int (zI (bk + 1))), some (.long w1), none], [.int (zI 6), .ref 119], es)) i_41_75 (by rfl) ?_
  refine x_call (vs := [.ref 119, .int (zI 6)]) (rs := []) i_41_77 rfl (fun _ => rfl) rfl rfl rfl rfl rfl rfl ?_
  show aW _ _ _ _ _ _ (0, [some (.ref 119), some (.int (zI 6))], [], es)
  refine x0 (r := (1, [some (.ref 119), some (.int (zI 6))], [.int (zI 6)], es)) i_28_0 rfl ?_
  refine x_ifF i_28_1 (by unfold i32 iLO iHI; omega) rfl (by simp only [zC, cR]; omega) ?_
  refine x0 (r := (5, [some (.ref 119), some (.int (zI 6))], [.int (zI 6)], es)) i_28_4 rfl ?_
  refine x0 (r := (6, [some (.ref 119), some (.int (zI 6))], [.ref 119, .int (zI 6)], es)) i_28_5 rfl ?_
  refine x_alen (p := 55) (n := 8) i_28_6 hs_es rfl ?_
  refine x_cmpF i_28_7 (by unfold i32 iLO iHI; omega) (by unfold i32 iLO iHI; omega) rfl (by simp only [zC, cR]; omega) ?_
  refine x0 (r := (11, [some (.ref 119), some (.int (zI 6))], [.ref 119], es)) i_28_10 rfl ?_
  refine x0 (r := (12, [some (.ref 119), some (.int (zI 6))], [.int (zI 6), .ref 119], es)) i_28_11 rfl ?_
  refine x_iald (p := 55) i_28_12 hs_es rfl (by unfold i32 iLO iHI; omega) (by omega) (by omega) ?_
  rw [show (gA es 55 (Int.toNat 6)).toInt = 0 from by exact (hpo _ (by omega))]
  refine x0 (r := (17, [some (.ref 119), some (.int (zI 6))], [.int (zI 0)], es)) i_28_13 rfl ?_
  refine x_ret (v := some (.int (zI 0))) i_28_17 rfl (fun _ => rfl) rfl rfl rfl ?_
  show aW _ _ _ _ _ _ (80, [some (.ref 132), some (.int (zI m)), some (.long w6), none, some (.long w5), none, some (.long w3), none, some (.int (zI (bk + 1))), some (.long w1), none], [.int (zI 0)], es)
  refine x0 (r := (82, [some (.ref 132), some (.int (zI m)), some (.long w6), none, some (.long w5), none, some (.long w3), none, some (.int (zI 0)), some (.long w1), none], [], es)) i_41_80 rfl ?_
  refine x0 (r := (83, [some (.ref 132), some (.int (zI m)), some (.long w6), none, some (.long w5), none, some (.long w3), none, some (.int (zI 0)), some (.long w1), none], [.ref 132], es)) i_41_82 rfl ?_
  refine x_getr (p := 68) (k := 117) i_41_83 hs_es rfl rfl ?_
  show aW _ _ _ _ _ _ (86, [some (.ref 132), some (.int (zI m)), some (.long w6), none, some (.long w5), none, some (.long w3), none, some (.int (zI 0)), some (.long w1), none], [.ref 117], es)
  refine x_geti (p := 53) i_41_86 hs_es rfl rfl ?_
  rw [show (gI es 53 1).toInt = (bk + 1) from by exact hq1]
  refine x0 (r := (90, [some (.ref 132), some (.int (zI m)), some (.long w6), none, some (.long w5), none, some (.long w3), none, some (.int (zI 0)), some (.long w1), none], [.ref 132, .int (zI (bk + 1))], es)) i_41_89 rfl ?_
  refine x_getr (p := 68) (k := 117) i_41_90 hs_es rfl rfl ?_
  show aW _ _ _ _ _ _ (93, [some (.ref 132), some (.int (zI m)), some (.long w6), none, some (.long w5), none, some (.long w3), none, some (.int (zI 0)), some (.long w1), none], [.ref 117, .int (zI (bk + 1))], es)
  refine x_geti (p := 53) i_41_93 hs_es rfl rfl ?_
  rw [show (gI es 53 0).toInt = bk from by exact hq0]
  refine x_isub i_41_96 ?_
  refine x0 (r := (99, [some (.ref 132), some (.int (zI m)), some (.long w6), none, some (.long w5), none, some (.long w3), none, some (.int (zI 0)), some (.long w1), none], [.int (zI 0), .int (zI ((bk + 1) - bk))], es)) i_41_97 rfl ?_
  refine x_ifT i_41_99 (by unfold i32 iLO iHI; omega) rfl (by simp only [zC, cR]; omega) ?_
  refine x0 (r := (119, [some (.ref 132), some (.int (zI m)), some (.long w6), none, some (.long w5), none, some (.long w3), none, some (.int (zI 0)), some (.long w1), none], [.int (zI 0), .int (zI ((bk + 1) - bk))], es)) i_41_118 (by rfl) ?_
  refine x_isub i_41_119 ?_
  refine x0 (r := (122, [some (.ref 132), some (.int (zI m)), some (.long w6), none, some (.long w5), none, some (.long w3), none, some (.int (zI 0)), some (.int (zI (((bk + 1) - bk) - 0))), none], [], es)) i_41_120 rfl ?_
  refine x0 (r := (124, [some (.ref 132), some (.int (zI m)), some (.long w6), none, some (.long w5), none, some (.long w3), none, some (.int (zI 0)), some (.int (zI (((bk + 1) - bk) - 0))), none], [.int (zI (((bk + 1) - bk) - 0))], es)) i_41_122 rfl ?_
  refine x_ifT i_41_124 (by unfold i32 iLO iHI; omega) rfl (by simp only [zC, cR]; omega) ?_
  refine x0 (r := (133, [some (.ref 132), some (.int (zI m)), some (.long w6), none, some (.long w5), none, some (.long w3), none, some (.int (zI 0)), some (.int (zI (((bk + 1) - bk) - 0))), none], [.int (zI (((bk + 1) - bk) - 0))], es)) i_41_131 rfl ?_
  refine x0 (r := (134, [some (.ref 132), some (.int (zI m)), some (.long w6), none, some (.long w5), none, some (.long w3), none, some (.int (zI 0)), some (.int (zI (((bk + 1) - bk) - 0))), none], [.int (zI 1), .int (zI (((bk + 1) - bk) - 0))], es)) i_41_133 (by rfl) ?_
  refine x_cmpF i_41_134 (by unfold i32 iLO iHI; omega) (by unfold i32 iLO iHI; omega) rfl (by simp only [zC, cR]; omega) ?_
  refine x0 (r := (138, [some (.ref 132), some (.int (zI m)), some (.long w6), none, some (.long w5), none, some (.long w3), none, some (.int (zI 0)), some (.int (zI (((bk + 1) - bk) - 0))), none], [.long w6], es)) i_41_137 rfl ?_
  refine x0 (r := (154, [some (.ref 132), some (.int (zI m)), some (.long w6), none, some (.long w5), none, some (.long w3), none, some (.int (zI 0)), some (.int (zI (((bk + 1) - bk) - 0))), none], [.long w6], es)) i_41_138 rfl ?_
  refine x_ret (v := some (.long w6)) i_41_154 rfl (fun _ => rfl) rfl rfl rfl ?_
  exact K1 w1 p_w1 w2 e_w2 w3 e_w3 w4 e_w4 w5 e_w5 w6 e_w6
/-- the hopeful SQUARES behind m MOVES -/
def hopP (bk nb m : Int) (es : PH) (w : Int64) : Prop := (nb ≤ m → w = Int64.ofNat 0) ∧ (m + 1 ≤ nb → nearP m bk es w)
theorem hp_sp {O : pOut} {d kc ks : Nat} {Q : pRes → Prop} {es : PH} {m bk nb wy : Int} (hs : sh es) (hb : 0 ≤ bk ∧ bk ≤ 2) (hm : 0 ≤ m ∧ m ≤ nb) (hn : nb ≤ 24) (hq0 : (gI es 53 0).toInt = bk) (hq1 : (gI es 53 1).toInt = (bk + 1)) (hq2 : (gI es 53 2).toInt = 0) (hpo : ∀ i, i < 8 → (gA es 55 i).toInt = 0) (hli : (gI es 68 2).toInt = 0) (hnb : (gA es 13 bk.toNat).toInt = nb) (hwy : (gA es 54 bk.toNat).toInt = wy) (hf : (gA es 70 ((m * 3) + bk).toNat).toInt = m) (hl : (gA es 71 ((m * 3) + bk).toNat).toInt = m) (hle : (gA es 72 ((m * 3) + bk).toNat).toInt = 0) (hce : (gA es 69 ((((m * 3) + bk) * 25) + m).toNat).toInt = 0) (h23 : m + 1 ≤ nb → (-20 ≤ (gA es 14 ((((bk * 24) + m) * 4) + 2).toNat).toInt ∧ (gA es 14 ((((bk * 24) + m) * 4) + 2).toNat).toInt ≤ 20) ∧ (-20 ≤ (gA es 14 ((((bk * 24) + m) * 4) + 3).toNat).toInt ∧ (gA es 14 ((((bk * 24) + m) * 4) + 3).toNat).toInt ≤ 20)) (K : ∀ w, hopP bk nb m es w → Q (.inl (some (.long w)), es, kc, ks)) : aW O (d + 3) 41 kc ks Q (0, [some (.ref 132), some (.int (zI m)), none, none, none, none, none, none, none, none, none], [], es) := by
  by_cases hmn : m + 1 ≤ nb
  · have h2 := (h23 hmn).1
    have h3 := (h23 hmn).2
    have hm' : 0 ≤ m ∧ m ≤ 23 := ⟨by omega, by omega⟩
    refine s_hp0 (d := d) hs hb hm' hmn hn hq0 hq1 hq2 hpo hli hnb hwy hf hl hle hce h2 h3 (fun w1 p_w1 w2 e_w2 w3 e_w3 w4 e_w4 w5 e_w5 w6 e_w6 => K _ ⟨fun h => absurd h (by omega), fun _ t ht h4 h5 => ?_⟩)
    rw [e_w6, lbit_or, p_w1 t ht h4 h5]
    simp
  · have hm' : 0 ≤ m ∧ m ≤ 24 := ⟨by omega, by omega⟩
    refine s_hz0 (d := d) hs hb hm' (by omega) hn hq0 hq1 hq2 hpo hli hnb hwy hf hl hle hce (fun w1 p_w1 w2 e_w2 w3 e_w3 w4 e_w4 w5 e_w5 w6 e_w6 => K _ ⟨fun _ => ?_, fun h => absurd h hmn⟩)
    have z := p_w1
    unfold zerP at z
    rw [e_w6, z]
    rfl
