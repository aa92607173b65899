/-! alike of both sides; printed by wip/rel/alk.py -/
theorem i_56_0 : iRow 56 0 = some (.iload_n 1, 0, 0, 0, (some (Jvm.ClassFile.FieldType.boolean))) := rfl
theorem i_56_1 : iRow 56 1 = some (.bipush 24, 0, 0, 0, (some (Jvm.ClassFile.FieldType.boolean))) := rfl
theorem i_56_3 : iRow 56 3 = some (.imul, 0, 0, 0, (some (Jvm.ClassFile.FieldType.boolean))) := rfl
theorem i_56_4 : iRow 56 4 = some (.iload_n 2, 0, 0, 0, (some (Jvm.ClassFile.FieldType.boolean))) := rfl
theorem i_56_5 : iRow 56 5 = some (.iadd, 0, 0, 0, (some (Jvm.ClassFile.FieldType.boolean))) := rfl
theorem i_56_6 : iRow 56 6 = some (.iconst 4, 0, 0, 0, (some (Jvm.ClassFile.FieldType.boolean))) := rfl
theorem i_56_7 : iRow 56 7 = some (.imul, 0, 0, 0, (some (Jvm.ClassFile.FieldType.boolean))) := rfl
theorem i_56_8 : iRow 56 8 = some (.istore 5, 0, 0, 0, (some (Jvm.ClassFile.FieldType.boolean))) := rfl
theorem i_56_10 : iRow 56 10 = some (.iload_n 3, 0, 0, 0, (some (Jvm.ClassFile.FieldType.boolean))) := rfl
theorem i_56_11 : iRow 56 11 = some (.bipush 24, 0, 0, 0, (some (Jvm.ClassFile.FieldType.boolean))) := rfl
theorem i_56_13 : iRow 56 13 = some (.imul, 0, 0, 0, (some (Jvm.ClassFile.FieldType.boolean))) := rfl
theorem i_56_14 : iRow 56 14 = some (.iload 4, 0, 0, 0, (some (Jvm.ClassFile.FieldType.boolean))) := rfl
theorem i_56_16 : iRow 56 16 = some (.iadd, 0, 0, 0, (some (Jvm.ClassFile.FieldType.boolean))) := rfl
theorem i_56_17 : iRow 56 17 = some (.iconst 4, 0, 0, 0, (some (Jvm.ClassFile.FieldType.boolean))) := rfl
theorem i_56_18 : iRow 56 18 = some (.imul, 0, 0, 0, (some (Jvm.ClassFile.FieldType.boolean))) := rfl
theorem i_56_19 : iRow 56 19 = some (.istore 6, 0, 0, 0, (some (Jvm.ClassFile.FieldType.boolean))) := rfl
theorem i_56_21 : iRow 56 21 = some (.aload_n 0, 0, 0, 0, (some (Jvm.ClassFile.FieldType.boolean))) := rfl
theorem i_56_22 : iRow 56 22 = some (.getfield 30, 37, 1, 8, (some (Jvm.ClassFile.FieldType.boolean))) := rfl
theorem i_56_25 : iRow 56 25 = some (.iload 5, 0, 0, 0, (some (Jvm.ClassFile.FieldType.boolean))) := rfl
theorem i_56_27 : iRow 56 27 = some (.iconst 1, 0, 0, 0, (some (Jvm.ClassFile.FieldType.boolean))) := rfl
theorem i_56_28 : iRow 56 28 = some (.iadd, 0, 0, 0, (some (Jvm.ClassFile.FieldType.boolean))) := rfl
theorem i_56_29 : iRow 56 29 = some (.invokestatic 73, 11, 28, 3, (some (Jvm.ClassFile.FieldType.boolean))) := rfl
theorem i_56_32 : iRow 56 32 = some (.aload_n 0, 0, 0, 0, (some (Jvm.ClassFile.FieldType.boolean))) := rfl
theorem i_56_33 : iRow 56 33 = some (.getfield 30, 37, 1, 8, (some (Jvm.ClassFile.FieldType.boolean))) := rfl
theorem i_56_36 : iRow 56 36 = some (.iload 6, 0, 0, 0, (some (Jvm.ClassFile.FieldType.boolean))) := rfl
theorem i_56_38 : iRow 56 38 = some (.iconst 1, 0, 0, 0, (some (Jvm.ClassFile.FieldType.boolean))) := rfl
theorem i_56_39 : iRow 56 39 = some (.iadd, 0, 0, 0, (some (Jvm.ClassFile.FieldType.boolean))) := rfl
theorem i_56_40 : iRow 56 40 = some (.invokestatic 73, 11, 28, 3, (some (Jvm.ClassFile.FieldType.boolean))) := rfl
theorem i_56_43 : iRow 56 43 = some (.if_icmp .ne 19, 0, 0, 0, (some (Jvm.ClassFile.FieldType.boolean))) := rfl
theorem i_56_46 : iRow 56 46 = some (.aload_n 0, 0, 0, 0, (some (Jvm.ClassFile.FieldType.boolean))) := rfl
theorem i_56_47 : iRow 56 47 = some (.iload_n 1, 0, 0, 0, (some (Jvm.ClassFile.FieldType.boolean))) := rfl
theorem i_56_48 : iRow 56 48 = some (.iload_n 2, 0, 0, 0, (some (Jvm.ClassFile.FieldType.boolean))) := rfl
theorem i_56_49 : iRow 56 49 = some (.iload_n 3, 0, 0, 0, (some (Jvm.ClassFile.FieldType.boolean))) := rfl
theorem i_56_50 : iRow 56 50 = some (.iload 4, 0, 0, 0, (some (Jvm.ClassFile.FieldType.boolean))) := rfl
theorem i_56_52 : iRow 56 52 = some (.invokevirtual 84, 61, 57, 1, (some (Jvm.ClassFile.FieldType.boolean))) := rfl
theorem i_56_55 : iRow 56 55 = some (.ifCond .eq 7, 0, 0, 0, (some (Jvm.ClassFile.FieldType.boolean))) := rfl
theorem i_56_58 : iRow 56 58 = some (.iconst 1, 0, 0, 0, (some (Jvm.ClassFile.FieldType.boolean))) := rfl
theorem i_56_59 : iRow 56 59 = some (.goto 4, 0, 0, 0, (some (Jvm.ClassFile.FieldType.boolean))) := rfl
theorem i_56_62 : iRow 56 62 = some (.iconst 0, 0, 0, 0, (some (Jvm.ClassFile.FieldType.boolean))) := rfl
theorem i_56_63 : iRow 56 63 = some (.ireturn, 0, 0, 0, (some (Jvm.ClassFile.FieldType.boolean))) := rfl
theorem i_57_0 : iRow 57 0 = some (.iload_n 1, 0, 0, 0, (some (Jvm.ClassFile.FieldType.boolean))) := rfl
theorem i_57_1 : iRow 57 1 = some (.bipush 24, 0, 0, 0, (some (Jvm.ClassFile.FieldType.boolean))) := rfl
theorem i_57_3 : iRow 57 3 = some (.imul, 0, 0, 0, (some (Jvm.ClassFile.FieldType.boolean))) := rfl
theorem i_57_4 : iRow 57 4 = some (.iload_n 2, 0, 0, 0, (some (Jvm.ClassFile.FieldType.boolean))) := rfl
theorem i_57_5 : iRow 57 5 = some (.iadd, 0, 0, 0, (some (Jvm.ClassFile.FieldType.boolean))) := rfl
theorem i_57_6 : iRow 57 6 = some (.iconst 4, 0, 0, 0, (some (Jvm.ClassFile.FieldType.boolean))) := rfl
theorem i_57_7 : iRow 57 7 = some (.imul, 0, 0, 0, (some (Jvm.ClassFile.FieldType.boolean))) := rfl
theorem i_57_8 : iRow 57 8 = some (.istore 5, 0, 0, 0, (some (Jvm.ClassFile.FieldType.boolean))) := rfl
theorem i_57_10 : iRow 57 10 = some (.iload_n 3, 0, 0, 0, (some (Jvm.ClassFile.FieldType.boolean))) := rfl
theorem i_57_11 : iRow 57 11 = some (.bipush 24, 0, 0, 0, (some (Jvm.ClassFile.FieldType.boolean))) := rfl
theorem i_57_13 : iRow 57 13 = some (.imul, 0, 0, 0, (some (Jvm.ClassFile.FieldType.boolean))) := rfl
theorem i_57_14 : iRow 57 14 = some (.iload 4, 0, 0, 0, (some (Jvm.ClassFile.FieldType.boolean))) := rfl
theorem i_57_16 : iRow 57 16 = some (.iadd, 0, 0, 0, (some (Jvm.ClassFile.FieldType.boolean))) := rfl
theorem i_57_17 : iRow 57 17 = some (.iconst 4, 0, 0, 0, (some (Jvm.ClassFile.FieldType.boolean))) := rfl
theorem i_57_18 : iRow 57 18 = some (.imul, 0, 0, 0, (some (Jvm.ClassFile.FieldType.boolean))) := rfl
theorem i_57_19 : iRow 57 19 = some (.istore 6, 0, 0, 0, (some (Jvm.ClassFile.FieldType.boolean))) := rfl
theorem i_57_21 : iRow 57 21 = some (.aload_n 0, 0, 0, 0, (some (Jvm.ClassFile.FieldType.boolean))) := rfl
theorem i_57_22 : iRow 57 22 = some (.getfield 30, 37, 1, 8, (some (Jvm.ClassFile.FieldType.boolean))) := rfl
theorem i_57_25 : iRow 57 25 = some (.iload 5, 0, 0, 0, (some (Jvm.ClassFile.FieldType.boolean))) := rfl
theorem i_57_27 : iRow 57 27 = some (.invokestatic 73, 11, 28, 3, (some (Jvm.ClassFile.FieldType.boolean))) := rfl
theorem i_57_30 : iRow 57 30 = some (.aload_n 0, 0, 0, 0, (some (Jvm.ClassFile.FieldType.boolean))) := rfl
theorem i_57_31 : iRow 57 31 = some (.getfield 30, 37, 1, 8, (some (Jvm.ClassFile.FieldType.boolean))) := rfl
theorem i_57_34 : iRow 57 34 = some (.iload 6, 0, 0, 0, (some (Jvm.ClassFile.FieldType.boolean))) := rfl
theorem i_57_36 : iRow 57 36 = some (.invokestatic 73, 11, 28, 3, (some (Jvm.ClassFile.FieldType.boolean))) := rfl
theorem i_57_39 : iRow 57 39 = some (.if_icmp .ne 57, 0, 0, 0, (some (Jvm.ClassFile.FieldType.boolean))) := rfl
theorem i_57_42 : iRow 57 42 = some (.aload_n 0, 0, 0, 0, (some (Jvm.ClassFile.FieldType.boolean))) := rfl
theorem i_57_43 : iRow 57 43 = some (.getfield 30, 37, 1, 8, (some (Jvm.ClassFile.FieldType.boolean))) := rfl
theorem i_57_46 : iRow 57 46 = some (.iload 5, 0, 0, 0, (some (Jvm.ClassFile.FieldType.boolean))) := rfl
theorem i_57_48 : iRow 57 48 = some (.iconst 2, 0, 0, 0, (some (Jvm.ClassFile.FieldType.boolean))) := rfl
theorem i_57_49 : iRow 57 49 = some (.iadd, 0, 0, 0, (some (Jvm.ClassFile.FieldType.boolean))) := rfl
theorem i_57_50 : iRow 57 50 = some (.invokestatic 73, 11, 28, 3, (some (Jvm.ClassFile.FieldType.boolean))) := rfl
theorem i_57_53 : iRow 57 53 = some (.aload_n 0, 0, 0, 0, (some (Jvm.ClassFile.FieldType.boolean))) := rfl
theorem i_57_54 : iRow 57 54 = some (.getfield 30, 37, 1, 8, (some (Jvm.ClassFile.FieldType.boolean))) := rfl
theorem i_57_57 : iRow 57 57 = some (.iload 6, 0, 0, 0, (some (Jvm.ClassFile.FieldType.boolean))) := rfl
theorem i_57_59 : iRow 57 59 = some (.iconst 2, 0, 0, 0, (some (Jvm.ClassFile.FieldType.boolean))) := rfl
theorem i_57_60 : iRow 57 60 = some (.iadd, 0, 0, 0, (some (Jvm.ClassFile.FieldType.boolean))) := rfl
theorem i_57_61 : iRow 57 61 = some (.invokestatic 73, 11, 28, 3, (some (Jvm.ClassFile.FieldType.boolean))) := rfl
theorem i_57_64 : iRow 57 64 = some (.if_icmp .ne 32, 0, 0, 0, (some (Jvm.ClassFile.FieldType.boolean))) := rfl
theorem i_57_67 : iRow 57 67 = some (.aload_n 0, 0, 0, 0, (some (Jvm.ClassFile.FieldType.boolean))) := rfl
theorem i_57_68 : iRow 57 68 = some (.getfield 30, 37, 1, 8, (some (Jvm.ClassFile.FieldType.boolean))) := rfl
theorem i_57_71 : iRow 57 71 = some (.iload 5, 0, 0, 0, (some (Jvm.ClassFile.FieldType.boolean))) := rfl
theorem i_57_73 : iRow 57 73 = some (.iconst 3, 0, 0, 0, (some (Jvm.ClassFile.FieldType.boolean))) := rfl
theorem i_57_74 : iRow 57 74 = some (.iadd, 0, 0, 0, (some (Jvm.ClassFile.FieldType.boolean))) := rfl
theorem i_57_75 : iRow 57 75 = some (.invokestatic 73, 11, 28, 3, (some (Jvm.ClassFile.FieldType.boolean))) := rfl
theorem i_57_78 : iRow 57 78 = some (.aload_n 0, 0, 0, 0, (some (Jvm.ClassFile.FieldType.boolean))) := rfl
theorem i_57_79 : iRow 57 79 = some (.getfield 30, 37, 1, 8, (some (Jvm.ClassFile.FieldType.boolean))) := rfl
theorem i_57_82 : iRow 57 82 = some (.iload 6, 0, 0, 0, (some (Jvm.ClassFile.FieldType.boolean))) := rfl
theorem i_57_84 : iRow 57 84 = some (.iconst 3, 0, 0, 0, (some (Jvm.ClassFile.FieldType.boolean))) := rfl
theorem i_57_85 : iRow 57 85 = some (.iadd, 0, 0, 0, (some (Jvm.ClassFile.FieldType.boolean))) := rfl
theorem i_57_86 : iRow 57 86 = some (.invokestatic 73, 11, 28, 3, (some (Jvm.ClassFile.FieldType.boolean))) := rfl
theorem i_57_89 : iRow 57 89 = some (.if_icmp .ne 7, 0, 0, 0, (some (Jvm.ClassFile.FieldType.boolean))) := rfl
theorem i_57_92 : iRow 57 92 = some (.iconst 1, 0, 0, 0, (some (Jvm.ClassFile.FieldType.boolean))) := rfl
theorem i_57_93 : iRow 57 93 = some (.goto 4, 0, 0, 0, (some (Jvm.ClassFile.FieldType.boolean))) := rfl
theorem i_57_96 : iRow 57 96 = some (.iconst 0, 0, 0, 0, (some (Jvm.ClassFile.FieldType.boolean))) := rfl
theorem i_57_97 : iRow 57 97 = some (.ireturn, 0, 0, 0, (some (Jvm.ClassFile.FieldType.boolean))) := rfl
theorem i_271_0 : iRow 271 0 = some (.aload_n 0, 0, 0, 0, (some (Jvm.ClassFile.FieldType.int))) := rfl
theorem i_271_1 : iRow 271 1 = some (.iconst 0, 0, 0, 0, (some (Jvm.ClassFile.FieldType.int))) := rfl
theorem i_271_2 : iRow 271 2 = some (.putfield 3, 164, 12, 0, (some (Jvm.ClassFile.FieldType.int))) := rfl
theorem i_271_5 : iRow 271 5 = some (.aload_n 0, 0, 0, 0, (some (Jvm.ClassFile.FieldType.int))) := rfl
theorem i_271_6 : iRow 271 6 = some (.aload_n 0, 0, 0, 0, (some (Jvm.ClassFile.FieldType.int))) := rfl
theorem i_271_7 : iRow 271 7 = some (.iload_n 1, 0, 0, 0, (some (Jvm.ClassFile.FieldType.int))) := rfl
theorem i_271_8 : iRow 271 8 = some (.invokevirtual 259, 292, 203, 1, (some (Jvm.ClassFile.FieldType.int))) := rfl
theorem i_271_11 : iRow 271 11 = some (.ifCond .ne 11, 0, 0, 0, (some (Jvm.ClassFile.FieldType.int))) := rfl
theorem i_271_14 : iRow 271 14 = some (.aload_n 0, 0, 0, 0, (some (Jvm.ClassFile.FieldType.int))) := rfl
theorem i_271_15 : iRow 271 15 = some (.iload_n 2, 0, 0, 0, (some (Jvm.ClassFile.FieldType.int))) := rfl
theorem i_271_16 : iRow 271 16 = some (.invokevirtual 259, 292, 203, 1, (some (Jvm.ClassFile.FieldType.int))) := rfl
theorem i_271_19 : iRow 271 19 = some (.ifCond .eq 7, 0, 0, 0, (some (Jvm.ClassFile.FieldType.int))) := rfl
theorem i_271_22 : iRow 271 22 = some (.iconst 1, 0, 0, 0, (some (Jvm.ClassFile.FieldType.int))) := rfl
theorem i_271_23 : iRow 271 23 = some (.goto 4, 0, 0, 0, (some (Jvm.ClassFile.FieldType.int))) := rfl
theorem i_271_26 : iRow 271 26 = some (.iconst 0, 0, 0, 0, (some (Jvm.ClassFile.FieldType.int))) := rfl
theorem i_271_27 : iRow 271 27 = some (.iconst 1, 0, 0, 0, (some (Jvm.ClassFile.FieldType.int))) := rfl
theorem i_271_28 : iRow 271 28 = some (.invokevirtual 235, 283, 194, 1, (some (Jvm.ClassFile.FieldType.int))) := rfl
theorem i_271_31 : iRow 271 31 = some (.ifCond .eq 5, 0, 0, 0, (some (Jvm.ClassFile.FieldType.int))) := rfl
theorem i_271_34 : iRow 271 34 = some (.iconst 0, 0, 0, 0, (some (Jvm.ClassFile.FieldType.int))) := rfl
theorem i_271_35 : iRow 271 35 = some (.ireturn, 0, 0, 0, (some (Jvm.ClassFile.FieldType.int))) := rfl
theorem i_271_36 : iRow 271 36 = some (.bipush 25, 0, 0, 0, (some (Jvm.ClassFile.FieldType.int))) := rfl
theorem i_271_38 : iRow 271 38 = some (.istore_n 3, 0, 0, 0, (some (Jvm.ClassFile.FieldType.int))) := rfl
theorem i_271_39 : iRow 271 39 = some (.iconst 0, 0, 0, 0, (some (Jvm.ClassFile.FieldType.int))) := rfl
theorem i_271_40 : iRow 271 40 = some (.istore 4, 0, 0, 0, (some (Jvm.ClassFile.FieldType.int))) := rfl
theorem i_271_42 : iRow 271 42 = some (.iload 4, 0, 0, 0, (some (Jvm.ClassFile.FieldType.int))) := rfl
theorem i_271_44 : iRow 271 44 = some (.aload_n 0, 0, 0, 0, (some (Jvm.ClassFile.FieldType.int))) := rfl
theorem i_271_45 : iRow 271 45 = some (.iload_n 1, 0, 0, 0, (some (Jvm.ClassFile.FieldType.int))) := rfl
theorem i_271_46 : iRow 271 46 = some (.invokevirtual 251, 294, 205, 1, (some (Jvm.ClassFile.FieldType.int))) := rfl
theorem i_271_49 : iRow 271 49 = some (.if_icmp .gt 169, 0, 0, 0, (some (Jvm.ClassFile.FieldType.int))) := rfl
theorem i_271_52 : iRow 271 52 = some (.iconst 0, 0, 0, 0, (some (Jvm.ClassFile.FieldType.int))) := rfl
theorem i_271_53 : iRow 271 53 = some (.istore 5, 0, 0, 0, (some (Jvm.ClassFile.FieldType.int))) := rfl
theorem i_271_55 : iRow 271 55 = some (.iload 5, 0, 0, 0, (some (Jvm.ClassFile.FieldType.int))) := rfl
theorem i_271_57 : iRow 271 57 = some (.aload_n 0, 0, 0, 0, (some (Jvm.ClassFile.FieldType.int))) := rfl
theorem i_271_58 : iRow 271 58 = some (.iload_n 2, 0, 0, 0, (some (Jvm.ClassFile.FieldType.int))) := rfl
theorem i_271_59 : iRow 271 59 = some (.invokevirtual 251, 294, 205, 1, (some (Jvm.ClassFile.FieldType.int))) := rfl
theorem i_271_62 : iRow 271 62 = some (.if_icmp .gt 150, 0, 0, 0, (some (Jvm.ClassFile.FieldType.int))) := rfl
theorem i_271_65 : iRow 271 65 = some (.iconst 0, 0, 0, 0, (some (Jvm.ClassFile.FieldType.int))) := rfl
theorem i_271_66 : iRow 271 66 = some (.istore 6, 0, 0, 0, (some (Jvm.ClassFile.FieldType.int))) := rfl
theorem i_271_68 : iRow 271 68 = some (.iload 4, 0, 0, 0, (some (Jvm.ClassFile.FieldType.int))) := rfl
theorem i_271_70 : iRow 271 70 = some (.ifCond .le 122, 0, 0, 0, (some (Jvm.ClassFile.FieldType.int))) := rfl
theorem i_271_73 : iRow 271 73 = some (.iload 5, 0, 0, 0, (some (Jvm.ClassFile.FieldType.int))) := rfl
theorem i_271_75 : iRow 271 75 = some (.ifCond .le 117, 0, 0, 0, (some (Jvm.ClassFile.FieldType.int))) := rfl
theorem i_271_78 : iRow 271 78 = some (.iconst 1, 0, 0, 0, (some (Jvm.ClassFile.FieldType.int))) := rfl
theorem i_271_79 : iRow 271 79 = some (.istore 7, 0, 0, 0, (some (Jvm.ClassFile.FieldType.int))) := rfl
theorem i_271_81 : iRow 271 81 = some (.iconst 0, 0, 0, 0, (some (Jvm.ClassFile.FieldType.int))) := rfl
theorem i_271_82 : iRow 271 82 = some (.istore 8, 0, 0, 0, (some (Jvm.ClassFile.FieldType.int))) := rfl
theorem i_271_84 : iRow 271 84 = some (.iload 8, 0, 0, 0, (some (Jvm.ClassFile.FieldType.int))) := rfl
theorem i_271_86 : iRow 271 86 = some (.iconst 4, 0, 0, 0, (some (Jvm.ClassFile.FieldType.int))) := rfl
theorem i_271_87 : iRow 271 87 = some (.if_icmp .ge 46, 0, 0, 0, (some (Jvm.ClassFile.FieldType.int))) := rfl
theorem i_271_90 : iRow 271 90 = some (.iload 7, 0, 0, 0, (some (Jvm.ClassFile.FieldType.int))) := rfl
theorem i_271_92 : iRow 271 92 = some (.ifCond .eq 32, 0, 0, 0, (some (Jvm.ClassFile.FieldType.int))) := rfl
theorem i_271_95 : iRow 271 95 = some (.aload_n 0, 0, 0, 0, (some (Jvm.ClassFile.FieldType.int))) := rfl
theorem i_271_96 : iRow 271 96 = some (.iload_n 1, 0, 0, 0, (some (Jvm.ClassFile.FieldType.int))) := rfl
theorem i_271_97 : iRow 271 97 = some (.iload 4, 0, 0, 0, (some (Jvm.ClassFile.FieldType.int))) := rfl
theorem i_271_99 : iRow 271 99 = some (.iconst 1, 0, 0, 0, (some (Jvm.ClassFile.FieldType.int))) := rfl
theorem i_271_100 : iRow 271 100 = some (.isub, 0, 0, 0, (some (Jvm.ClassFile.FieldType.int))) := rfl
theorem i_271_101 : iRow 271 101 = some (.iload 8, 0, 0, 0, (some (Jvm.ClassFile.FieldType.int))) := rfl
theorem i_271_103 : iRow 271 103 = some (.invokevirtual 272, 300, 211, 1, (some (Jvm.ClassFile.FieldType.int))) := rfl
theorem i_271_106 : iRow 271 106 = some (.aload_n 0, 0, 0, 0, (some (Jvm.ClassFile.FieldType.int))) := rfl
theorem i_271_107 : iRow 271 107 = some (.iload_n 2, 0, 0, 0, (some (Jvm.ClassFile.FieldType.int))) := rfl
theorem i_271_108 : iRow 271 108 = some (.iload 5, 0, 0, 0, (some (Jvm.ClassFile.FieldType.int))) := rfl
theorem i_271_110 : iRow 271 110 = some (.iconst 1, 0, 0, 0, (some (Jvm.ClassFile.FieldType.int))) := rfl
theorem i_271_111 : iRow 271 111 = some (.isub, 0, 0, 0, (some (Jvm.ClassFile.FieldType.int))) := rfl
theorem i_271_112 : iRow 271 112 = some (.iload 8, 0, 0, 0, (some (Jvm.ClassFile.FieldType.int))) := rfl
theorem i_271_114 : iRow 271 114 = some (.invokevirtual 272, 300, 211, 1, (some (Jvm.ClassFile.FieldType.int))) := rfl
theorem i_271_117 : iRow 271 117 = some (.if_icmp .ne 7, 0, 0, 0, (some (Jvm.ClassFile.FieldType.int))) := rfl
theorem i_271_120 : iRow 271 120 = some (.iconst 1, 0, 0, 0, (some (Jvm.ClassFile.FieldType.int))) := rfl
theorem i_271_121 : iRow 271 121 = some (.goto 4, 0, 0, 0, (some (Jvm.ClassFile.FieldType.int))) := rfl
theorem i_271_124 : iRow 271 124 = some (.iconst 0, 0, 0, 0, (some (Jvm.ClassFile.FieldType.int))) := rfl
theorem i_271_125 : iRow 271 125 = some (.istore 7, 0, 0, 0, (some (Jvm.ClassFile.FieldType.int))) := rfl
theorem i_271_127 : iRow 271 127 = some (.iinc 8 1, 0, 0, 0, (some (Jvm.ClassFile.FieldType.int))) := rfl
theorem i_271_130 : iRow 271 130 = some (.goto (-46), 0, 0, 0, (some (Jvm.ClassFile.FieldType.int))) := rfl
theorem i_271_133 : iRow 271 133 = some (.iload 7, 0, 0, 0, (some (Jvm.ClassFile.FieldType.int))) := rfl
theorem i_271_135 : iRow 271 135 = some (.ifCond .eq 24, 0, 0, 0, (some (Jvm.ClassFile.FieldType.int))) := rfl
theorem i_271_138 : iRow 271 138 = some (.iconst 1, 0, 0, 0, (some (Jvm.ClassFile.FieldType.int))) := rfl
theorem i_271_139 : iRow 271 139 = some (.aload_n 0, 0, 0, 0, (some (Jvm.ClassFile.FieldType.int))) := rfl
theorem i_271_140 : iRow 271 140 = some (.getfield 99, 213, 12, 50, (some (Jvm.ClassFile.FieldType.int))) := rfl
theorem i_271_143 : iRow 271 143 = some (.iload_n 3, 0, 0, 0, (some (Jvm.ClassFile.FieldType.int))) := rfl
theorem i_271_144 : iRow 271 144 = some (.iload 4, 0, 0, 0, (some (Jvm.ClassFile.FieldType.int))) := rfl
theorem i_271_146 : iRow 271 146 = some (.iconst 1, 0, 0, 0, (some (Jvm.ClassFile.FieldType.int))) := rfl
theorem i_271_147 : iRow 271 147 = some (.isub, 0, 0, 0, (some (Jvm.ClassFile.FieldType.int))) := rfl
theorem i_271_148 : iRow 271 148 = some (.imul, 0, 0, 0, (some (Jvm.ClassFile.FieldType.int))) := rfl
theorem i_271_149 : iRow 271 149 = some (.iload 5, 0, 0, 0, (some (Jvm.ClassFile.FieldType.int))) := rfl
theorem i_271_151 : iRow 271 151 = some (.iadd, 0, 0, 0, (some (Jvm.ClassFile.FieldType.int))) := rfl
theorem i_271_152 : iRow 271 152 = some (.iconst 1, 0, 0, 0, (some (Jvm.ClassFile.FieldType.int))) := rfl
theorem i_271_153 : iRow 271 153 = some (.isub, 0, 0, 0, (some (Jvm.ClassFile.FieldType.int))) := rfl
theorem i_271_154 : iRow 271 154 = some (.iaload, 0, 0, 0, (some (Jvm.ClassFile.FieldType.int))) := rfl
theorem i_271_155 : iRow 271 155 = some (.iadd, 0, 0, 0, (some (Jvm.ClassFile.FieldType.int))) := rfl
theorem i_271_156 : iRow 271 156 = some (.goto 34, 0, 0, 0, (some (Jvm.ClassFile.FieldType.int))) := rfl
theorem i_271_159 : iRow 271 159 = some (.aload_n 0, 0, 0, 0, (some (Jvm.ClassFile.FieldType.int))) := rfl
theorem i_271_160 : iRow 271 160 = some (.getfield 99, 213, 12, 50, (some (Jvm.ClassFile.FieldType.int))) := rfl
theorem i_271_163 : iRow 271 163 = some (.iload_n 3, 0, 0, 0, (some (Jvm.ClassFile.FieldType.int))) := rfl
theorem i_271_164 : iRow 271 164 = some (.iload 4, 0, 0, 0, (some (Jvm.ClassFile.FieldType.int))) := rfl
theorem i_271_166 : iRow 271 166 = some (.iconst 1, 0, 0, 0, (some (Jvm.ClassFile.FieldType.int))) := rfl
theorem i_271_167 : iRow 271 167 = some (.isub, 0, 0, 0, (some (Jvm.ClassFile.FieldType.int))) := rfl
theorem i_271_168 : iRow 271 168 = some (.imul, 0, 0, 0, (some (Jvm.ClassFile.FieldType.int))) := rfl
theorem i_271_169 : iRow 271 169 = some (.iload 5, 0, 0, 0, (some (Jvm.ClassFile.FieldType.int))) := rfl
theorem i_271_171 : iRow 271 171 = some (.iadd, 0, 0, 0, (some (Jvm.ClassFile.FieldType.int))) := rfl
theorem i_271_172 : iRow 271 172 = some (.iaload, 0, 0, 0, (some (Jvm.ClassFile.FieldType.int))) := rfl
theorem i_271_173 : iRow 271 173 = some (.aload_n 0, 0, 0, 0, (some (Jvm.ClassFile.FieldType.int))) := rfl
theorem i_271_174 : iRow 271 174 = some (.getfield 99, 213, 12, 50, (some (Jvm.ClassFile.FieldType.int))) := rfl
theorem i_271_177 : iRow 271 177 = some (.iload_n 3, 0, 0, 0, (some (Jvm.ClassFile.FieldType.int))) := rfl
theorem i_271_178 : iRow 271 178 = some (.iload 4, 0, 0, 0, (some (Jvm.ClassFile.FieldType.int))) := rfl
theorem i_271_180 : iRow 271 180 = some (.imul, 0, 0, 0, (some (Jvm.ClassFile.FieldType.int))) := rfl
theorem i_271_181 : iRow 271 181 = some (.iload 5, 0, 0, 0, (some (Jvm.ClassFile.FieldType.int))) := rfl
theorem i_271_183 : iRow 271 183 = some (.iadd, 0, 0, 0, (some (Jvm.ClassFile.FieldType.int))) := rfl
theorem i_271_184 : iRow 271 184 = some (.iconst 1, 0, 0, 0, (some (Jvm.ClassFile.FieldType.int))) := rfl
theorem i_271_185 : iRow 271 185 = some (.isub, 0, 0, 0, (some (Jvm.ClassFile.FieldType.int))) := rfl
theorem i_271_186 : iRow 271 186 = some (.iaload, 0, 0, 0, (some (Jvm.ClassFile.FieldType.int))) := rfl
theorem i_271_187 : iRow 271 187 = some (.invokestatic 407, 334, 30, 0, (some (Jvm.ClassFile.FieldType.int))) := rfl
theorem i_271_190 : iRow 271 190 = some (.istore 6, 0, 0, 0, (some (Jvm.ClassFile.FieldType.int))) := rfl
theorem i_271_192 : iRow 271 192 = some (.aload_n 0, 0, 0, 0, (some (Jvm.ClassFile.FieldType.int))) := rfl
theorem i_271_193 : iRow 271 193 = some (.getfield 99, 213, 12, 50, (some (Jvm.ClassFile.FieldType.int))) := rfl
theorem i_271_196 : iRow 271 196 = some (.iload_n 3, 0, 0, 0, (some (Jvm.ClassFile.FieldType.int))) := rfl
theorem i_271_197 : iRow 271 197 = some (.iload 4, 0, 0, 0, (some (Jvm.ClassFile.FieldType.int))) := rfl
theorem i_271_199 : iRow 271 199 = some (.imul, 0, 0, 0, (some (Jvm.ClassFile.FieldType.int))) := rfl
theorem i_271_200 : iRow 271 200 = some (.iload 5, 0, 0, 0, (some (Jvm.ClassFile.FieldType.int))) := rfl
theorem i_271_202 : iRow 271 202 = some (.iadd, 0, 0, 0, (some (Jvm.ClassFile.FieldType.int))) := rfl
theorem i_271_203 : iRow 271 203 = some (.iload 6, 0, 0, 0, (some (Jvm.ClassFile.FieldType.int))) := rfl
theorem i_271_205 : iRow 271 205 = some (.iastore, 0, 0, 0, (some (Jvm.ClassFile.FieldType.int))) := rfl
theorem i_271_206 : iRow 271 206 = some (.iinc 5 1, 0, 0, 0, (some (Jvm.ClassFile.FieldType.int))) := rfl
theorem i_271_209 : iRow 271 209 = some (.goto (-154), 0, 0, 0, (some (Jvm.ClassFile.FieldType.int))) := rfl
theorem i_271_212 : iRow 271 212 = some (.iinc 4 1, 0, 0, 0, (some (Jvm.ClassFile.FieldType.int))) := rfl
theorem i_271_215 : iRow 271 215 = some (.goto (-173), 0, 0, 0, (some (Jvm.ClassFile.FieldType.int))) := rfl
theorem i_271_218 : iRow 271 218 = some (.aload_n 0, 0, 0, 0, (some (Jvm.ClassFile.FieldType.int))) := rfl
theorem i_271_219 : iRow 271 219 = some (.getfield 99, 213, 12, 50, (some (Jvm.ClassFile.FieldType.int))) := rfl
theorem i_271_222 : iRow 271 222 = some (.iload_n 3, 0, 0, 0, (some (Jvm.ClassFile.FieldType.int))) := rfl
theorem i_271_223 : iRow 271 223 = some (.aload_n 0, 0, 0, 0, (some (Jvm.ClassFile.FieldType.int))) := rfl
theorem i_271_224 : iRow 271 224 = some (.iload_n 1, 0, 0, 0, (some (Jvm.ClassFile.FieldType.int))) := rfl
theorem i_271_225 : iRow 271 225 = some (.invokevirtual 251, 294, 205, 1, (some (Jvm.ClassFile.FieldType.int))) := rfl
theorem i_271_228 : iRow 271 228 = some (.imul, 0, 0, 0, (some (Jvm.ClassFile.FieldType.int))) := rfl
theorem i_271_229 : iRow 271 229 = some (.aload_n 0, 0, 0, 0, (some (Jvm.ClassFile.FieldType.int))) := rfl
theorem i_271_230 : iRow 271 230 = some (.iload_n 2, 0, 0, 0, (some (Jvm.ClassFile.FieldType.int))) := rfl
theorem i_271_231 : iRow 271 231 = some (.invokevirtual 251, 294, 205, 1, (some (Jvm.ClassFile.FieldType.int))) := rfl
theorem i_271_234 : iRow 271 234 = some (.iadd, 0, 0, 0, (some (Jvm.ClassFile.FieldType.int))) := rfl
theorem i_271_235 : iRow 271 235 = some (.iaload, 0, 0, 0, (some (Jvm.ClassFile.FieldType.int))) := rfl
theorem i_271_236 : iRow 271 236 = some (.ireturn, 0, 0, 0, (some (Jvm.ClassFile.FieldType.int))) := rfl
theorem i_298_0 : iRow 298 0 = some (.aload_n 3, 0, 0, 0, (some (Jvm.ClassFile.FieldType.int))) := rfl
theorem i_298_1 : iRow 298 1 = some (.iconst 0, 0, 0, 0, (some (Jvm.ClassFile.FieldType.int))) := rfl
theorem i_298_2 : iRow 298 2 = some (.aload_n 0, 0, 0, 0, (some (Jvm.ClassFile.FieldType.int))) := rfl
theorem i_298_3 : iRow 298 3 = some (.iload_n 1, 0, 0, 0, (some (Jvm.ClassFile.FieldType.int))) := rfl
theorem i_298_4 : iRow 298 4 = some (.iload_n 2, 0, 0, 0, (some (Jvm.ClassFile.FieldType.int))) := rfl
theorem i_298_5 : iRow 298 5 = some (.invokevirtual 91, 244, 162, 1, (some (Jvm.ClassFile.FieldType.int))) := rfl
theorem i_298_8 : iRow 298 8 = some (.i2l, 0, 0, 0, (some (Jvm.ClassFile.FieldType.int))) := rfl
theorem i_298_9 : iRow 298 9 = some (.lastore, 0, 0, 0, (some (Jvm.ClassFile.FieldType.int))) := rfl
theorem i_298_10 : iRow 298 10 = some (.goto 7, 0, 0, 0, (some (Jvm.ClassFile.FieldType.int))) := rfl
theorem i_298_15 : iRow 298 15 = some (.iconst 1, 0, 0, 0, (some (Jvm.ClassFile.FieldType.int))) := rfl
theorem i_298_16 : iRow 298 16 = some (.ireturn, 0, 0, 0, (some (Jvm.ClassFile.FieldType.int))) := rfl
theorem i_298_17 : iRow 298 17 = some (.iconst 0, 0, 0, 0, (some (Jvm.ClassFile.FieldType.int))) := rfl
theorem i_298_18 : iRow 298 18 = some (.ireturn, 0, 0, 0, (some (Jvm.ClassFile.FieldType.int))) := rfl
/-! how many NOTES two BOOKS have in one order: the same table on both sides -/
def zLr (lk : Nat → Bool) (r : Nat → Int) : Nat → Int
  | 0 => 0
  | b + 1 => if lk b = true then 1 + r b else max (r (b + 1)) (zLr lk r b)
def zL (lk : Nat → Nat → Bool) : Nat → Nat → Int
  | 0 => fun _ => 0
  | a + 1 => zLr (lk a) (zL lk a)
theorem zL_0 {lk : Nat → Nat → Bool} : ∀ a, zL lk a 0 = 0 := by
  intro a
  cases a with
  | zero => rfl
  | succ a => rfl
theorem zLr_bd {lk : Nat → Bool} {r : Nat → Int} {A : Int} (hA : 0 ≤ A) (h : ∀ j, 0 ≤ r j ∧ r j ≤ A) : ∀ b, 0 ≤ zLr lk r b ∧ zLr lk r b ≤ A + 1 := by
  intro b
  induction b with
  | zero => exact ⟨Int.le_refl 0, by show (0 : Int) ≤ A + 1; omega⟩
  | succ b ih =>
    show 0 ≤ (if lk b = true then 1 + r b else max (r (b + 1)) (zLr lk r b)) ∧ (if lk b = true then 1 + r b else max (r (b + 1)) (zLr lk r b)) ≤ A + 1
    have h1 := h b
    have h2 := h (b + 1)
    split
    · omega
    · omega
theorem zL_bd {lk : Nat → Nat → Bool} : ∀ a b, 0 ≤ zL lk a b ∧ zL lk a b ≤ (a : Int) := by
  intro a
  induction a with
  | zero => intro b; exact ⟨Int.le_refl 0, Int.le_refl 0⟩
  | succ a ih =>
    intro b
    have h := zLr_bd (lk := lk a) (r := zL lk a) (A := (a : Int)) (by omega) ih b
    show 0 ≤ zLr (lk a) (zL lk a) b ∧ zLr (lk a) (zL lk a) b ≤ ((a + 1 : Nat) : Int)
    omega
theorem zLr_c {l1 l2 : Nat → Bool} {r1 r2 : Nat → Int} : ∀ b, (∀ j, j < b → l1 j = l2 j) → (∀ j, j ≤ b → r1 j = r2 j) → zLr l1 r1 b = zLr l2 r2 b := by
  intro b
  induction b with
  | zero => intro _ _; rfl
  | succ b ih =>
    intro h1 h2
    show (if l1 b = true then 1 + r1 b else max (r1 (b + 1)) (zLr l1 r1 b)) = (if l2 b = true then 1 + r2 b else max (r2 (b + 1)) (zLr l2 r2 b))
    rw [h1 b (by omega), h2 b (by omega), h2 (b + 1) (by omega), ih (fun j hj => h1 j (by omega)) (fun j hj => h2 j (by omega))]
theorem zL_c {l1 l2 : Nat → Nat → Bool} {A B : Nat} (h : ∀ a b, a < A → b < B → l1 a b = l2 a b) : ∀ a b, a ≤ A → b ≤ B → zL l1 a b = zL l2 a b := by
  intro a
  induction a with
  | zero => intro b _ _; rfl
  | succ a ih =>
    intro b ha hb
    show zLr (l1 a) (zL l1 a) b = zLr (l2 a) (zL l2 a) b
    exact zLr_c b (fun j hj => h a j (by omega) (by omega)) (fun j hj => ih j (by omega) (by omega))
/-- whether two NOTES of the class are alike -/
def lkC (g : Nat → Int32) (f s : Nat) (a b : Nat) : Bool := decide ((g (96 * f + 4 * a + 1)).toInt = (g (96 * s + 4 * b + 1)).toInt) && (decide ((g (96 * f + 4 * a + 0)).toInt = (g (96 * s + 4 * b + 0)).toInt) && (decide ((g (96 * f + 4 * a + 2)).toInt = (g (96 * s + 4 * b + 2)).toInt) && decide ((g (96 * f + 4 * a + 3)).toInt = (g (96 * s + 4 * b + 3)).toInt)))
def lkR (w : Nat → Int32) (f s : Nat) (a b : Nat) : Bool := decide ((w (119 + 98 * f + 2 + 4 * a + 1)).toInt = (w (119 + 98 * s + 2 + 4 * b + 1)).toInt) && (decide ((w (119 + 98 * f + 2 + 4 * a + 0)).toInt = (w (119 + 98 * s + 2 + 4 * b + 0)).toInt) && (decide ((w (119 + 98 * f + 2 + 4 * a + 2)).toInt = (w (119 + 98 * s + 2 + 4 * b + 2)).toInt) && decide ((w (119 + 98 * f + 2 + 4 * a + 3)).toInt = (w (119 + 98 * s + 2 + 4 * b + 3)).toInt)))
theorem lk_eq {g w : Nat → Int32} {f s a b : Nat} (h1 : ∀ q, q < 4 → g (96 * f + 4 * a + q) = w (119 + 98 * f + 2 + 4 * a + q)) (h2 : ∀ q, q < 4 → g (96 * s + 4 * b + q) = w (119 + 98 * s + 2 + 4 * b + q)) : lkC g f s a b = lkR w f s a b := by
  unfold lkC lkR
  rw [h1 1 (by omega), h1 0 (by omega), h1 2 (by omega), h1 3 (by omega), h2 1 (by omega), h2 0 (by omega), h2 2 (by omega), h2 3 (by omega)]
theorem s_lk {O : pOut} {d kc ks : Nat} {Q : pRes → Prop} {es : PH} {fi n se m : Int} (hs_es : sh es) (h0 : 0 ≤ fi ∧ fi ≤ 2) (h1 : 0 ≤ n ∧ n ≤ 23) (h2 : 0 ≤ se ∧ se ≤ 2) (h3 : 0 ≤ m ∧ m ≤ 23) (hT_es : hOK tT es)
    (K1 : ∀ v1 : Int, v1 = (gA es 14 ((((fi * 24) + n) * 4) + 1).toNat).toInt → ∀ v2 : Int, v2 = (gA es 14 ((((se * 24) + m) * 4) + 1).toNat).toInt → v1 ≠ v2 → Q (.inl (some (.int (zI 0))), es, kc, ks))
    (K2 : ∀ v1 : Int, v1 = (gA es 14 ((((fi * 24) + n) * 4) + 1).toNat).toInt → ∀ v2 : Int, v2 = (gA es 14 ((((se * 24) + m) * 4) + 1).toNat).toInt → ¬ (v1 ≠ v2) → ∀ v4 : Int, v4 = (gA es 14 (((fi * 24) + n) * 4).toNat).toInt → ∀ v5 : Int, v5 = (gA es 14 (((se * 24) + m) * 4).toNat).toInt → v4 ≠ v5 → Q (.inl (some (.int (zI 0))), es, kc, ks))
    (K3 : ∀ v1 : Int, v1 = (gA es 14 ((((fi * 24) + n) * 4) + 1).toNat).toInt → ∀ v2 : Int, v2 = (gA es 14 ((((se * 24) + m) * 4) + 1).toNat).toInt → ¬ (v1 ≠ v2) → ∀ v4 : Int, v4 = (gA es 14 (((fi * 24) + n) * 4).toNat).toInt → ∀ v5 : Int, v5 = (gA es 14 (((se * 24) + m) * 4).toNat).toInt → ¬ (v4 ≠ v5) → ∀ v7 : Int, v7 = (gA es 14 ((((fi * 24) + n) * 4) + 2).toNat).toInt → ∀ v8 : Int, v8 = (gA es 14 ((((se * 24) + m) * 4) + 2).toNat).toInt → v7 ≠ v8 → Q (.inl (some (.int (zI 0))), es, kc, ks))
    (K4 : ∀ v1 : Int, v1 = (gA es 14 ((((fi * 24) + n) * 4) + 1).toNat).toInt → ∀ v2 : Int, v2 = (gA es 14 ((((se * 24) + m) * 4) + 1).toNat).toInt → ¬ (v1 ≠ v2) → ∀ v4 : Int, v4 = (gA es 14 (((fi * 24) + n) * 4).toNat).toInt → ∀ v5 : Int, v5 = (gA es 14 (((se * 24) + m) * 4).toNat).toInt → ¬ (v4 ≠ v5) → ∀ v7 : Int, v7 = (gA es 14 ((((fi * 24) + n) * 4) + 2).toNat).toInt → ∀ v8 : Int, v8 = (gA es 14 ((((se * 24) + m) * 4) + 2).toNat).toInt → ¬ (v7 ≠ v8) → ∀ v10 : Int, v10 = (gA es 14 ((((fi * 24) + n) * 4) + 3).toNat).toInt → ∀ v11 : Int, v11 = (gA es 14 ((((se * 24) + m) * 4) + 3).toNat).toInt → v10 ≠ v11 → Q (.inl (some (.int (zI 0))), es, kc, ks))
    (K5 : ∀ v1 : Int, v1 = (gA es 14 ((((fi * 24) + n) * 4) + 1).toNat).toInt → ∀ v2 : Int, v2 = (gA es 14 ((((se * 24) + m) * 4) + 1).toNat).toInt → ¬ (v1 ≠ v2) → ∀ v4 : Int, v4 = (gA es 14 (((fi * 24) + n) * 4).toNat).toInt → ∀ v5 : Int, v5 = (gA es 14 (((se * 24) + m) * 4).toNat).toInt → ¬ (v4 ≠ v5) → ∀ v7 : Int, v7 = (gA es 14 ((((fi * 24) + n) * 4) + 2).toNat).toInt → ∀ v8 : Int, v8 = (gA es 14 ((((se * 24) + m) * 4) + 2).toNat).toInt → ¬ (v7 ≠ v8) → ∀ v10 : Int, v10 = (gA es 14 ((((fi * 24) + n) * 4) + 3).toNat).toInt → ∀ v11 : Int, v11 = (gA es 14 ((((se * 24) + m) * 4) + 3).toNat).toInt → ¬ (v10 ≠ v11) → Q (.inl (some (.int (zI 1))), es, kc, ks)) :
    aW O (d + 2) 56 kc ks Q (0, [some (.ref 71), some (.int (zI fi)), some (.int (zI n)), some (.int (zI se)), some (.int (zI m)), none, none], [], es) := by
  refine x0 (r := (1, [some (.ref 71), some (.int (zI fi)), some (.int (zI n)), some (.int (zI se)), some (.int (zI m)), none, none], [.int (zI fi)], es)) i_56_0 rfl ?_
  refine x0 (r := (3, [some (.ref 71), some (.int (zI fi)), some (.int (zI n)), some (.int (zI se)), some (.int (zI m)), none, none], [.int (zI 24), .int (zI fi)], es)) i_56_1 (by rfl) ?_
  refine x_imul i_56_3 ?_
  refine x0 (r := (5, [some (.ref 71), some (.int (zI fi)), some (.int (zI n)), some (.int (zI se)), some (.int (zI m)), none, none], [.int (zI n), .int (zI (fi * 24))], es)) i_56_4 rfl ?_
  refine x_iadd i_56_5 ?_
  refine x0 (r := (7, [some (.ref 71), some (.int (zI fi)), some (.int (zI n)), some (.int (zI se)), some (.int (zI m)), none, none], [.int (zI 4), .int (zI ((fi * 24) + n))], es)) i_56_6 (by rfl) ?_
  refine x_imul i_56_7 ?_
  refine x0 (r := (10, [some (.ref 71), some (.int (zI fi)), some (.int (zI n)), some (.int (zI se)), some (.int (zI m)), some (.int (zI (((fi * 24) + n) * 4))), none], [], es)) i_56_8 rfl ?_
  refine x0 (r := (11, [some (.ref 71), some (.int (zI fi)), some (.int (zI n)), some (.int (zI se)), some (.int (zI m)), some (.int (zI (((fi * 24) + n) * 4))), none], [.int (zI se)], es)) i_56_10 rfl ?_
  refine x0 (r := (13, [some (.ref 71), some (.int (zI fi)), some (.int (zI n)), some (.int (zI se)), some (.int (zI m)), some (.int (zI (((fi * 24) + n) * 4))), none], [.int (zI 24), .int (zI se)], es)) i_56_11 (by rfl) ?_
  refine x_imul i_56_13 ?_
  refine x0 (r := (16, [some (.ref 71), some (.int (zI fi)), some (.int (zI n)), some (.int (zI se)), some (.int (zI m)), some (.int (zI (((fi * 24) + n) * 4))), none], [.int (zI m), .int (zI (se * 24))], es)) i_56_14 rfl ?_
  refine x_iadd i_56_16 ?_
  refine x0 (r := (18, [some (.ref 71), some (.int (zI fi)), some (.int (zI n)), some (.int (zI se)), some (.int (zI m)), some (.int (zI (((fi * 24) + n) * 4))), none], [.int (zI 4), .int (zI ((se * 24) + m))], es)) i_56_17 (by rfl) ?_
  refine x_imul i_56_18 ?_
  refine x0 (r := (21, [some (.ref 71), some (.int (zI fi)), some (.int (zI n)), some (.int (zI se)), some (.int (zI m)), some (.int (zI (((fi * 24) + n) * 4))), some (.int (zI (((se * 24) + m) * 4)))], [], es)) i_56_19 rfl ?_
  refine x0 (r := (22, [some (.ref 71), some (.int (zI fi)), some (.int (zI n)), some (.int (zI se)), some (.int (zI m)), some (.int (zI (((fi * 24) + n) * 4))), some (.int (zI (((se * 24) + m) * 4)))], [.ref 71], es)) i_56_21 rfl ?_
  refine x_getr (p := 7) (k := 78) i_56_22 hs_es rfl rfl ?_
  show aW _ _ _ _ _ _ (25, [some (.ref 71), some (.int (zI fi)), some (.int (zI n)), some (.int (zI se)), some (.int (zI m)), some (.int (zI (((fi * 24) + n) * 4))), some (.int (zI (((se * 24) + m) * 4)))], [.ref 78], es)
  refine x0 (r := (27, [some (.ref 71), some (.int (zI fi)), some (.int (zI n)), some (.int (zI se)), some (.int (zI m)), some (.int (zI (((fi * 24) + n) * 4))), some (.int (zI (((se * 24) + m) * 4)))], [.int (zI (((fi * 24) + n) * 4)), .ref 78], es)) i_56_25 rfl ?_
  refine x0 (r := (28, [some (.ref 71), some (.int (zI fi)), some (.int (zI n)), some (.int (zI se)), some (.int (zI m)), some (.int (zI (((fi * 24) + n) * 4))), some (.int (zI (((se * 24) + m) * 4)))], [.int (zI 1), .int (zI (((fi * 24) + n) * 4)), .ref 78], es)) i_56_27 (by rfl) ?_
  refine x_iadd i_56_28 ?_
  refine x_call (vs := [.ref 78, .int (zI ((((fi * 24) + n) * 4) + 1))]) (rs := []) i_56_29 rfl (fun _ => rfl) rfl rfl rfl rfl rfl rfl ?_
  show aW _ _ _ _ _ _ (0, [some (.ref 78), some (.int (zI ((((fi * 24) + n) * 4) + 1)))], [], es)
  refine x0 (r := (1, [some (.ref 78), some (.int (zI ((((fi * 24) + n) * 4) + 1)))], [.int (zI ((((fi * 24) + n) * 4) + 1))], es)) i_28_0 rfl ?_
  refine x_ifF i_28_1 (by unfold i32 iLO iHI; omega) rfl (by simp only [zC, cR]; omega) ?_
  refine x0 (r := (5, [some (.ref 78), some (.int (zI ((((fi * 24) + n) * 4) + 1)))], [.int (zI ((((fi * 24) + n) * 4) + 1))], es)) i_28_4 rfl ?_
  refine x0 (r := (6, [some (.ref 78), some (.int (zI ((((fi * 24) + n) * 4) + 1)))], [.ref 78, .int (zI ((((fi * 24) + n) * 4) + 1))], es)) i_28_5 rfl ?_
  refine x_alen (p := 14) (n := 288) i_28_6 hs_es rfl ?_
  refine x_cmpF i_28_7 (by unfold i32 iLO iHI; omega) (by unfold i32 iLO iHI; omega) rfl (by simp only [zC, cR]; omega) ?_
  refine x0 (r := (11, [some (.ref 78), some (.int (zI ((((fi * 24) + n) * 4) + 1)))], [.ref 78], es)) i_28_10 rfl ?_
  refine x0 (r := (12, [some (.ref 78), some (.int (zI ((((fi * 24) + n) * 4) + 1)))], [.int (zI ((((fi * 24) + n) * 4) + 1)), .ref 78], es)) i_28_11 rfl ?_
  refine x_iald (p := 14) i_28_12 hs_es rfl (by unfold i32 iLO iHI; omega) (by omega) (by omega) ?_
  obtain ⟨v1, e_v1⟩ : ∃ z : Int, z = (gA es 14 ((((fi * 24) + n) * 4) + 1).toNat).toInt := ⟨_, rfl⟩
  rw [← e_v1]
  have r_v1 : iLO ≤ v1 ∧ v1 ≤ iHI := by rw [e_v1]; exact i32_rng _
  unfold iLO iHI at r_v1
  refine x0 (r := (17, [some (.ref 78), some (.int (zI ((((fi * 24) + n) * 4) + 1)))], [.int (zI v1)], es)) i_28_13 rfl ?_
  refine x_ret (v := some (.int (zI v1))) i_28_17 rfl (fun _ => rfl) rfl rfl rfl ?_
  show aW _ _ _ _ _ _ (32, [some (.ref 71), some (.int (zI fi)), some (.int (zI n)), some (.int (zI se)), some (.int (zI m)), some (.int (zI (((fi * 24) + n) * 4))), some (.int (zI (((se * 24) + m) * 4)))], [.int (zI v1)], es)
  refine x0 (r := (33, [some (.ref 71), some (.int (zI fi)), some (.int (zI n)), some (.int (zI se)), some (.int (zI m)), some (.int (zI (((fi * 24) + n) * 4))), some (.int (zI (((se * 24) + m) * 4)))], [.ref 71, .int (zI v1)], es)) i_56_32 rfl ?_
  refine x_getr (p := 7) (k := 78) i_56_33 hs_es rfl rfl ?_
  show aW _ _ _ _ _ _ (36, [some (.ref 71), some (.int (zI fi)), some (.int (zI n)), some (.int (zI se)), some (.int (zI m)), some (.int (zI (((fi * 24) + n) * 4))), some (.int (zI (((se * 24) + m) * 4)))], [.ref 78, .int (zI v1)], es)
  refine x0 (r := (38, [some (.ref 71), some (.int (zI fi)), some (.int (zI n)), some (.int (zI se)), some (.int (zI m)), some (.int (zI (((fi * 24) + n) * 4))), some (.int (zI (((se * 24) + m) * 4)))], [.int (zI (((se * 24) + m) * 4)), .ref 78, .int (zI v1)], es)) i_56_36 rfl ?_
  refine x0 (r := (39, [some (.ref 71), some (.int (zI fi)), some (.int (zI n)), some (.int (zI se)), some (.int (zI m)), some (.int (zI (((fi * 24) + n) * 4))), some (.int (zI (((se * 24) + m) * 4)))], [.int (zI 1), .int (zI (((se * 24) + m) * 4)), .ref 78, .int (zI v1)], es)) i_56_38 (by rfl) ?_
  refine x_iadd i_56_39 ?_
  refine x_call (vs := [.ref 78, .int (zI ((((se * 24) + m) * 4) + 1))]) (rs := [.int (zI v1)]) i_56_40 rfl (fun _ => rfl) rfl rfl rfl rfl rfl rfl ?_
  show aW _ _ _ _ _ _ (0, [some (.ref 78), some (.int (zI ((((se * 24) + m) * 4) + 1)))], [], es)
  refine x0 (r := (1, [some (.ref 78), some (.int (zI ((((se * 24) + m) * 4) + 1)))], [.int (zI ((((se * 24) + m) * 4) + 1))], es)) i_28_0 rfl ?_
  refine x_ifF i_28_1 (by unfold i32 iLO iHI; omega) rfl (by simp only [zC, cR]; omega) ?_
  refine x0 (r := (5, [some (.ref 78), some (.int (zI ((((se * 24) + m) * 4) + 1)))], [.int (zI ((((se * 24) + m) * 4) + 1))], es)) i_28_4 rfl ?_
  refine x0 (r := (6, [some (.ref 78), some (.int (zI ((((se * 24) + m) * 4) + 1)))], [.ref 78, .int (zI ((((se * 24) + m) * 4) + 1))], es)) i_28_5 rfl ?_
  refine x_alen (p := 14) (n := 288) i_28_6 hs_es rfl ?_
  refine x_cmpF i_28_7 (by unfold i32 iLO iHI; omega) (by unfold i32 iLO iHI; omega) rfl (by simp only [zC, cR]; omega) ?_
  refine x0 (r := (11, [some (.ref 78), some (.int (zI ((((se * 24) + m) * 4) + 1)))], [.ref 78], es)) i_28_10 rfl ?_
  refine x0 (r := (12, [some (.ref 78), some (.int (zI ((((se * 24) + m) * 4) + 1)))], [.int (zI ((((se * 24) + m) * 4) + 1)), .ref 78], es)) i_28_11 rfl ?_
  refine x_iald (p := 14) i_28_12 hs_es rfl (by unfold i32 iLO iHI; omega) (by omega) (by omega) ?_
  obtain ⟨v2, e_v2⟩ : ∃ z : Int, z = (gA es 14 ((((se * 24) + m) * 4) + 1).toNat).toInt := ⟨_, rfl⟩
  rw [← e_v2]
  have r_v2 : iLO ≤ v2 ∧ v2 ≤ iHI := by rw [e_v2]; exact i32_rng _
  unfold iLO iHI at r_v2
  refine x0 (r := (17, [some (.ref 78), some (.int (zI ((((se * 24) + m) * 4) + 1)))], [.int (zI v2)], es)) i_28_13 rfl ?_
  refine x_ret (v := some (.int (zI v2))) i_28_17 rfl (fun _ => rfl) rfl rfl rfl ?_
  show aW _ _ _ _ _ _ (43, [some (.ref 71), some (.int (zI fi)), some (.int (zI n)), some (.int (zI se)), some (.int (zI m)), some (.int (zI (((fi * 24) + n) * 4))), some (.int (zI (((se * 24) + m) * 4)))], [.int (zI v2), .int (zI v1)], es)
  by_cases c3 : v1 ≠ v2
  · refine x_cmpT i_56_43 (by unfold i32 iLO iHI; omega) (by unfold i32 iLO iHI; omega) rfl (by simp only [zC, cR]; omega) ?_
    refine x0 (r := (63, [some (.ref 71), some (.int (zI fi)), some (.int (zI n)), some (.int (zI se)), some (.int (zI m)), some (.int (zI (((fi * 24) + n) * 4))), some (.int (zI (((se * 24) + m) * 4)))], [.int (zI 0)], es)) i_56_62 (by rfl) ?_
    refine x_ret (v := some (.int (zI 0))) i_56_63 rfl (fun _ => rfl) rfl rfl (pFin_b (by omega)) ?_
    exact K1 v1 e_v1 v2 e_v2 c3
  · refine x_cmpF i_56_43 (by unfold i32 iLO iHI; omega) (by unfold i32 iLO iHI; omega) rfl (by simp only [zC, cR]; omega) ?_
    refine x0 (r := (47, [some (.ref 71), some (.int (zI fi)), some (.int (zI n)), some (.int (zI se)), some (.int (zI m)), some (.int (zI (((fi * 24) + n) * 4))), some (.int (zI (((se * 24) + m) * 4)))], [.ref 71], es)) i_56_46 rfl ?_
    refine x0 (r := (48, [some (.ref 71), some (.int (zI fi)), some (.int (zI n)), some (.int (zI se)), some (.int (zI m)), some (.int (zI (((fi * 24) + n) * 4))), some (.int (zI (((se * 24) + m) * 4)))], [.int (zI fi), .ref 71], es)) i_56_47 rfl ?_
    refine x0 (r := (49, [some (.ref 71), some (.int (zI fi)), some (.int (zI n)), some (.int (zI se)), some (.int (zI m)), some (.int (zI (((fi * 24) + n) * 4))), some (.int (zI (((se * 24) + m) * 4)))], [.int (zI n), .int (zI fi), .ref 71], es)) i_56_48 rfl ?_
    refine x0 (r := (50, [some (.ref 71), some (.int (zI fi)), some (.int (zI n)), some (.int (zI se)), some (.int (zI m)), some (.int (zI (((fi * 24) + n) * 4))), some (.int (zI (((se * 24) + m) * 4)))], [.int (zI se), .int (zI n), .int (zI fi), .ref 71], es)) i_56_49 rfl ?_
    refine x0 (r := (52, [some (.ref 71), some (.int (zI fi)), some (.int (zI n)), some (.int (zI se)), some (.int (zI m)), some (.int (zI (((fi * 24) + n) * 4))), some (.int (zI (((se * 24) + m) * 4)))], [.int (zI m), .int (zI se), .int (zI n), .int (zI fi), .ref 71], es)) i_56_50 rfl ?_
    refine x_call (vs := [.ref 71, .int (zI fi), .int (zI n), .int (zI se), .int (zI m)]) (rs := []) i_56_52 rfl (fun _ => rfl) rfl rfl rfl rfl rfl (pCall_v (p := 7) hs_es rfl rfl rfl rfl rfl (by decide) rfl rfl rfl rfl rfl) ?_
    show aW _ _ _ _ _ _ (0, [some (.ref 71), some (.int (zI fi)), some (.int (zI n)), some (.int (zI se)), some (.int (zI m)), none, none], [], es)
    refine x0 (r := (1, [some (.ref 71), some (.int (zI fi)), some (.int (zI n)), some (.int (zI se)), some (.int (zI m)), none, none], [.int (zI fi)], es)) i_57_0 rfl ?_
    refine x0 (r := (3, [some (.ref 71), some (.int (zI fi)), some (.int (zI n)), some (.int (zI se)), some (.int (zI m)), none, none], [.int (zI 24), .int (zI fi)], es)) i_57_1 (by rfl) ?_
    refine x_imul i_57_3 ?_
    refine x0 (r := (5, [some (.ref 71), some (.int (zI fi)), some (.int (zI n)), some (.int (zI se)), some (.int (zI m)), none, none], [.int (zI n), .int (zI (fi * 24))], es)) i_57_4 rfl ?_
    refine x_iadd i_57_5 ?_
    refine x0 (r := (7, [some (.ref 71), some (.int (zI fi)), some (.int (zI n)), some (.int (zI se)), some (.int (zI m)), none, none], [.int (zI 4), .int (zI ((fi * 24) + n))], es)) i_57_6 (by rfl) ?_
    refine x_imul i_57_7 ?_
    refine x0 (r := (10, [some (.ref 71), some (.int (zI fi)), some (.int (zI n)), some (.int (zI se)), some (.int (zI m)), some (.int (zI (((fi * 24) + n) * 4))), none], [], es)) i_57_8 rfl ?_
    refine x0 (r := (11, [some (.ref 71), some (.int (zI fi)), some (.int (zI n)), some (.int (zI se)), some (.int (zI m)), some (.int (zI (((fi * 24) + n) * 4))), none], [.int (zI se)], es)) i_57_10 rfl ?_
    refine x0 (r := (13, [some (.ref 71), some (.int (zI fi)), some (.int (zI n)), some (.int (zI se)), some (.int (zI m)), some (.int (zI (((fi * 24) + n) * 4))), none], [.int (zI 24), .int (zI se)], es)) i_57_11 (by rfl) ?_
    refine x_imul i_57_13 ?_
    refine x0 (r := (16, [some (.ref 71), some (.int (zI fi)), some (.int (zI n)), some (.int (zI se)), some (.int (zI m)), some (.int (zI (((fi * 24) + n) * 4))), none], [.int (zI m), .int (zI (se * 24))], es)) i_57_14 rfl ?_
    refine x_iadd i_57_16 ?_
    refine x0 (r := (18, [some (.ref 71), some (.int (zI fi)), some (.int (zI n)), some (.int (zI se)), some (.int (zI m)), some (.int (zI (((fi * 24) + n) * 4))), none], [.int (zI 4), .int (zI ((se * 24) + m))], es)) i_57_17 (by rfl) ?_
    refine x_imul i_57_18 ?_
    refine x0 (r := (21, [some (.ref 71), some (.int (zI fi)), some (.int (zI n)), some (.int (zI se)), some (.int (zI m)), some (.int (zI (((fi * 24) + n) * 4))), some (.int (zI (((se * 24) + m) * 4)))], [], es)) i_57_19 rfl ?_
    refine x0 (r := (22, [some (.ref 71), some (.int (zI fi)), some (.int (zI n)), some (.int (zI se)), some (.int (zI m)), some (.int (zI (((fi * 24) + n) * 4))), some (.int (zI (((se * 24) + m) * 4)))], [.ref 71], es)) i_57_21 rfl ?_
    refine x_getr (p := 7) (k := 78) i_57_22 hs_es rfl rfl ?_
    show aW _ _ _ _ _ _ (25, [some (.ref 71), some (.int (zI fi)), some (.int (zI n)), some (.int (zI se)), some (.int (zI m)), some (.int (zI (((fi * 24) + n) * 4))), some (.int (zI (((se * 24) + m) * 4)))], [.ref 78], es)
    refine x0 (r := (27, [some (.ref 71), some (.int (zI fi)), some (.int (zI n)), some (.int (zI se)), some (.int (zI m)), some (.int (zI (((fi * 24) + n) * 4))), some (.int (zI (((se * 24) + m) * 4)))], [.int (zI (((fi * 24) + n) * 4)), .ref 78], es)) i_57_25 rfl ?_
    refine x_call (vs := [.ref 78, .int (zI (((fi * 24) + n) * 4))]) (rs := []) i_57_27 rfl (fun _ => rfl) rfl rfl rfl rfl rfl rfl ?_
    show aW _ _ _ _ _ _ (0, [some (.ref 78), some (.int (zI (((fi * 24) + n) * 4)))], [], es)
    refine x0 (r := (1, [some (.ref 78), some (.int (zI (((fi * 24) + n) * 4)))], [.int (zI (((fi * 24) + n) * 4))], es)) i_28_0 rfl ?_
    refine x_ifF i_28_1 (by unfold i32 iLO iHI; omega) rfl (by simp only [zC, cR]; omega) ?_
    refine x0 (r := (5, [some (.ref 78), some (.int (zI (((fi * 24) + n) * 4)))], [.int (zI (((fi * 24) + n) * 4))], es)) i_28_4 rfl ?_
    refine x0 (r := (6, [some (.ref 78), some (.int (zI (((fi * 24) + n) * 4)))], [.ref 78, .int (zI (((fi * 24) + n) * 4))], es)) i_28_5 rfl ?_
    refine x_alen (p := 14) (n := 288) i_28_6 hs_es rfl ?_
    refine x_cmpF i_28_7 (by unfold i32 iLO iHI; omega) (by unfold i32 iLO iHI; omega) rfl (by simp only [zC, cR]; omega) ?_
    refine x0 (r := (11, [some (.ref 78), some (.int (zI (((fi * 24) + n) * 4)))], [.ref 78], es)) i_28_10 rfl ?_
    refine x0 (r := (12, [some (.ref 78), some (.int (zI (((fi * 24) + n) * 4)))], [.int (zI (((fi * 24) + n) * 4)), .ref 78], es)) i_28_11 rfl ?_
    refine x_iald (p := 14) i_28_12 hs_es rfl (by unfold i32 iLO iHI; omega) (by omega) (by omega) ?_
    obtain ⟨v4, e_v4⟩ : ∃ z : Int, z = (gA es 14 (((fi * 24) + n) * 4).toNat).toInt := ⟨_, rfl⟩
    rw [← e_v4]
    have r_v4 : iLO ≤ v4 ∧ v4 ≤ iHI := by rw [e_v4]; exact i32_rng _
    unfold iLO iHI at r_v4
    refine x0 (r := (17, [some (.ref 78), some (.int (zI (((fi * 24) + n) * 4)))], [.int (zI v4)], es)) i_28_13 rfl ?_
    refine x_ret (v := some (.int (zI v4))) i_28_17 rfl (fun _ => rfl) rfl rfl rfl ?_
    show aW _ _ _ _ _ _ (30, [some (.ref 71), some (.int (zI fi)), some (.int (zI n)), some (.int (zI se)), some (.int (zI m)), some (.int (zI (((fi * 24) + n) * 4))), some (.int (zI (((se * 24) + m) * 4)))], [.int (zI v4)], es)
    refine x0 (r := (31, [some (.ref 71), some (.int (zI fi)), some (.int (zI n)), some (.int (zI se)), some (.int (zI m)), some (.int (zI (((fi * 24) + n) * 4))), some (.int (zI (((se * 24) + m) * 4)))], [.ref 71, .int (zI v4)], es)) i_57_30 rfl ?_
    refine x_getr (p := 7) (k := 78) i_57_31 hs_es rfl rfl ?_
    show aW _ _ _ _ _ _ (34, [some (.ref 71), some (.int (zI fi)), some (.int (zI n)), some (.int (zI se)), some (.int (zI m)), some (.int (zI (((fi * 24) + n) * 4))), some (.int (zI (((se * 24) + m) * 4)))], [.ref 78, .int (zI v4)], es)
    refine x0 (r := (36, [some (.ref 71), some (.int (zI fi)), some (.int (zI n)), some (.int (zI se)), some (.int (zI m)), some (.int (zI (((fi * 24) + n) * 4))), some (.int (zI (((se * 24) + m) * 4)))], [.int (zI (((se * 24) + m) * 4)), .ref 78, .int (zI v4)], es)) i_57_34 rfl ?_
    refine x_call (vs := [.ref 78, .int (zI (((se * 24) + m) * 4))]) (rs := [.int (zI v4)]) i_57_36 rfl (fun _ => rfl) rfl rfl rfl rfl rfl rfl ?_
    show aW _ _ _ _ _ _ (0, [some (.ref 78), some (.int (zI (((se * 24) + m) * 4)))], [], es)
    refine x0 (r := (1, [some (.ref 78), some (.int (zI (((se * 24) + m) * 4)))], [.int (zI (((se * 24) + m) * 4))], es)) i_28_0 rfl ?_
    refine x_ifF i_28_1 (by unfold i32 iLO iHI; omega) rfl (by simp only [zC, cR]; omega) ?_
    refine x0 (r := (5, [some (.ref 78), some (.int (zI (((se * 24) + m) * 4)))], [.int (zI (((se * 24) + m) * 4))], es)) i_28_4 rfl ?_
    refine x0 (r := (6, [some (.ref 78), some (.int (zI (((se * 24) + m) * 4)))], [.ref 78, .int (zI (((se * 24) + m) * 4))], es)) i_28_5 rfl ?_
    refine x_alen (p := 14) (n := 288) i_28_6 hs_es rfl ?_
    refine x_cmpF i_28_7 (by unfold i32 iLO iHI; omega) (by unfold i32 iLO iHI; omega) rfl (by simp only [zC, cR]; omega) ?_
    refine x0 (r := (11, [some (.ref 78), some (.int (zI (((se * 24) + m) * 4)))], [.ref 78], es)) i_28_10 rfl ?_
    refine x0 (r := (12, [some (.ref 78), some (.int (zI (((se * 24) + m) * 4)))], [.int (zI (((se * 24) + m) * 4)), .ref 78], es)) i_28_11 rfl ?_
    refine x_iald (p := 14) i_28_12 hs_es rfl (by unfold i32 iLO iHI; omega) (by omega) (by omega) ?_
    obtain ⟨v5, e_v5⟩ : ∃ z : Int, z = (gA es 14 (((se * 24) + m) * 4).toNat).toInt := ⟨_, rfl⟩
    rw [← e_v5]
    have r_v5 : iLO ≤ v5 ∧ v5 ≤ iHI := by rw [e_v5]; exact i32_rng _
    unfold iLO iHI at r_v5
    refine x0 (r := (17, [some (.ref 78), some (.int (zI (((se * 24) + m) * 4)))], [.int (zI v5)], es)) i_28_13 rfl ?_
    refine x_ret (v := some (.int (zI v5))) i_28_17 rfl (fun _ => rfl) rfl rfl rfl ?_
    show aW _ _ _ _ _ _ (39, [some (.ref 71), some (.int (zI fi)), some (.int (zI n)), some (.int (zI se)), some (.int (zI m)), some (.int (zI (((fi * 24) + n) * 4))), some (.int (zI (((se * 24) + m) * 4)))], [.int (zI v5), .int (zI v4)], es)
    by_cases c6 : v4 ≠ v5
    · refine x_cmpT i_57_39 (by unfold i32 iLO iHI; omega) (by unfold i32 iLO iHI; omega) rfl (by simp only [zC, cR]; omega) ?_
      refine x0 (r := (97, [some (.ref 71), some (.int (zI fi)), some (.int (zI n)), some (.int (zI se)), some (.int (zI m)), some (.int (zI (((fi * 24) + n) * 4))), some (.int (zI (((se * 24) + m) * 4)))], [.int (zI 0)], es)) i_57_96 (by rfl) ?_
      refine x_ret (v := some (.int (zI 0))) i_57_97 rfl (fun _ => rfl) rfl rfl (pFin_b (by omega)) ?_
      show aW _ _ _ _ _ _ (55, [some (.ref 71), some (.int (zI fi)), some (.int (zI n)), some (.int (zI se)), some (.int (zI m)), some (.int (zI (((fi * 24) + n) * 4))), some (.int (zI (((se * 24) + m) * 4)))], [.int (zI 0)], es)
      refine x_ifT i_56_55 (by unfold i32 iLO iHI; omega) rfl (by simp only [zC, cR]; omega) ?_
      refine x0 (r := (63, [some (.ref 71), some (.int (zI fi)), some (.int (zI n)), some (.int (zI se)), some (.int (zI m)), some (.int (zI (((fi * 24) + n) * 4))), some (.int (zI (((se * 24) + m) * 4)))], [.int (zI 0)], es)) i_56_62 (by rfl) ?_
      refine x_ret (v := some (.int (zI 0))) i_56_63 rfl (fun _ => rfl) rfl rfl (pFin_b (by omega)) ?_
      exact K2 v1 e_v1 v2 e_v2 c3 v4 e_v4 v5 e_v5 c6
    · refine x_cmpF i_57_39 (by unfold i32 iLO iHI; omega) (by unfold i32 iLO iHI; omega) rfl (by simp only [zC, cR]; omega) ?_
      refine x0 (r := (43, [some (.ref 71), some (.int (zI fi)), some (.int (zI n)), some (.int (zI se)), some (.int (zI m)), some (.int (zI (((fi * 24) + n) * 4))), some (.int (zI (((se * 24) + m) * 4)))], [.ref 71], es)) i_57_42 rfl ?_
      refine x_getr (p := 7) (k := 78) i_57_43 hs_es rfl rfl ?_
      show aW _ _ _ _ _ _ (46, [some (.ref 71), some (.int (zI fi)), some (.int (zI n)), some (.int (zI se)), some (.int (zI m)), some (.int (zI (((fi * 24) + n) * 4))), some (.int (zI (((se * 24) + m) * 4)))], [.ref 78], es)
      refine x0 (r := (48, [some (.ref 71), some (.int (zI fi)), some (.int (zI n)), some (.int (zI se)), some (.int (zI m)), some (.int (zI (((fi * 24) + n) * 4))), some (.int (zI (((se * 24) + m) * 4)))], [.int (zI (((fi * 24) + n) * 4)), .ref 78], es)) i_57_46 rfl ?_
      refine x0 (r := (49, [some (.ref 71), some (.int (zI fi)), some (.int (zI n)), some (.int (zI se)), some (.int (zI m)), some (.int (zI (((fi * 24) + n) * 4))), some (.int (zI (((se * 24) + m) * 4)))], [.int (zI 2), .int (zI (((fi * 24) + n) * 4)), .ref 78], es)) i_57_48 (by rfl) ?_
      refine x_iadd i_57_49 ?_
      refine x_call (vs := [.ref 78, .int (zI ((((fi * 24) + n) * 4) + 2))]) (rs := []) i_57_50 rfl (fun _ => rfl) rfl rfl rfl rfl rfl rfl ?_
      show aW _ _ _ _ _ _ (0, [some (.ref 78), some (.int (zI ((((fi * 24) + n) * 4) + 2)))], [], es)
      refine x0 (r := (1, [some (.ref 78), some (.int (zI ((((fi * 24) + n) * 4) + 2)))], [.int (zI ((((fi * 24) + n) * 4) + 2))], es)) i_28_0 rfl ?_
      refine x_ifF i_28_1 (by unfold i32 iLO iHI; omega) rfl (by simp only [zC, cR]; omega) ?_
      refine x0 (r := (5, [some (.ref 78), some (.int (zI ((((fi * 24) + n) * 4) + 2)))], [.int (zI ((((fi * 24) + n) * 4) + 2))], es)) i_28_4 rfl ?_
      refine x0 (r := (6, [some (.ref 78), some (.int (zI ((((fi * 24) + n) * 4) + 2)))], [.ref 78, .int (zI ((((fi * 24) + n) * 4) + 2))], es)) i_28_5 rfl ?_
      refine x_alen (p := 14) (n := 288) i_28_6 hs_es rfl ?_
      refine x_cmpF i_28_7 (by unfold i32 iLO iHI; omega) (by unfold i32 iLO iHI; omega) rfl (by simp only [zC, cR]; omega) ?_
      refine x0 (r := (11, [some (.ref 78), some (.int (zI ((((fi * 24) + n) * 4) + 2)))], [.ref 78], es)) i_28_10 rfl ?_
      refine x0 (r := (12, [some (.ref 78), some (.int (zI ((((fi * 24) + n) * 4) + 2)))], [.int (zI ((((fi * 24) + n) * 4) + 2)), .ref 78], es)) i_28_11 rfl ?_
      refine x_iald (p := 14) i_28_12 hs_es rfl (by unfold i32 iLO iHI; omega) (by omega) (by omega) ?_
      obtain ⟨v7, e_v7⟩ : ∃ z : Int, z = (gA es 14 ((((fi * 24) + n) * 4) + 2).toNat).toInt := ⟨_, rfl⟩
      rw [← e_v7]
      have r_v7 : iLO ≤ v7 ∧ v7 ≤ iHI := by rw [e_v7]; exact i32_rng _
      unfold iLO iHI at r_v7
      refine x0 (r := (17, [some (.ref 78), some (.int (zI ((((fi * 24) + n) * 4) + 2)))], [.int (zI v7)], es)) i_28_13 rfl ?_
      refine x_ret (v := some (.int (zI v7))) i_28_17 rfl (fun _ => rfl) rfl rfl rfl ?_
      show aW _ _ _ _ _ _ (53, [some (.ref 71), some (.int (zI fi)), some (.int (zI n)), some (.int (zI se)), some (.int (zI m)), some (.int (zI (((fi * 24) + n) * 4))), some (.int (zI (((se * 24) + m) * 4)))], [.int (zI v7)], es)
      refine x0 (r := (54, [some (.ref 71), some (.int (zI fi)), some (.int (zI n)), some (.int (zI se)), some (.int (zI m)), some (.int (zI (((fi * 24) + n) * 4))), some (.int (zI (((se * 24) + m) * 4)))], [.ref 71, .int (zI v7)], es)) i_57_53 rfl ?_
      refine x_getr (p := 7) (k := 78) i_57_54 hs_es rfl rfl ?_
      show aW _ _ _ _ _ _ (57, [some (.ref 71), some (.int (zI fi)), some (.int (zI n)), some (.int (zI se)), some (.int (zI m)), some (.int (zI (((fi * 24) + n) * 4))), some (.int (zI (((se * 24) + m) * 4)))], [.ref 78, .int (zI v7)], es)
      refine x0 (r := (59, [some (.ref 71), some (.int (zI fi)), some (.int (zI n)), some (.int (zI se)), some (.int (zI m)), some (.int (zI (((fi * 24) + n) * 4))), some (.int (zI (((se * 24) + m) * 4)))], [.int (zI (((se * 24) + m) * 4)), .ref 78, .int (zI v7)], es)) i_57_57 rfl ?_
      refine x0 (r := (60, [some (.ref 71), some (.int (zI fi)), some (.int (zI n)), some (.int (zI se)), some (.int (zI m)), some (.int (zI (((fi * 24) + n) * 4))), some (.int (zI (((se * 24) + m) * 4)))], [.int (zI 2), .int (zI (((se * 24) + m) * 4)), .ref 78, .int (zI v7)], es)) i_57_59 (by rfl) ?_
      refine x_iadd i_57_60 ?_
      refine x_call (vs := [.ref 78, .int (zI ((((se * 24) + m) * 4) + 2))]) (rs := [.int (zI v7)]) i_57_61 rfl (fun _ => rfl) rfl rfl rfl rfl rfl rfl ?_
      show aW _ _ _ _ _ _ (0, [some (.ref 78), some (.int (zI ((((se * 24) + m) * 4) + 2)))], [], es)
      refine x0 (r := (1, [some (.ref 78), some (.int (zI ((((se * 24) + m) * 4) + 2)))], [.int (zI ((((se * 24) + m) * 4) + 2))], es)) i_28_0 rfl ?_
      refine x_ifF i_28_1 (by unfold i32 iLO iHI; omega) rfl (by simp only [zC, cR]; omega) ?_
      refine x0 (r := (5, [some (.ref 78), some (.int (zI ((((se * 24) + m) * 4) + 2)))], [.int (zI ((((se * 24) + m) * 4) + 2))], es)) i_28_4 rfl ?_
      refine x0 (r := (6, [some (.ref 78), some (.int (zI ((((se * 24) + m) * 4) + 2)))], [.ref 78, .int (zI ((((se * 24) + m) * 4) + 2))], es)) i_28_5 rfl ?_
      refine x_alen (p := 14) (n := 288) i_28_6 hs_es rfl ?_
      refine x_cmpF i_28_7 (by unfold i32 iLO iHI; omega) (by unfold i32 iLO iHI; omega) rfl (by simp only [zC, cR]; omega) ?_
      refine x0 (r := (11, [some (.ref 78), some (.int (zI ((((se * 24) + m) * 4) + 2)))], [.ref 78], es)) i_28_10 rfl ?_
      refine x0 (r := (12, [some (.ref 78), some (.int (zI ((((se * 24) + m) * 4) + 2)))], [.int (zI ((((se * 24) + m) * 4) + 2)), .ref 78], es)) i_28_11 rfl ?_
      refine x_iald (p := 14) i_28_12 hs_es rfl (by unfold i32 iLO iHI; omega) (by omega) (by omega) ?_
      obtain ⟨v8, e_v8⟩ : ∃ z : Int, z = (gA es 14 ((((se * 24) + m) * 4) + 2).toNat).toInt := ⟨_, rfl⟩
      rw [← e_v8]
      have r_v8 : iLO ≤ v8 ∧ v8 ≤ iHI := by rw [e_v8]; exact i32_rng _
      unfold iLO iHI at r_v8
      refine x0 (r := (17, [some (.ref 78), some (.int (zI ((((se * 24) + m) * 4) + 2)))], [.int (zI v8)], es)) i_28_13 rfl ?_
      refine x_ret (v := some (.int (zI v8))) i_28_17 rfl (fun _ => rfl) rfl rfl rfl ?_
      show aW _ _ _ _ _ _ (64, [some (.ref 71), some (.int (zI fi)), some (.int (zI n)), some (.int (zI se)), some (.int (zI m)), some (.int (zI (((fi * 24) + n) * 4))), some (.int (zI (((se * 24) + m) * 4)))], [.int (zI v8), .int (zI v7)], es)
      by_cases c9 : v7 ≠ v8
      · refine x_cmpT i_57_64 (by unfold i32 iLO iHI; omega) (by unfold i32 iLO iHI; omega) rfl (by simp only [zC, cR]; omega) ?_
        refine x0 (r := (97, [some (.ref 71), some (.int (zI fi)), some (.int (zI n)), some (.int (zI se)), some (.int (zI m)), some (.int (zI (((fi * 24) + n) * 4))), some (.int (zI (((se * 24) + m) * 4)))], [.int (zI 0)], es)) i_57_96 (by rfl) ?_
        refine x_ret (v := some (.int (zI 0))) i_57_97 rfl (fun _ => rfl) rfl rfl (pFin_b (by omega)) ?_
        show aW _ _ _ _ _ _ (55, [some (.ref 71), some (.int (zI fi)), some (.int (zI n)), some (.int (zI se)), some (.int (zI m)), some (.int (zI (((fi * 24) + n) * 4))), some (.int (zI (((se * 24) + m) * 4)))], [.int (zI 0)], es)
        refine x_ifT i_56_55 (by unfold i32 iLO iHI; omega) rfl (by simp only [zC, cR]; omega) ?_
        refine x0 (r := (63, [some (.ref 71), some (.int (zI fi)), some (.int (zI n)), some (.int (zI se)), some (.int (zI m)), some (.int (zI (((fi * 24) + n) * 4))), some (.int (zI (((se * 24) + m) * 4)))], [.int (zI 0)], es)) i_56_62 (by rfl) ?_
        refine x_ret (v := some (.int (zI 0))) i_56_63 rfl (fun _ => rfl) rfl rfl (pFin_b (by omega)) ?_
        exact K3 v1 e_v1 v2 e_v2 c3 v4 e_v4 v5 e_v5 c6 v7 e_v7 v8 e_v8 c9
      · refine x_cmpF i_57_64 (by unfold i32 iLO iHI; omega) (by unfold i32 iLO iHI; omega) rfl (by simp only [zC, cR]; omega) ?_
        refine x0 (r := (68, [some (.ref 71), some (.int (zI fi)), some (.int (zI n)), some (.int (zI se)), some (.int (zI m)), some (.int (zI (((fi * 24) + n) * 4))), some (.int (zI (((se * 24) + m) * 4)))], [.ref 71], es)) i_57_67 rfl ?_
        refine x_getr (p := 7) (k := 78) i_57_68 hs_es rfl rfl ?_
        show aW _ _ _ _ _ _ (71, [some (.ref 71), some (.int (zI fi)), some (.int (zI n)), some (.int (zI se)), some (.int (zI m)), some (.int (zI (((fi * 24) + n) * 4))), some (.int (zI (((se * 24) + m) * 4)))], [.ref 78], es)
        refine x0 (r := (73, [some (.ref 71), some (.int (zI fi)), some (.int (zI n)), some (.int (zI se)), some (.int (zI m)), some (.int (zI (((fi * 24) + n) * 4))), some (.int (zI (((se * 24) + m) * 4)))], [.int (zI (((fi * 24) + n) * 4)), .ref 78], es)) i_57_71 rfl ?_
        refine x0 (r := (74, [some (.ref 71), some (.int (zI fi)), some (.int (zI n)), some (.int (zI se)), some (.int (zI m)), some (.int (zI (((fi * 24) + n) * 4))), some (.int (zI (((se * 24) + m) * 4)))], [.int (zI 3), .int (zI (((fi * 24) + n) * 4)), .ref 78], es)) i_57_73 (by rfl) ?_
        refine x_iadd i_57_74 ?_
        refine x_call (vs := [.ref 78, .int (zI ((((fi * 24) + n) * 4) + 3))]) (rs := []) i_57_75 rfl (fun _ => rfl) rfl rfl rfl rfl rfl rfl ?_
        show aW _ _ _ _ _ _ (0, [some (.ref 78), some (.int (zI ((((fi * 24) + n) * 4) + 3)))], [], es)
        refine x0 (r := (1, [some (.ref 78), some (.int (zI ((((fi * 24) + n) * 4) + 3)))], [.int (zI ((((fi * 24) + n) * 4) + 3))], es)) i_28_0 rfl ?_
        refine x_ifF i_28_1 (by unfold i32 iLO iHI; omega) rfl (by simp only [zC, cR]; omega) ?_
        refine x0 (r := (5, [some (.ref 78), some (.int (zI ((((fi * 24) + n) * 4) + 3)))], [.int (zI ((((fi * 24) + n) * 4) + 3))], es)) i_28_4 rfl ?_
        refine x0 (r := (6, [some (.ref 78), some (.int (zI ((((fi * 24) + n) * 4) + 3)))], [.ref 78, .int (zI ((((fi * 24) + n) * 4) + 3))], es)) i_28_5 rfl ?_
        refine x_alen (p := 14) (n := 288) i_28_6 hs_es rfl ?_
        refine x_cmpF i_28_7 (by unfold i32 iLO iHI; omega) (by unfold i32 iLO iHI; omega) rfl (by simp only [zC, cR]; omega) ?_
        refine x0 (r := (11, [some (.ref 78), some (.int (zI ((((fi * 24) + n) * 4) + 3)))], [.ref 78], es)) i_28_10 rfl ?_
        refine x0 (r := (12, [some (.ref 78), some (.int (zI ((((fi * 24) + n) * 4) + 3)))], [.int (zI ((((fi * 24) + n) * 4) + 3)), .ref 78], es)) i_28_11 rfl ?_
        refine x_iald (p := 14) i_28_12 hs_es rfl (by unfold i32 iLO iHI; omega) (by omega) (by omega) ?_
        obtain ⟨v10, e_v10⟩ : ∃ z : Int, z = (gA es 14 ((((fi * 24) + n) * 4) + 3).toNat).toInt := ⟨_, rfl⟩
        rw [← e_v10]
        have r_v10 : iLO ≤ v10 ∧ v10 ≤ iHI := by rw [e_v10]; exact i32_rng _
        unfold iLO iHI at r_v10
        refine x0 (r := (17, [some (.ref 78), some (.int (zI ((((fi * 24) + n) * 4) + 3)))], [.int (zI v10)], es)) i_28_13 rfl ?_
        refine x_ret (v := some (.int (zI v10))) i_28_17 rfl (fun _ => rfl) rfl rfl rfl ?_
        show aW _ _ _ _ _ _ (78, [some (.ref 71), some (.int (zI fi)), some (.int (zI n)), some (.int (zI se)), some (.int (zI m)), some (.int (zI (((fi * 24) + n) * 4))), some (.int (zI (((se * 24) + m) * 4)))], [.int (zI v10)], es)
        refine x0 (r := (79, [some (.ref 71), some (.int (zI fi)), some (.int (zI n)), some (.int (zI se)), some (.int (zI m)), some (.int (zI (((fi * 24) + n) * 4))), some (.int (zI (((se * 24) + m) * 4)))], [.ref 71, .int (zI v10)], es)) i_57_78 rfl ?_
        refine x_getr (p := 7) (k := 78) i_57_79 hs_es rfl rfl ?_
        show aW _ _ _ _ _ _ (82, [some (.ref 71), some (.int (zI fi)), some (.int (zI n)), some (.int (zI se)), some (.int (zI m)), some (.int (zI (((fi * 24) + n) * 4))), some (.int (zI (((se * 24) + m) * 4)))], [.ref 78, .int (zI v10)], es)
        refine x0 (r := (84, [some (.ref 71), some (.int (zI fi)), some (.int (zI n)), some (.int (zI se)), some (.int (zI m)), some (.int (zI (((fi * 24) + n) * 4))), some (.int (zI (((se * 24) + m) * 4)))], [.int (zI (((se * 24) + m) * 4)), .ref 78, .int (zI v10)], es)) i_57_82 rfl ?_
        refine x0 (r := (85, [some (.ref 71), some (.int (zI fi)), some (.int (zI n)), some (.int (zI se)), some (.int (zI m)), some (.int (zI (((fi * 24) + n) * 4))), some (.int (zI (((se * 24) + m) * 4)))], [.int (zI 3), .int (zI (((se * 24) + m) * 4)), .ref 78, .int (zI v10)], es)) i_57_84 (by rfl) ?_
        refine x_iadd i_57_85 ?_
        refine x_call (vs := [.ref 78, .int (zI ((((se * 24) + m) * 4) + 3))]) (rs := [.int (zI v10)]) i_57_86 rfl (fun _ => rfl) rfl rfl rfl rfl rfl rfl ?_
        show aW _ _ _ _ _ _ (0, [some (.ref 78), some (.int (zI ((((se * 24) + m) * 4) + 3)))], [], es)
        refine x0 (r := (1, [some (.ref 78), some (.int (zI ((((se * 24) + m) * 4) + 3)))], [.int (zI ((((se * 24) + m) * 4) + 3))], es)) i_28_0 rfl ?_
        refine x_ifF i_28_1 (by unfold i32 iLO iHI; omega) rfl (by simp only [zC, cR]; omega) ?_
        refine x0 (r := (5, [some (.ref 78), some (.int (zI ((((se * 24) + m) * 4) + 3)))], [.int (zI ((((se * 24) + m) * 4) + 3))], es)) i_28_4 rfl ?_
        refine x0 (r := (6, [some (.ref 78), some (.int (zI ((((se * 24) + m) * 4) + 3)))], [.ref 78, .int (zI ((((se * 24) + m) * 4) + 3))], es)) i_28_5 rfl ?_
        refine x_alen (p := 14) (n := 288) i_28_6 hs_es rfl ?_
        refine x_cmpF i_28_7 (by unfold i32 iLO iHI; omega) (by unfold i32 iLO iHI; omega) rfl (by simp only [zC, cR]; omega) ?_
        refine x0 (r := (11, [some (.ref 78), some (.int (zI ((((se * 24) + m) * 4) + 3)))], [.ref 78], es)) i_28_10 rfl ?_
        refine x0 (r := (12, [some (.ref 78), some (.int (zI ((((se * 24) + m) * 4) + 3)))], [.int (zI ((((se * 24) + m) * 4) + 3)), .ref 78], es)) i_28_11 rfl ?_
        refine x_iald (p := 14) i_28_12 hs_es rfl (by unfold i32 iLO iHI; omega) (by omega) (by omega) ?_
        obtain ⟨v11, e_v11⟩ : ∃ z : Int, z = (gA es 14 ((((se * 24) + m) * 4) + 3).toNat).toInt := ⟨_, rfl⟩
        rw [← e_v11]
        have r_v11 : iLO ≤ v11 ∧ v11 ≤ iHI := by rw [e_v11]; exact i32_rng _
        unfold iLO iHI at r_v11
        refine x0 (r := (17, [some (.ref 78), some (.int (zI ((((se * 24) + m) * 4) + 3)))], [.int (zI v11)], es)) i_28_13 rfl ?_
        refine x_ret (v := some (.int (zI v11))) i_28_17 rfl (fun _ => rfl) rfl rfl rfl ?_
        show aW _ _ _ _ _ _ (89, [some (.ref 71), some (.int (zI fi)), some (.int (zI n)), some (.int (zI se)), some (.int (zI m)), some (.int (zI (((fi * 24) + n) * 4))), some (.int (zI (((se * 24) + m) * 4)))], [.int (zI v11), .int (zI v10)], es)
        by_cases c12 : v10 ≠ v11
        · refine x_cmpT i_57_89 (by unfold i32 iLO iHI; omega) (by unfold i32 iLO iHI; omega) rfl (by simp only [zC, cR]; omega) ?_
          refine x0 (r := (97, [some (.ref 71), some (.int (zI fi)), some (.int (zI n)), some (.int (zI se)), some (.int (zI m)), some (.int (zI (((fi * 24) + n) * 4))), some (.int (zI (((se * 24) + m) * 4)))], [.int (zI 0)], es)) i_57_96 (by rfl) ?_
          refine x_ret (v := some (.int (zI 0))) i_57_97 rfl (fun _ => rfl) rfl rfl (pFin_b (by omega)) ?_
          show aW _ _ _ _ _ _ (55, [some (.ref 71), some (.int (zI fi)), some (.int (zI n)), some (.int (zI se)), some (.int (zI m)), some (.int (zI (((fi * 24) + n) * 4))), some (.int (zI (((se * 24) + m) * 4)))], [.int (zI 0)], es)
          refine x_ifT i_56_55 (by unfold i32 iLO iHI; omega) rfl (by simp only [zC, cR]; omega) ?_
          refine x0 (r := (63, [some (.ref 71), some (.int (zI fi)), some (.int (zI n)), some (.int (zI se)), some (.int (zI m)), some (.int (zI (((fi * 24) + n) * 4))), some (.int (zI (((se * 24) + m) * 4)))], [.int (zI 0)], es)) i_56_62 (by rfl) ?_
          refine x_ret (v := some (.int (zI 0))) i_56_63 rfl (fun _ => rfl) rfl rfl (pFin_b (by omega)) ?_
          exact K4 v1 e_v1 v2 e_v2 c3 v4 e_v4 v5 e_v5 c6 v7 e_v7 v8 e_v8 c9 v10 e_v10 v11 e_v11 c12
        · refine x_cmpF i_57_89 (by unfold i32 iLO iHI; omega) (by unfold i32 iLO iHI; omega) rfl (by simp only [zC, cR]; omega) ?_
          refine x0 (r := (93, [some (.ref 71), some (.int (zI fi)), some (.int (zI n)), some (.int (zI se)), some (.int (zI m)), some (.int (zI (((fi * 24) + n) * 4))), some (.int (zI (((se * 24) + m) * 4)))], [.int (zI 1)], es)) i_57_92 (by rfl) ?_
          refine x0 (r := (97, [some (.ref 71), some (.int (zI fi)), some (.int (zI n)), some (.int (zI se)), some (.int (zI m)), some (.int (zI (((fi * 24) + n) * 4))), some (.int (zI (((se * 24) + m) * 4)))], [.int (zI 1)], es)) i_57_93 rfl ?_
          refine x_ret (v := some (.int (zI 1))) i_57_97 rfl (fun _ => rfl) rfl rfl (pFin_b (by omega)) ?_
          show aW _ _ _ _ _ _ (55, [some (.ref 71), some (.int (zI fi)), some (.int (zI n)), some (.int (zI se)), some (.int (zI m)), some (.int (zI (((fi * 24) + n) * 4))), some (.int (zI (((se * 24) + m) * 4)))], [.int (zI 1)], es)
          refine x_ifF i_56_55 (by unfold i32 iLO iHI; omega) rfl (by simp only [zC, cR]; omega) ?_
          refine x0 (r := (59, [some (.ref 71), some (.int (zI fi)), some (.int (zI n)), some (.int (zI se)), some (.int (zI m)), some (.int (zI (((fi * 24) + n) * 4))), some (.int (zI (((se * 24) + m) * 4)))], [.int (zI 1)], es)) i_56_58 (by rfl) ?_
          refine x0 (r := (63, [some (.ref 71), some (.int (zI fi)), some (.int (zI n)), some (.int (zI se)), some (.int (zI m)), some (.int (zI (((fi * 24) + n) * 4))), some (.int (zI (((se * 24) + m) * 4)))], [.int (zI 1)], es)) i_56_59 rfl ?_
          refine x_ret (v := some (.int (zI 1))) i_56_63 rfl (fun _ => rfl) rfl rfl (pFin_b (by omega)) ?_
          exact K5 v1 e_v1 v2 e_v2 c3 v4 e_v4 v5 e_v5 c6 v7 e_v7 v8 e_v8 c9 v10 e_v10 v11 e_v11 c12
/-! alike of the class -/
section
variable {O : pOut} {d kc ks p n : Nat} {Q : pRes → Prop} {es : PH} {f : Nat → Int32} {x v : Int}
theorem atF (hp : es[p]? = some (.inl (0, n, .inl f))) (hn : n ≤ 2147483647) (h0 : 0 ≤ x) (h1 : x < (n : Int)) (K : Q (.inl (some (.int (zI (f x.toNat).toInt))), es, kc, ks)) : aW O d 28 kc ks Q (0, [some (.ref (64 + p)), some (.int (zI x))], [], es) := by
  have hx : i32 x := by unfold i32 iLO iHI; omega
  refine x0 (r := (1, [some (.ref (64 + p)), some (.int (zI x))], [.int (zI x)], es)) i_28_0 rfl ?_
  refine x_ifF i_28_1 hx rfl (by simp only [zC, cR]; omega) ?_
  refine x0 (r := (5, [some (.ref (64 + p)), some (.int (zI x))], [.int (zI x)], es)) i_28_4 rfl ?_
  refine x0 (r := (6, [some (.ref (64 + p)), some (.int (zI x))], [.ref (64 + p), .int (zI x)], es)) i_28_5 rfl ?_
  refine x_alenp i_28_6 hp ?_
  refine x_cmpF i_28_7 hx (by unfold i32 iLO iHI; omega) rfl (by simp only [zC, cR]; omega) ?_
  refine x0 (r := (11, [some (.ref (64 + p)), some (.int (zI x))], [.ref (64 + p)], es)) i_28_10 rfl ?_
  refine x0 (r := (12, [some (.ref (64 + p)), some (.int (zI x))], [.int (zI x), .ref (64 + p)], es)) i_28_11 rfl ?_
  refine x_ialdp i_28_12 hp hx (by omega) (by omega) ?_
  refine x0 (r := (17, [some (.ref (64 + p)), some (.int (zI x))], [.int (zI (f x.toNat).toInt)], es)) i_28_13 rfl ?_
  refine x_ret (v := some (.int (zI (f x.toNat).toInt))) i_28_17 rfl (fun _ => rfl) rfl rfl rfl ?_
  exact K
theorem setF (hp : es[p]? = some (.inl (0, n, .inl f))) (hn : n ≤ 2147483647) (h0 : 0 ≤ x) (h1 : x < (n : Int)) (K : Q (.inl none, es.set p (.inl (0, n, .inl (upd f x.toNat (zI v)))), kc, ks)) : aW O d 14 kc ks Q (0, [some (.ref (64 + p)), some (.int (zI x)), some (.int (zI v))], [], es) := by
  have hx : i32 x := by unfold i32 iLO iHI; omega
  refine x0 (r := (1, [some (.ref (64 + p)), some (.int (zI x)), some (.int (zI v))], [.int (zI x)], es)) i_14_0 rfl ?_
  refine x_ifF i_14_1 hx rfl (by simp only [zC, cR]; omega) ?_
  refine x0 (r := (5, [some (.ref (64 + p)), some (.int (zI x)), some (.int (zI v))], [.int (zI x)], es)) i_14_4 rfl ?_
  refine x0 (r := (6, [some (.ref (64 + p)), some (.int (zI x)), some (.int (zI v))], [.ref (64 + p), .int (zI x)], es)) i_14_5 rfl ?_
  refine x_alenp i_14_6 hp ?_
  refine x_cmpF i_14_7 hx (by unfold i32 iLO iHI; omega) rfl (by simp only [zC, cR]; omega) ?_
  refine x0 (r := (11, [some (.ref (64 + p)), some (.int (zI x)), some (.int (zI v))], [.ref (64 + p)], es)) i_14_10 rfl ?_
  refine x0 (r := (12, [some (.ref (64 + p)), some (.int (zI x)), some (.int (zI v))], [.int (zI x), .ref (64 + p)], es)) i_14_11 rfl ?_
  refine x0 (r := (13, [some (.ref (64 + p)), some (.int (zI x)), some (.int (zI v))], [.int (zI v), .int (zI x), .ref (64 + p)], es)) i_14_12 rfl ?_
  refine x_iastp i_14_13 hp hx (by omega) (by omega) ?_
  exact x_ret (v := none) i_14_14 rfl (fun _ => rfl) rfl rfl rfl K
end
/-- the heap es0, and a row f behind it -/
def rwA (e0 : PH) (f : Nat → Int32) (es : PH) : Prop := hOK tT es ∧ (∀ p, p < e0.length → es[p]? = e0[p]?) ∧ es[e0.length]? = some (.inl (0, 25, .inl f))
theorem rwA_set {e0 es : PH} {f g : Nat → Int32} (h0 : 108 ≤ e0.length) (h : rwA e0 f es) : rwA e0 g (es.set e0.length (.inl (0, 25, .inl g))) := by
  obtain ⟨h1, h2, h3⟩ := h
  refine ⟨hOK_set h1 (fun t ht => ?_), fun p hp => ?_, ?_⟩
  · have := (List.getElem?_eq_some_iff.mp ht).1
    rw [tT_len] at this
    omega
  · rw [List.getElem?_set_ne (by omega)]
    exact h2 p hp
  · exact List.getElem?_set_self (List.getElem?_eq_some_iff.mp h3).1
section
variable {O : pOut} {d kc ks : Nat} {Q : pRes → Prop} {es : PH} {f s a b : Nat}
theorem likeF (hT : hOK tT es) (hf : f ≤ 2) (hs : s ≤ 2) (ha : a ≤ 23) (hb : b ≤ 23) (K : ∀ v : Int, (0 ≤ v ∧ v ≤ 1) → (v = 0 ↔ ¬ lkC (gA es 14) f s a b = true) → Q (.inl (some (.int (zI v))), es, kc, ks)) : aW O (d + 2) 56 kc ks Q (0, [some (.ref 71), some (.int (zI (f : Int))), some (.int (zI (a : Int))), some (.int (zI (s : Int))), some (.int (zI (b : Int))), none, none], [], es) := by
  have e1 : ∀ (F A : Nat), ((((F : Int) * 24) + (A : Int)) * 4).toNat = 96 * F + 4 * A + 0 := fun F A => by omega
  have e2 : ∀ (F A : Nat), (((((F : Int) * 24) + (A : Int)) * 4) + 1).toNat = 96 * F + 4 * A + 1 := fun F A => by omega
  have e3 : ∀ (F A : Nat), (((((F : Int) * 24) + (A : Int)) * 4) + 2).toNat = 96 * F + 4 * A + 2 := fun F A => by omega
  have e4 : ∀ (F A : Nat), (((((F : Int) * 24) + (A : Int)) * 4) + 3).toNat = 96 * F + 4 * A + 3 := fun F A => by omega
  have no : ¬ lkC (gA es 14) f s a b = true → Q (.inl (some (.int (zI 0))), es, kc, ks) := fun h => K 0 ⟨by omega, by omega⟩ ⟨fun _ => h, fun _ => rfl⟩
  refine s_lk (sh_of hT) ⟨by omega, by omega⟩ ⟨by omega, by omega⟩ ⟨by omega, by omega⟩ ⟨by omega, by omega⟩ hT (fun v1 p1 v2 p2 c => no ?_) (fun v1 p1 v2 p2 c v4 p4 v5 p5 c2 => no ?_) (fun v1 p1 v2 p2 c v4 p4 v5 p5 c2 v7 p7 v8 p8 c3 => no ?_) (fun v1 p1 v2 p2 c v4 p4 v5 p5 c2 v7 p7 v8 p8 c3 v10 p10 v11 p11 c4 => no ?_) (fun v1 p1 v2 p2 c v4 p4 v5 p5 c2 v7 p7 v8 p8 c3 v10 p10 v11 p11 c4 => K 1 ⟨by omega, by omega⟩ ⟨fun h => absurd h (by omega), fun h => absurd ?_ h⟩)
  · rw [e2] at p1 p2
    unfold lkC
    rw [decide_eq_false (by rw [← p1, ← p2]; exact c)]
    simp
  · rw [e1] at p4 p5
    unfold lkC
    rw [decide_eq_false (p := (gA es 14 (96 * f + 4 * a + 0)).toInt = (gA es 14 (96 * s + 4 * b + 0)).toInt) (by rw [← p4, ← p5]; exact c2)]
    simp
  · rw [e3] at p7 p8
    unfold lkC
    rw [decide_eq_false (p := (gA es 14 (96 * f + 4 * a + 2)).toInt = (gA es 14 (96 * s + 4 * b + 2)).toInt) (by rw [← p7, ← p8]; exact c3)]
    simp
  · rw [e4] at p10 p11
    unfold lkC
    rw [decide_eq_false (p := (gA es 14 (96 * f + 4 * a + 3)).toInt = (gA es 14 (96 * s + 4 * b + 3)).toInt) (by rw [← p10, ← p11]; exact c4)]
    simp
  · rw [e2] at p1 p2
    rw [e1] at p4 p5
    rw [e3] at p7 p8
    rw [e4] at p10 p11
    unfold lkC
    rw [decide_eq_true (by omega), decide_eq_true (by omega), decide_eq_true (by omega), decide_eq_true (by omega)]
    rfl
end
section
variable {xs : Nat → Int32} {N d kc ks : Nat} {Q : pRes → Prop} {e0 : PH} {f s na nb : Nat}
theorem micF_in (h0 : 108 ≤ e0.length) (hf : f ≤ 2) (hs : s ≤ 2) (hna : na ≤ 24) (hnb : nb ≤ 24) (hcb : (gA e0 13 s).toInt = (nb : Int)) {n : Nat} (hn : n < na) (K : ∀ (g : Nat → Int32) (es' : PH) (x5 x6 x7 x8 : Option Value), rwA e0 g es' → (∀ j, j ≤ nb → (g j).toInt = zL (lkC (gA e0 14) f s) (n + 1) j) → aW (pO0 xs N) (d + 3) 163 kc ks Q (3, [some (.ref 71), some (.int (zI (f : Int))), some (.int (zI (s : Int))), some (.ref (64 + e0.length)), some (.int (zI ((n : Int) + 1))), x5, x6, x7, x8], [], es')) : ∀ (k m : Nat) (g : Nat → Int32) (es : PH) (sl : Int) (x7 x8 : Option Value), m + k = nb + 1 → 1 ≤ m → rwA e0 g es → sl = zL (lkC (gA e0 14) f s) n (m - 1) → (∀ j, j < m → (g j).toInt = zL (lkC (gA e0 14) f s) (n + 1) j) → (∀ j, m ≤ j → j ≤ nb → (g j).toInt = zL (lkC (gA e0 14) f s) n j) → aW (pO0 xs N) (d + 3) 163 kc ks Q (19, [some (.ref 71), some (.int (zI (f : Int))), some (.int (zI (s : Int))), some (.ref (64 + e0.length)), some (.int (zI (n : Int))), some (.int (zI sl)), some (.int (zI (m : Int))), x7, x8], [], es) := by
  have i1 : i32 (f : Int) := by unfold i32 iLO iHI; omega
  have i2 : i32 (s : Int) := by unfold i32 iLO iHI; omega
  have hn1 : 0 ≤ (n : Int) ∧ (n : Int) ≤ 24 := ⟨by omega, by omega⟩
  have rows : ∀ {g : Nat → Int32} {es : PH}, rwA e0 g es → gA es 13 = gA e0 13 ∧ gA es 14 = gA e0 14 := fun h => ⟨gA_eq (h.2.1 13 (by omega)), gA_eq (h.2.1 14 (by omega))⟩
  intro k
  induction k with
  | zero =>
    intro m g es sl x7 x8 hk hm hr hsl h1 h2
    have e13 := (rows hr).1
    have hv : (gA es 13 ((s : Int)).toNat).toInt = (nb : Int) := by rw [Int.toNat_natCast, e13]; exact hcb
    exact s_mic19 (d := d + 1) (sh_of hr.1) i1 i2 hn1 ⟨by omega, by omega⟩ hr.1 (fun h _ => absurd h (by omega)) (fun h _ => absurd h (by omega)) (fun _ h _ => absurd h (by omega)) (fun _ h _ => absurd h (by omega)) (fun _ _ v5 e5 _ => K g es _ _ _ _ hr (fun j hj => h1 j (by omega))) (fun _ _ v5 e5 h => absurd (show v5 < (m : Int) by rw [e5, hv]; omega) h)
  | succ k ih =>
    intro m g es sl x7 x8 hk hm hr hsl h1 h2
    obtain ⟨e13, e14⟩ := rows hr
    have hm1 : 1 ≤ (m : Int) ∧ (m : Int) ≤ 25 := ⟨by omega, by omega⟩
    have hv : (gA es 13 ((s : Int)).toNat).toInt = (nb : Int) := by rw [Int.toNat_natCast, e13]; exact hcb
    obtain ⟨q, hq⟩ : ∃ q : Nat, m = q + 1 := ⟨m - 1, by omega⟩
    have bn := zL_bd (lk := lkC (gA e0 14) f s) n
    have bn1 := zL_bd (lk := lkC (gA e0 14) f s) (n + 1)
    refine s_mic19 (d := d + 1) (sh_of hr.1) i1 i2 hn1 hm1 hr.1 (fun h _ => absurd h (by omega)) (fun h _ => absurd h (by omega)) (fun _ h _ => absurd h (by omega)) (fun _ h _ => absurd h (by omega)) (fun _ _ v5 e5 h => absurd h (by rw [e5, hv]; omega)) (fun _ _ v5 e5 h => ?_)
    have ea : (g m).toInt = zL (lkC (gA e0 14) f s) n m := h2 m (by omega) (by omega)
    -- behind the most: the row is set
    have tail : ∀ (w : Int) (x : Option Value), w = zL (lkC (gA e0 14) f s) (n + 1) m → aW (pO0 xs N) (d + 3) 163 kc ks Q (72, [some (.ref 71), some (.int (zI (f : Int))), some (.int (zI (s : Int))), some (.ref (64 + e0.length)), some (.int (zI (n : Int))), some (.int (zI sl)), some (.int (zI (m : Int))), some (.int (zI (g m).toInt)), x], [.int (zI w)], es) := fun w x hw => by
      refine s_mic72 (sh_of hr.1) i1 i2 hn1 hm1 ?_
      refine x_call (vs := [.ref (64 + e0.length), .int (zI (m : Int)), .int (zI w)]) (rs := []) i_163_79 rfl (fun _ => rfl) rfl rfl rfl rfl rfl rfl ?_
      show aW _ _ _ _ _ _ (0, [some (.ref (64 + e0.length)), some (.int (zI (m : Int))), some (.int (zI w))], [], es)
      refine setF hr.2.2 (by omega) (by omega) (by omega) ?_
      have hr2 := rwA_set (g := upd g ((m : Int)).toNat (zI w)) h0 hr
      generalize es.set e0.length (.inl (0, 25, .inl (upd g ((m : Int)).toNat (zI w)))) = es2 at hr2 ⊢
      show aW _ _ _ _ _ _ (82, [some (.ref 71), some (.int (zI (f : Int))), some (.int (zI (s : Int))), some (.ref (64 + e0.length)), some (.int (zI (n : Int))), some (.int (zI sl)), some (.int (zI (m : Int))), some (.int (zI (g m).toInt)), some (.int (zI w))], [], es2)
      refine s_mic82 (sh_of hr2.1) i1 i2 hn1 hm1 ?_
      have b1 := bn1 m
      have h9 := ih (m + 1) (upd g ((m : Int)).toNat (zI w)) es2 (g m).toInt (some (.int (zI (g m).toInt))) (some (.int (zI w))) (by omega) (by omega) hr2 ea (fun j hj => ?_) (fun j hj hjn => ?_)
      · rw [show ((m + 1 : Nat) : Int) = (m : Int) + 1 by omega] at h9
        exact h9
      · unfold upd
        rw [Int.toNat_natCast]
        by_cases ej : j = m
        · rw [if_pos ej, zI_toInt (by unfold i32 iLO iHI; omega), hw, ej]
        · rw [if_neg ej]
          exact h1 j (by omega)
      · unfold upd
        rw [Int.toNat_natCast, if_neg (by omega)]
        exact h2 j (by omega) hjn
    refine x_call (vs := [.ref (64 + e0.length), .int (zI (m : Int))]) (rs := []) i_163_32 rfl (fun _ => rfl) rfl rfl rfl rfl rfl rfl ?_
    show aW _ _ _ _ _ _ (0, [some (.ref (64 + e0.length)), some (.int (zI (m : Int)))], [], es)
    refine atF hr.2.2 (by omega) (by omega) (by omega) ?_
    rw [Int.toNat_natCast]
    show aW _ _ _ _ _ _ (35, [some (.ref 71), some (.int (zI (f : Int))), some (.int (zI (s : Int))), some (.ref (64 + e0.length)), some (.int (zI (n : Int))), some (.int (zI sl)), some (.int (zI (m : Int))), x7, x8], [.int (zI (g m).toInt)], es)
    refine s_mic35 (sh_of hr.1) i1 i2 hn1 hm1 ?_
    have em : (m : Int) - 1 = (q : Int) := by omega
    rw [em]
    refine x_call (vs := [.ref 71, .int (zI (f : Int)), .int (zI (n : Int)), .int (zI (s : Int)), .int (zI (q : Int))]) (rs := []) i_163_46 rfl (fun _ => rfl) rfl rfl rfl rfl rfl (pCall_v (p := 7) (sh_of hr.1) rfl rfl rfl rfl rfl (by decide) rfl rfl rfl rfl rfl) ?_
    show aW _ _ _ _ _ _ (0, [some (.ref 71), some (.int (zI (f : Int))), some (.int (zI (n : Int))), some (.int (zI (s : Int))), some (.int (zI (q : Int))), none, none], [], es)
    refine likeF (d := d) hr.1 hf hs (by omega) (by omega) (fun b hb1 hb2 => ?_)
    rw [e14] at hb2
    have step : zL (lkC (gA e0 14) f s) (n + 1) m = if lkC (gA e0 14) f s n q = true then 1 + zL (lkC (gA e0 14) f s) n q else max (zL (lkC (gA e0 14) f s) n m) (zL (lkC (gA e0 14) f s) (n + 1) q) := by
      rw [hq]
      rfl
    show aW _ _ _ _ _ _ (49, [some (.ref 71), some (.int (zI (f : Int))), some (.int (zI (s : Int))), some (.ref (64 + e0.length)), some (.int (zI (n : Int))), some (.int (zI sl)), some (.int (zI (m : Int))), some (.int (zI (g m).toInt)), x8], [.int (zI b)], es)
    refine s_mic49 (sh_of hr.1) i1 i2 hn1 hm1 hb1 (fun c => ?_) (fun c => tail _ _ ?_)
    · rw [em]
      refine x_call (vs := [.ref (64 + e0.length), .int (zI (q : Int))]) (rs := [.int (zI (g m).toInt)]) i_163_66 rfl (fun _ => rfl) rfl rfl rfl rfl rfl rfl ?_
      show aW _ _ _ _ _ _ (0, [some (.ref (64 + e0.length)), some (.int (zI (q : Int)))], [], es)
      refine atF hr.2.2 (by omega) (by omega) (by omega) ?_
      rw [Int.toNat_natCast]
      show aW _ _ _ _ _ _ (69, [some (.ref 71), some (.int (zI (f : Int))), some (.int (zI (s : Int))), some (.ref (64 + e0.length)), some (.int (zI (n : Int))), some (.int (zI sl)), some (.int (zI (m : Int))), some (.int (zI (g m).toInt)), x8], [.int (zI (g q).toInt), .int (zI (g m).toInt)], es)
      refine s_mic69 (d := d + 2) (sh_of hr.1) i1 i2 hn1 hm1 (i32_rng _) (i32_rng _) (fun v hv => tail _ _ ?_)
      rw [step, if_neg (hb2.mp c), hv, ea, h1 q (by omega)]
    · have hl : lkC (gA e0 14) f s n q = true := by
        cases hh : lkC (gA e0 14) f s n q with
        | true => rfl
        | false => exact absurd (hb2.mpr (by rw [hh]; decide)) c
      rw [step, if_pos hl, hsl, show m - 1 = q by omega]
      omega
theorem micF_out (h0 : 108 ≤ e0.length) (hf : f ≤ 2) (hs : s ≤ 2) (hna : na ≤ 24) (hnb : nb ≤ 24) (hca : (gA e0 13 f).toInt = (na : Int)) (hcb : (gA e0 13 s).toInt = (nb : Int)) (hQ : ∀ (g : Nat → Int32) (es' : PH), rwA e0 g es' → Q (.inl (some (.int (zI (zL (lkC (gA e0 14) f s) na nb)))), es', kc, ks)) : ∀ (k n : Nat) (g : Nat → Int32) (es : PH) (x5 x6 x7 x8 : Option Value), n + k = na → rwA e0 g es → (∀ j, j ≤ nb → (g j).toInt = zL (lkC (gA e0 14) f s) n j) → aW (pO0 xs N) (d + 3) 163 kc ks Q (3, [some (.ref 71), some (.int (zI (f : Int))), some (.int (zI (s : Int))), some (.ref (64 + e0.length)), some (.int (zI (n : Int))), x5, x6, x7, x8], [], es) := by
  have i1 : i32 (f : Int) := by unfold i32 iLO iHI; omega
  have i2 : i32 (s : Int) := by unfold i32 iLO iHI; omega
  intro k
  induction k with
  | zero =>
    intro n g es x5 x6 x7 x8 hk hr h1
    have hn1 : 0 ≤ (n : Int) ∧ (n : Int) ≤ 24 := ⟨by omega, by omega⟩
    have e13 : gA es 13 = gA e0 13 := gA_eq (hr.2.1 13 (by omega))
    have hv : (gA es 13 ((f : Int)).toNat).toInt = (na : Int) := by rw [Int.toNat_natCast, e13]; exact hca
    have hw : (gA es 13 ((s : Int)).toNat).toInt = (nb : Int) := by rw [Int.toNat_natCast, e13]; exact hcb
    refine s_mic3 (d := d + 1) (sh_of hr.1) i1 i2 hn1 hr.1 (fun h _ => absurd h (by omega)) (fun h _ => absurd h (by omega)) (fun _ h _ => absurd h (by omega)) (fun _ h _ => absurd h (by omega)) (fun _ _ v5 e5 _ => ?_) (fun _ _ v5 e5 h => absurd (show v5 ≤ (n : Int) by rw [e5, hv]; omega) h)
    refine s_mic98 (d := d + 1) (sh_of hr.1) i1 i2 hn1 hr.1 (fun h => absurd h (by omega)) (fun _ h => absurd h (by omega)) (fun _ _ v3 e3 => ?_)
    rw [hw] at e3
    rw [e3]
    refine x_call (vs := [.ref (64 + e0.length), .int (zI (nb : Int))]) (rs := []) i_163_104 rfl (fun _ => rfl) rfl rfl rfl rfl rfl rfl ?_
    show aW _ _ _ _ _ _ (0, [some (.ref (64 + e0.length)), some (.int (zI (nb : Int)))], [], es)
    refine atF hr.2.2 (by omega) (by omega) (by omega) ?_
    rw [Int.toNat_natCast, h1 nb (Nat.le_refl _), show n = na by omega]
    show aW _ _ _ _ _ _ (107, [some (.ref 71), some (.int (zI (f : Int))), some (.int (zI (s : Int))), some (.ref (64 + e0.length)), some (.int (zI (na : Int))), x5, x6, x7, x8], [.int (zI (zL (lkC (gA e0 14) f s) na nb))], es)
    exact s_mic107 (sh_of hr.1) i1 i2 (hQ g es hr)
  | succ k ih =>
    intro n g es x5 x6 x7 x8 hk hr h1
    have hn1 : 0 ≤ (n : Int) ∧ (n : Int) ≤ 24 := ⟨by omega, by omega⟩
    have e13 : gA es 13 = gA e0 13 := gA_eq (hr.2.1 13 (by omega))
    have hv : (gA es 13 ((f : Int)).toNat).toInt = (na : Int) := by rw [Int.toNat_natCast, e13]; exact hca
    refine s_mic3 (d := d + 1) (sh_of hr.1) i1 i2 hn1 hr.1 (fun h _ => absurd h (by omega)) (fun h _ => absurd h (by omega)) (fun _ h _ => absurd h (by omega)) (fun _ h _ => absurd h (by omega)) (fun _ _ v5 e5 h => absurd h (by rw [e5, hv]; omega)) (fun _ _ v5 e5 _ => ?_)
    refine micF_in (n := n) (na := na) h0 hf hs hna hnb hcb (by omega) (fun g' es' y5 y6 y7 y8 hr' h' => ?_) nb 1 g es 0 x7 x8 (by omega) (by omega) hr (zL_0 n).symm (fun j hj => ?_) (fun j hj hjn => h1 j hjn)
    · have h9 := ih (n + 1) g' es' y5 y6 y7 y8 (by omega) hr' h'
      rw [show ((n + 1 : Nat) : Int) = (n : Int) + 1 by omega] at h9
      exact h9
    · rw [show j = 0 by omega, h1 0 (Nat.zero_le _), zL_0, zL_0]
end
theorem s_mak0 {O : pOut} {d kc ks : Nat} {Q : pRes → Prop} {es : PH} {fi se : Int} (hs_es : sh es) (h_fi : -2147483648 ≤ fi ∧ fi ≤ 2147483647) (h_se : -2147483648 ≤ se ∧ se ≤ 2147483647) (hT_es : hOK tT es)
    (K1 : ∀ es1 : PH, es1 = sI es 79 0 (.int (zI 0)) → ∀ v2 : Int, v2 = (gA es1 80 (Int.toNat 1)).toInt → fi < 0 → ∀ es4 : PH, es4 = sI es1 79 0 (.int (zI 1)) → Q (.inl (some (.int (zI 0))), es4, kc, ks))
    (K2 : ∀ es1 : PH, es1 = sI es 79 0 (.int (zI 0)) → ∀ v2 : Int, v2 = (gA es1 80 (Int.toNat 1)).toInt → ¬ (fi < 0) → (v2 - 1) < fi → ∀ es6 : PH, es6 = sI es1 79 0 (.int (zI 1)) → Q (.inl (some (.int (zI 0))), es6, kc, ks))
    (K3 : ∀ es1 : PH, es1 = sI es 79 0 (.int (zI 0)) → ∀ v2 : Int, v2 = (gA es1 80 (Int.toNat 1)).toInt → ¬ (fi < 0) → ¬ ((v2 - 1) < fi) → se < 0 → ∀ es8 : PH, es8 = sI es1 79 0 (.int (zI 1)) → Q (.inl (some (.int (zI 0))), es8, kc, ks))
    (K4 : ∀ es1 : PH, es1 = sI es 79 0 (.int (zI 0)) → ∀ v2 : Int, v2 = (gA es1 80 (Int.toNat 1)).toInt → ¬ (fi < 0) → ¬ ((v2 - 1) < fi) → ¬ (se < 0) → (v2 - 1) < se → ∀ es10 : PH, es10 = sI es1 79 0 (.int (zI 1)) → Q (.inl (some (.int (zI 0))), es10, kc, ks))
    (K5 : ∀ es1 : PH, es1 = sI es 79 0 (.int (zI 0)) → ∀ v2 : Int, v2 = (gA es1 80 (Int.toNat 1)).toInt → ¬ (fi < 0) → ¬ ((v2 - 1) < fi) → ¬ (se < 0) → ¬ ((v2 - 1) < se) → aW O (d + 3) 271 kc ks Q (42, [some (.ref 143), some (.int (zI fi)), some (.int (zI se)), some (.int (zI 25)), some (.int (zI 0)), none, none, none, none], [], es1)) :
    aW O (d + 3) 271 kc ks Q (0, [some (.ref 143), some (.int (zI fi)), some (.int (zI se)), none, none, none, none, none, none], [], es) := by
  refine x0 (r := (1, [some (.ref 143), some (.int (zI fi)), some (.int (zI se)), none, none, none, none, none, none], [.ref 143], es)) i_271_0 rfl ?_
  refine x0 (r := (2, [some (.ref 143), some (.int (zI fi)), some (.int (zI se)), none, none, none, none, none, none], [.int (zI 0), .ref 143], es)) i_271_1 (by rfl) ?_
  refine x_puti (p := 79) (ty := .int) i_271_2 hs_es rfl rfl rfl (Or.inl rfl) ?_
  obtain ⟨es1, e_es1⟩ : ∃ z : PH, z = sI es 79 0 (.int (zI 0)) := ⟨_, rfl⟩
  have hs_es1 : sh es1 := by rw [e_es1]; exact sh_sI hs_es (p := 79) (b := 0) rfl rfl
  have hT_es1 : hOK tT es1 := by rw [e_es1]; exact hOK_sI hT_es (p := 79) (b := 0) (lo := iLO) (hi := iHI) rfl rfl (i32_rng _)
  rw [← e_es1]
  refine x0 (r := (6, [some (.ref 143), some (.int (zI fi)), some (.int (zI se)), none, none, none, none, none, none], [.ref 143], es1)) i_271_5 rfl ?_
  refine x0 (r := (7, [some (.ref 143), some (.int (zI fi)), some (.int (zI se)), none, none, none, none, none, none], [.ref 143, .ref 143], es1)) i_271_6 rfl ?_
  refine x0 (r := (8, [some (.ref 143), some (.int (zI fi)), some (.int (zI se)), none, none, none, none, none, none], [.int (zI fi), .ref 143, .ref 143], es1)) i_271_7 rfl ?_
  refine x_call (vs := [.ref 143, .int (zI fi)]) (rs := [.ref 143]) i_271_8 rfl (fun _ => rfl) rfl rfl rfl rfl rfl (pCall_v (p := 79) hs_es1 rfl rfl rfl rfl rfl (by decide) rfl rfl rfl rfl rfl) ?_
  show aW _ _ _ _ _ _ (0, [some (.ref 143), some (.int (zI fi))], [], es1)
  refine x0 (r := (1, [some (.ref 143), some (.int (zI fi))], [.ref 143], es1)) i_203_0 rfl ?_
  refine x0 (r := (2, [some (.ref 143), some (.int (zI fi))], [.int (zI fi), .ref 143], es1)) i_203_1 rfl ?_
  refine x0 (r := (3, [some (.ref 143), some (.int (zI fi))], [.int (zI 1), .int (zI fi), .ref 143], es1)) i_203_2 (by rfl) ?_
  refine x_call (vs := [.ref 143, .int (zI fi), .int (zI 1)]) (rs := []) i_203_3 rfl (fun _ => rfl) rfl rfl rfl rfl rfl (pCall_v (p := 79) hs_es1 rfl rfl rfl rfl rfl (by decide) rfl rfl rfl rfl rfl) ?_
  show aW _ _ _ _ _ _ (0, [some (.ref 143), some (.int (zI fi)), some (.int (zI 1))], [], es1)
  refine x0 (r := (1, [some (.ref 143), some (.int (zI fi)), some (.int (zI 1))], [.int (zI fi)], es1)) i_199_0 rfl ?_
  refine x0 (r := (2, [some (.ref 143), some (.int (zI fi)), some (.int (zI 1))], [.int (zI 0), .int (zI fi)], es1)) i_199_1 (by rfl) ?_
  refine x0 (r := (3, [some (.ref 143), some (.int (zI fi)), some (.int (zI 1))], [.ref 143, .int (zI 0), .int (zI fi)], es1)) i_199_2 rfl ?_
  refine x_getr (p := 79) (k := 144) i_199_3 hs_es1 rfl rfl ?_
  show aW _ _ _ _ _ _ (6, [some (.ref 143), some (.int (zI fi)), some (.int (zI 1))], [.ref 144, .int (zI 0), .int (zI fi)], es1)
  refine x0 (r := (7, [some (.ref 143), some (.int (zI fi)), some (.int (zI 1))], [.int (zI 1), .ref 144, .int (zI 0), .int (zI fi)], es1)) i_199_6 rfl ?_
  refine x_iald (p := 80) i_199_7 hs_es1 rfl (by unfold i32 iLO iHI; omega) (by omega) (by omega) ?_
  obtain ⟨v2, e_v2⟩ : ∃ z : Int, z = (gA es1 80 (Int.toNat 1)).toInt := ⟨_, rfl⟩
  rw [← e_v2]
  have r_v2 : iLO ≤ v2 ∧ v2 ≤ iHI := by rw [e_v2]; exact i32_rng _
  unfold iLO iHI at r_v2
  have b_v2 : (0 : Int) ≤ v2 ∧ v2 ≤ (3 : Int) := by rw [e_v2]; exact gA_bd hT_es1 (p := 80) (k := (Int.toNat 1)) rfl (by omega) (by decide)
  refine x0 (r := (9, [some (.ref 143), some (.int (zI fi)), some (.int (zI 1))], [.int (zI 1), .int (zI v2), .int (zI 0), .int (zI fi)], es1)) i_199_8 (by rfl) ?_
  refine x_isub i_199_9 ?_
  refine x_call (vs := [.int (zI fi), .int (zI 0), .int (zI (v2 - 1))]) (rs := []) i_199_10 rfl (fun _ => rfl) rfl rfl rfl rfl rfl rfl ?_
  show aW _ _ _ _ _ _ (0, [some (.int (zI fi)), some (.int (zI 0)), some (.int (zI (v2 - 1)))], [], es1)
  refine x0 (r := (1, [some (.int (zI fi)), some (.int (zI 0)), some (.int (zI (v2 - 1)))], [.int (zI fi)], es1)) i_193_0 rfl ?_
  refine x0 (r := (2, [some (.int (zI fi)), some (.int (zI 0)), some (.int (zI (v2 - 1)))], [.int (zI 0), .int (zI fi)], es1)) i_193_1 rfl ?_
  by_cases c3 : fi < 0
  · refine x_cmpT i_193_2 (by unfold i32 iLO iHI; omega) (by unfold i32 iLO iHI; omega) rfl (by simp only [zC, cR]; omega) ?_
    refine x0 (r := (15, [some (.int (zI fi)), some (.int (zI 0)), some (.int (zI (v2 - 1)))], [.int (zI 0)], es1)) i_193_14 (by rfl) ?_
    refine x_ret (v := some (.int (zI 0))) i_193_15 rfl (fun _ => rfl) rfl rfl (pFin_b (by omega)) ?_
    show aW _ _ _ _ _ _ (13, [some (.ref 143), some (.int (zI fi)), some (.int (zI 1))], [.int (zI 0)], es1)
    refine x_ifF i_199_13 (by unfold i32 iLO iHI; omega) rfl (by simp only [zC, cR]; omega) ?_
    refine x0 (r := (17, [some (.ref 143), some (.int (zI fi)), some (.int (zI 1))], [.int (zI 1)], es1)) i_199_16 (by rfl) ?_
    refine x0 (r := (21, [some (.ref 143), some (.int (zI fi)), some (.int (zI 1))], [.int (zI 1)], es1)) i_199_17 rfl ?_
    refine x_ret (v := some (.int (zI 1))) i_199_21 rfl (fun _ => rfl) rfl rfl (pFin_b (by omega)) ?_
    show aW _ _ _ _ _ _ (6, [some (.ref 143), some (.int (zI fi))], [.int (zI 1)], es1)
    refine x_ret (v := some (.int (zI 1))) i_203_6 rfl (fun _ => rfl) rfl rfl (pFin_b (by omega)) ?_
    show aW _ _ _ _ _ _ (11, [some (.ref 143), some (.int (zI fi)), some (.int (zI se)), none, none, none, none, none, none], [.int (zI 1), .ref 143], es1)
    refine x_ifT i_271_11 (by unfold i32 iLO iHI; omega) rfl (by simp only [zC, cR]; omega) ?_
    refine x0 (r := (23, [some (.ref 143), some (.int (zI fi)), some (.int (zI se)), none, none, none, none, none, none], [.int (zI 1), .ref 143], es1)) i_271_22 (by rfl) ?_
    refine x0 (r := (27, [some (.ref 143), some (.int (zI fi)), some (.int (zI se)), none, none, none, none, none, none], [.int (zI 1), .ref 143], es1)) i_271_23 rfl ?_
    refine x0 (r := (28, [some (.ref 143), some (.int (zI fi)), some (.int (zI se)), none, none, none, none, none, none], [.int (zI 1), .int (zI 1), .ref 143], es1)) i_271_27 (by rfl) ?_
    refine x_call (vs := [.ref 143, .int (zI 1), .int (zI 1)]) (rs := []) i_271_28 rfl (fun _ => rfl) rfl rfl rfl rfl rfl (pCall_v (p := 79) hs_es1 rfl rfl rfl rfl rfl (by decide) rfl rfl rfl rfl rfl) ?_
    show aW _ _ _ _ _ _ (0, [some (.ref 143), some (.int (zI 1)), some (.int (zI 1))], [], es1)
    refine x0 (r := (1, [some (.ref 143), some (.int (zI 1)), some (.int (zI 1))], [.int (zI 1)], es1)) i_194_0 rfl ?_
    refine x_ifF i_194_1 (by unfold i32 iLO iHI; omega) rfl (by simp only [zC, cR]; omega) ?_
    refine x0 (r := (5, [some (.ref 143), some (.int (zI 1)), some (.int (zI 1))], [.ref 143], es1)) i_194_4 rfl ?_
    refine x0 (r := (6, [some (.ref 143), some (.int (zI 1)), some (.int (zI 1))], [.int (zI 1), .ref 143], es1)) i_194_5 rfl ?_
    refine x_puti (p := 79) (ty := .int) i_194_6 hs_es1 rfl rfl rfl (Or.inl rfl) ?_
    obtain ⟨es4, e_es4⟩ : ∃ z : PH, z = sI es1 79 0 (.int (zI 1)) := ⟨_, rfl⟩
    have hs_es4 : sh es4 := by rw [e_es4]; exact sh_sI hs_es1 (p := 79) (b := 0) rfl rfl
    have hT_es4 : hOK tT es4 := by rw [e_es4]; exact hOK_sI hT_es1 (p := 79) (b := 0) (lo := iLO) (hi := iHI) rfl rfl (i32_rng _)
    rw [← e_es4]
    refine x0 (r := (10, [some (.ref 143), some (.int (zI 1)), some (.int (zI 1))], [.int (zI 1)], es4)) i_194_9 rfl ?_
    refine x_ret (v := some (.int (zI 1))) i_194_10 rfl (fun _ => rfl) rfl rfl (pFin_b (by omega)) ?_
    show aW _ _ _ _ _ _ (31, [some (.ref 143), some (.int (zI fi)), some (.int (zI se)), none, none, none, none, none, none], [.int (zI 1)], es4)
    refine x_ifF i_271_31 (by unfold i32 iLO iHI; omega) rfl (by simp only [zC, cR]; omega) ?_
    refine x0 (r := (35, [some (.ref 143), some (.int (zI fi)), some (.int (zI se)), none, none, none, none, none, none], [.int (zI 0)], es4)) i_271_34 (by rfl) ?_
    refine x_ret (v := some (.int (zI 0))) i_271_35 rfl (fun _ => rfl) rfl rfl rfl ?_
    exact K1 es1 e_es1 v2 e_v2 c3 es4 e_es4
  · refine x_cmpF i_193_2 (by unfold i32 iLO iHI; omega) (by unfold i32 iLO iHI; omega) rfl (by simp only [zC, cR]; omega) ?_
    refine x0 (r := (6, [some (.int (zI fi)), some (.int (zI 0)), some (.int (zI (v2 - 1)))], [.int (zI fi)], es1)) i_193_5 rfl ?_
    refine x0 (r := (7, [some (.int (zI fi)), some (.int (zI 0)), some (.int (zI (v2 - 1)))], [.int (zI (v2 - 1)), .int (zI fi)], es1)) i_193_6 rfl ?_
    by_cases c5 : (v2 - 1) < fi
    · refine x_cmpT i_193_7 (by unfold i32 iLO iHI; omega) (by unfold i32 iLO iHI; omega) rfl (by simp only [zC, cR]; omega) ?_
      refine x0 (r := (15, [some (.int (zI fi)), some (.int (zI 0)), some (.int (zI (v2 - 1)))], [.int (zI 0)], es1)) i_193_14 (by rfl) ?_
      refine x_ret (v := some (.int (zI 0))) i_193_15 rfl (fun _ => rfl) rfl rfl (pFin_b (by omega)) ?_
      show aW _ _ _ _ _ _ (13, [some (.ref 143), some (.int (zI fi)), some (.int (zI 1))], [.int (zI 0)], es1)
      refine x_ifF i_199_13 (by unfold i32 iLO iHI; omega) rfl (by simp only [zC, cR]; omega) ?_
      refine x0 (r := (17, [some (.ref 143), some (.int (zI fi)), some (.int (zI 1))], [.int (zI 1)], es1)) i_199_16 (by rfl) ?_
      refine x0 (r := (21, [some (.ref 143), some (.int (zI fi)), some (.int (zI 1))], [.int (zI 1)], es1)) i_199_17 rfl ?_
      refine x_ret (v := some (.int (zI 1))) i_199_21 rfl (fun _ => rfl) rfl rfl (pFin_b (by omega)) ?_
      show aW _ _ _ _ _ _ (6, [some (.ref 143), some (.int (zI fi))], [.int (zI 1)], es1)
      refine x_ret (v := some (.int (zI 1))) i_203_6 rfl (fun _ => rfl) rfl rfl (pFin_b (by omega)) ?_
      show aW _ _ _ _ _ _ (11, [some (.ref 143), some (.int (zI fi)), some (.int (zI se)), none, none, none, none, none, none], [.int (zI 1), .ref 143], es1)
      refine x_ifT i_271_11 (by unfold i32 iLO iHI; omega) rfl (by simp only [zC, cR]; omega) ?_
      refine x0 (r := (23, [some (.ref 143), some (.int (zI fi)), some (.int (zI se)), none, none, none, none, none, none], [.int (zI 1), .ref 143], es1)) i_271_22 (by rfl) ?_
      refine x0 (r := (27, [some (.ref 143), some (.int (zI fi)), some (.int (zI se)), none, none, none, none, none, none], [.int (zI 1), .ref 143], es1)) i_271_23 rfl ?_
      refine x0 (r := (28, [some (.ref 143), some (.int (zI fi)), some (.int (zI se)), none, none, none, none, none, none], [.int (zI 1), .int (zI 1), .ref 143], es1)) i_271_27 (by rfl) ?_
      refine x_call (vs := [.ref 143, .int (zI 1), .int (zI 1)]) (rs := []) i_271_28 rfl (fun _ => rfl) rfl rfl rfl rfl rfl (pCall_v (p := 79) hs_es1 rfl rfl rfl rfl rfl (by decide) rfl rfl rfl rfl rfl) ?_
      show aW _ _ _ _ _ _ (0, [some (.ref 143), some (.int (zI 1)), some (.int (zI 1))], [], es1)
      refine x0 (r := (1, [some (.ref 143), some (.int (zI 1)), some (.int (zI 1))], [.int (zI 1)], es1)) i_194_0 rfl ?_
      refine x_ifF i_194_1 (by unfold i32 iLO iHI; omega) rfl (by simp only [zC, cR]; omega) ?_
      refine x0 (r := (5, [some (.ref 143), some (.int (zI 1)), some (.int (zI 1))], [.ref 143], es1)) i_194_4 rfl ?_
      refine x0 (r := (6, [some (.ref 143), some (.int (zI 1)), some (.int (zI 1))], [.int (zI 1), .ref 143], es1)) i_194_5 rfl ?_
      refine x_puti (p := 79) (ty := .int) i_194_6 hs_es1 rfl rfl rfl (Or.inl rfl) ?_
      obtain ⟨es6, e_es6⟩ : ∃ z : PH, z = sI es1 79 0 (.int (zI 1)) := ⟨_, rfl⟩
      have hs_es6 : sh es6 := by rw [e_es6]; exact sh_sI hs_es1 (p := 79) (b := 0) rfl rfl
      have hT_es6 : hOK tT es6 := by rw [e_es6]; exact hOK_sI hT_es1 (p := 79) (b := 0) (lo := iLO) (hi := iHI) rfl rfl (i32_rng _)
      rw [← e_es6]
      refine x0 (r := (10, [some (.ref 143), some (.int (zI 1)), some (.int (zI 1))], [.int (zI 1)], es6)) i_194_9 rfl ?_
      refine x_ret (v := some (.int (zI 1))) i_194_10 rfl (fun _ => rfl) rfl rfl (pFin_b (by omega)) ?_
      show aW _ _ _ _ _ _ (31, [some (.ref 143), some (.int (zI fi)), some (.int (zI se)), none, none, none, none, none, none], [.int (zI 1)], es6)
      refine x_ifF i_271_31 (by unfold i32 iLO iHI; omega) rfl (by simp only [zC, cR]; omega) ?_
      refine x0 (r := (35, [some (.ref 143), some (.int (zI fi)), some (.int (zI se)), none, none, none, none, none, none], [.int (zI 0)], es6)) i_271_34 (by rfl) ?_
      refine x_ret (v := some (.int (zI 0))) i_271_35 rfl (fun _ => rfl) rfl rfl rfl ?_
      exact K2 es1 e_es1 v2 e_v2 c3 c5 es6 e_es6
    · refine x_cmpF i_193_7 (by unfold i32 iLO iHI; omega) (by unfold i32 iLO iHI; omega) rfl (by simp only [zC, cR]; omega) ?_
      refine x0 (r := (11, [some (.int (zI fi)), some (.int (zI 0)), some (.int (zI (v2 - 1)))], [.int (zI 1)], es1)) i_193_10 (by rfl) ?_
      refine x0 (r := (15, [some (.int (zI fi)), some (.int (zI 0)), some (.int (zI (v2 - 1)))], [.int (zI 1)], es1)) i_193_11 rfl ?_
      refine x_ret (v := some (.int (zI 1))) i_193_15 rfl (fun _ => rfl) rfl rfl (pFin_b (by omega)) ?_
      show aW _ _ _ _ _ _ (13, [some (.ref 143), some (.int (zI fi)), some (.int (zI 1))], [.int (zI 1)], es1)
      refine x_ifT i_199_13 (by unfold i32 iLO iHI; omega) rfl (by simp only [zC, cR]; omega) ?_
      refine x0 (r := (21, [some (.ref 143), some (.int (zI fi)), some (.int (zI 1))], [.int (zI 0)], es1)) i_199_20 (by rfl) ?_
      refine x_ret (v := some (.int (zI 0))) i_199_21 rfl (fun _ => rfl) rfl rfl (pFin_b (by omega)) ?_
      show aW _ _ _ _ _ _ (6, [some (.ref 143), some (.int (zI fi))], [.int (zI 0)], es1)
      refine x_ret (v := some (.int (zI 0))) i_203_6 rfl (fun _ => rfl) rfl rfl (pFin_b (by omega)) ?_
      show aW _ _ _ _ _ _ (11, [some (.ref 143), some (.int (zI fi)), some (.int (zI se)), none, none, none, none, none, none], [.int (zI 0), .ref 143], es1)
      refine x_ifF i_271_11 (by unfold i32 iLO iHI; omega) rfl (by simp only [zC, cR]; omega) ?_
      refine x0 (r := (15, [some (.ref 143), some (.int (zI fi)), some (.int (zI se)), none, none, none, none, none, none], [.ref 143, .ref 143], es1)) i_271_14 rfl ?_
      refine x0 (r := (16, [some (.ref 143), some (.int (zI fi)), some (.int (zI se)), none, none, none, none, none, none], [.int (zI se), .ref 143, .ref 143], es1)) i_271_15 rfl ?_
      refine x_call (vs := [.ref 143, .int (zI se)]) (rs := [.ref 143]) i_271_16 rfl (fun _ => rfl) rfl rfl rfl rfl rfl (pCall_v (p := 79) hs_es1 rfl rfl rfl rfl rfl (by decide) rfl rfl rfl rfl rfl) ?_
      show aW _ _ _ _ _ _ (0, [some (.ref 143), some (.int (zI se))], [], es1)
      refine x0 (r := (1, [some (.ref 143), some (.int (zI se))], [.ref 143], es1)) i_203_0 rfl ?_
      refine x0 (r := (2, [some (.ref 143), some (.int (zI se))], [.int (zI se), .ref 143], es1)) i_203_1 rfl ?_
      refine x0 (r := (3, [some (.ref 143), some (.int (zI se))], [.int (zI 1), .int (zI se), .ref 143], es1)) i_203_2 (by rfl) ?_
      refine x_call (vs := [.ref 143, .int (zI se), .int (zI 1)]) (rs := []) i_203_3 rfl (fun _ => rfl) rfl rfl rfl rfl rfl (pCall_v (p := 79) hs_es1 rfl rfl rfl rfl rfl (by decide) rfl rfl rfl rfl rfl) ?_
      show aW _ _ _ _ _ _ (0, [some (.ref 143), some (.int (zI se)), some (.int (zI 1))], [], es1)
      refine x0 (r := (1, [some (.ref 143), some (.int (zI se)), some (.int (zI 1))], [.int (zI se)], es1)) i_199_0 rfl ?_
      refine x0 (r := (2, [some (.ref 143), some (.int (zI se)), some (.int (zI 1))], [.int (zI 0), .int (zI se)], es1)) i_199_1 (by rfl) ?_
      refine x0 (r := (3, [some (.ref 143), some (.int (zI se)), some (.int (zI 1))], [.ref 143, .int (zI 0), .int (zI se)], es1)) i_199_2 rfl ?_
      refine x_getr (p := 79) (k := 144) i_199_3 hs_es1 rfl rfl ?_
      show aW _ _ _ _ _ _ (6, [some (.ref 143), some (.int (zI se)), some (.int (zI 1))], [.ref 144, .int (zI 0), .int (zI se)], es1)
      refine x0 (r := (7, [some (.ref 143), some (.int (zI se)), some (.int (zI 1))], [.int (zI 1), .ref 144, .int (zI 0), .int (zI se)], es1)) i_199_6 rfl ?_
      refine x_iald (p := 80) i_199_7 hs_es1 rfl (by unfold i32 iLO iHI; omega) (by omega) (by omega) ?_
      rw [show (gA es1 80 (Int.toNat 1)).toInt = v2 from e_v2.symm]
      refine x0 (r := (9, [some (.ref 143), some (.int (zI se)), some (.int (zI 1))], [.int (zI 1), .int (zI v2), .int (zI 0), .int (zI se)], es1)) i_199_8 (by rfl) ?_
      refine x_isub i_199_9 ?_
      refine x_call (vs := [.int (zI se), .int (zI 0), .int (zI (v2 - 1))]) (rs := []) i_199_10 rfl (fun _ => rfl) rfl rfl rfl rfl rfl rfl ?_
      show aW _ _ _ _ _ _ (0, [some (.int (zI se)), some (.int (zI 0)), some (.int (zI (v2 - 1)))], [], es1)
      refine x0 (r := (1, [some (.int (zI se)), some (.int (zI 0)), some (.int (zI (v2 - 1)))], [.int (zI se)], es1)) i_193_0 rfl ?_
      refine x0 (r := (2, [some (.int (zI se)), some (.int (zI 0)), some (.int (zI (v2 - 1)))], [.int (zI 0), .int (zI se)], es1)) i_193_1 rfl ?_
      by_cases c7 : se < 0
      · refine x_cmpT i_193_2 (by unfold i32 iLO iHI; omega) (by unfold i32 iLO iHI; omega) rfl (by simp only [zC, cR]; omega) ?_
        refine x0 (r := (15, [some (.int (zI se)), some (.int (zI 0)), some (.int (zI (v2 - 1)))], [.int (zI 0)], es1)) i_193_14 (by rfl) ?_
        refine x_ret (v := some (.int (zI 0))) i_193_15 rfl (fun _ => rfl) rfl rfl (pFin_b (by omega)) ?_
        show aW _ _ _ _ _ _ (13, [some (.ref 143), some (.int (zI se)), some (.int (zI 1))], [.int (zI 0)], es1)
        refine x_ifF i_199_13 (by unfold i32 iLO iHI; omega) rfl (by simp only [zC, cR]; omega) ?_
        refine x0 (r := (17, [some (.ref 143), some (.int (zI se)), some (.int (zI 1))], [.int (zI 1)], es1)) i_199_16 (by rfl) ?_
        refine x0 (r := (21, [some (.ref 143), some (.int (zI se)), some (.int (zI 1))], [.int (zI 1)], es1)) i_199_17 rfl ?_
        refine x_ret (v := some (.int (zI 1))) i_199_21 rfl (fun _ => rfl) rfl rfl (pFin_b (by omega)) ?_
        show aW _ _ _ _ _ _ (6, [some (.ref 143), some (.int (zI se))], [.int (zI 1)], es1)
        refine x_ret (v := some (.int (zI 1))) i_203_6 rfl (fun _ => rfl) rfl rfl (pFin_b (by omega)) ?_
        show aW _ _ _ _ _ _ (19, [some (.ref 143), some (.int (zI fi)), some (.int (zI se)), none, none, none, none, none, none], [.int (zI 1), .ref 143], es1)
        refine x_ifF i_271_19 (by unfold i32 iLO iHI; omega) rfl (by simp only [zC, cR]; omega) ?_
        refine x0 (r := (23, [some (.ref 143), some (.int (zI fi)), some (.int (zI se)), none, none, none, none, none, none], [.int (zI 1), .ref 143], es1)) i_271_22 (by rfl) ?_
        refine x0 (r := (27, [some (.ref 143), some (.int (zI fi)), some (.int (zI se)), none, none, none, none, none, none], [.int (zI 1), .ref 143], es1)) i_271_23 rfl ?_
        refine x0 (r := (28, [some (.ref 143), some (.int (zI fi)), some (.int (zI se)), none, none, none, none, none, none], [.int (zI 1), .int (zI 1), .ref 143], es1)) i_271_27 (by rfl) ?_
        refine x_call (vs := [.ref 143, .int (zI 1), .int (zI 1)]) (rs := []) i_271_28 rfl (fun _ => rfl) rfl rfl rfl rfl rfl (pCall_v (p := 79) hs_es1 rfl rfl rfl rfl rfl (by decide) rfl rfl rfl rfl rfl) ?_
        show aW _ _ _ _ _ _ (0, [some (.ref 143), some (.int (zI 1)), some (.int (zI 1))], [], es1)
        refine x0 (r := (1, [some (.ref 143), some (.int (zI 1)), some (.int (zI 1))], [.int (zI 1)], es1)) i_194_0 rfl ?_
        refine x_ifF i_194_1 (by unfold i32 iLO iHI; omega) rfl (by simp only [zC, cR]; omega) ?_
        refine x0 (r := (5, [some (.ref 143), some (.int (zI 1)), some (.int (zI 1))], [.ref 143], es1)) i_194_4 rfl ?_
        refine x0 (r := (6, [some (.ref 143), some (.int (zI 1)), some (.int (zI 1))], [.int (zI 1), .ref 143], es1)) i_194_5 rfl ?_
        refine x_puti (p := 79) (ty := .int) i_194_6 hs_es1 rfl rfl rfl (Or.inl rfl) ?_
        obtain ⟨es8, e_es8⟩ : ∃ z : PH, z = sI es1 79 0 (.int (zI 1)) := ⟨_, rfl⟩
        have hs_es8 : sh es8 := by rw [e_es8]; exact sh_sI hs_es1 (p := 79) (b := 0) rfl rfl
        have hT_es8 : hOK tT es8 := by rw [e_es8]; exact hOK_sI hT_es1 (p := 79) (b := 0) (lo := iLO) (hi := iHI) rfl rfl (i32_rng _)
        rw [← e_es8]
        refine x0 (r := (10, [some (.ref 143), some (.int (zI 1)), some (.int (zI 1))], [.int (zI 1)], es8)) i_194_9 rfl ?_
        refine x_ret (v := some (.int (zI 1))) i_194_10 rfl (fun _ => rfl) rfl rfl (pFin_b (by omega)) ?_
        show aW _ _ _ _ _ _ (31, [some (.ref 143), some (.int (zI fi)), some (.int (zI se)), none, none, none, none, none, none], [.int (zI 1)], es8)
        refine x_ifF i_271_31 (by unfold i32 iLO iHI; omega) rfl (by simp only [zC, cR]; omega) ?_
        refine x0 (r := (35, [some (.ref 143), some (.int (zI fi)), some (.int (zI se)), none, none, none, none, none, none], [.int (zI 0)], es8)) i_271_34 (by rfl) ?_
        refine x_ret (v := some (.int (zI 0))) i_271_35 rfl (fun _ => rfl) rfl rfl rfl ?_
        exact K3 es1 e_es1 v2 e_v2 c3 c5 c7 es8 e_es8
      · refine x_cmpF i_193_2 (by unfold i32 iLO iHI; omega) (by unfold i32 iLO iHI; omega) rfl (by simp only [zC, cR]; omega) ?_
        refine x0 (r := (6, [some (.int (zI se)), some (.int (zI 0)), some (.int (zI (v2 - 1)))], [.int (zI se)], es1)) i_193_5 rfl ?_
        refine x0 (r := (7, [some (.int (zI se)), some (.int (zI 0)), some (.int (zI (v2 - 1)))], [.int (zI (v2 - 1)), .int (zI se)], es1)) i_193_6 rfl ?_
        by_cases c9 : (v2 - 1) < se
        · refine x_cmpT i_193_7 (by unfold i32 iLO iHI; omega) (by unfold i32 iLO iHI; omega) rfl (by simp only [zC, cR]; omega) ?_
          refine x0 (r := (15, [some (.int (zI se)), some (.int (zI 0)), some (.int (zI (v2 - 1)))], [.int (zI 0)], es1)) i_193_14 (by rfl) ?_
          refine x_ret (v := some (.int (zI 0))) i_193_15 rfl (fun _ => rfl) rfl rfl (pFin_b (by omega)) ?_
          show aW _ _ _ _ _ _ (13, [some (.ref 143), some (.int (zI se)), some (.int (zI 1))], [.int (zI 0)], es1)
          refine x_ifF i_199_13 (by unfold i32 iLO iHI; omega) rfl (by simp only [zC, cR]; omega) ?_
          refine x0 (r := (17, [some (.ref 143), some (.int (zI se)), some (.int (zI 1))], [.int (zI 1)], es1)) i_199_16 (by rfl) ?_
          refine x0 (r := (21, [some (.ref 143), some (.int (zI se)), some (.int (zI 1))], [.int (zI 1)], es1)) i_199_17 rfl ?_
          refine x_ret (v := some (.int (zI 1))) i_199_21 rfl (fun _ => rfl) rfl rfl (pFin_b (by omega)) ?_
          show aW _ _ _ _ _ _ (6, [some (.ref 143), some (.int (zI se))], [.int (zI 1)], es1)
          refine x_ret (v := some (.int (zI 1))) i_203_6 rfl (fun _ => rfl) rfl rfl (pFin_b (by omega)) ?_
          show aW _ _ _ _ _ _ (19, [some (.ref 143), some (.int (zI fi)), some (.int (zI se)), none, none, none, none, none, none], [.int (zI 1), .ref 143], es1)
          refine x_ifF i_271_19 (by unfold i32 iLO iHI; omega) rfl (by simp only [zC, cR]; omega) ?_
          refine x0 (r := (23, [some (.ref 143), some (.int (zI fi)), some (.int (zI se)), none, none, none, none, none, none], [.int (zI 1), .ref 143], es1)) i_271_22 (by rfl) ?_
          refine x0 (r := (27, [some (.ref 143), some (.int (zI fi)), some (.int (zI se)), none, none, none, none, none, none], [.int (zI 1), .ref 143], es1)) i_271_23 rfl ?_
          refine x0 (r := (28, [some (.ref 143), some (.int (zI fi)), some (.int (zI se)), none, none, none, none, none, none], [.int (zI 1), .int (zI 1), .ref 143], es1)) i_271_27 (by rfl) ?_
          refine x_call (vs := [.ref 143, .int (zI 1), .int (zI 1)]) (rs := []) i_271_28 rfl (fun _ => rfl) rfl rfl rfl rfl rfl (pCall_v (p := 79) hs_es1 rfl rfl rfl rfl rfl (by decide) rfl rfl rfl rfl rfl) ?_
          show aW _ _ _ _ _ _ (0, [some (.ref 143), some (.int (zI 1)), some (.int (zI 1))], [], es1)
          refine x0 (r := (1, [some (.ref 143), some (.int (zI 1)), some (.int (zI 1))], [.int (zI 1)], es1)) i_194_0 rfl ?_
          refine x_ifF i_194_1 (by unfold i32 iLO iHI; omega) rfl (by simp only [zC, cR]; omega) ?_
          refine x0 (r := (5, [some (.ref 143), some (.int (zI 1)), some (.int (zI 1))], [.ref 143], es1)) i_194_4 rfl ?_
          refine x0 (r := (6, [some (.ref 143), some (.int (zI 1)), some (.int (zI 1))], [.int (zI 1), .ref 143], es1)) i_194_5 rfl ?_
          refine x_puti (p := 79) (ty := .int) i_194_6 hs_es1 rfl rfl rfl (Or.inl rfl) ?_
          obtain ⟨es10, e_es10⟩ : ∃ z : PH, z = sI es1 79 0 (.int (zI 1)) := ⟨_, rfl⟩
          have hs_es10 : sh es10 := by rw [e_es10]; exact sh_sI hs_es1 (p := 79) (b := 0) rfl rfl
          have hT_es10 : hOK tT es10 := by rw [e_es10]; exact hOK_sI hT_es1 (p := 79) (b := 0) (lo := iLO) (hi := iHI) rfl rfl (i32_rng _)
          rw [← e_es10]
          refine x0 (r := (10, [some (.ref 143), some (.int (zI 1)), some (.int (zI 1))], [.int (zI 1)], es10)) i_194_9 rfl ?_
          refine x_ret (v := some (.int (zI 1))) i_194_10 rfl (fun _ => rfl) rfl rfl (pFin_b (by omega)) ?_
          show aW _ _ _ _ _ _ (31, [some (.ref 143), some (.int (zI fi)), some (.int (zI se)), none, none, none, none, none, none], [.int (zI 1)], es10)
          refine x_ifF i_271_31 (by unfold i32 iLO iHI; omega) rfl (by simp only [zC, cR]; omega) ?_
          refine x0 (r := (35, [some (.ref 143), some (.int (zI fi)), some (.int (zI se)), none, none, none, none, none, none], [.int (zI 0)], es10)) i_271_34 (by rfl) ?_
          refine x_ret (v := some (.int (zI 0))) i_271_35 rfl (fun _ => rfl) rfl rfl rfl ?_
          exact K4 es1 e_es1 v2 e_v2 c3 c5 c7 c9 es10 e_es10
        · refine x_cmpF i_193_7 (by unfold i32 iLO iHI; omega) (by unfold i32 iLO iHI; omega) rfl (by simp only [zC, cR]; omega) ?_
          refine x0 (r := (11, [some (.int (zI se)), some (.int (zI 0)), some (.int (zI (v2 - 1)))], [.int (zI 1)], es1)) i_193_10 (by rfl) ?_
          refine x0 (r := (15, [some (.int (zI se)), some (.int (zI 0)), some (.int (zI (v2 - 1)))], [.int (zI 1)], es1)) i_193_11 rfl ?_
          refine x_ret (v := some (.int (zI 1))) i_193_15 rfl (fun _ => rfl) rfl rfl (pFin_b (by omega)) ?_
          show aW _ _ _ _ _ _ (13, [some (.ref 143), some (.int (zI se)), some (.int (zI 1))], [.int (zI 1)], es1)
          refine x_ifT i_199_13 (by unfold i32 iLO iHI; omega) rfl (by simp only [zC, cR]; omega) ?_
          refine x0 (r := (21, [some (.ref 143), some (.int (zI se)), some (.int (zI 1))], [.int (zI 0)], es1)) i_199_20 (by rfl) ?_
          refine x_ret (v := some (.int (zI 0))) i_199_21 rfl (fun _ => rfl) rfl rfl (pFin_b (by omega)) ?_
          show aW _ _ _ _ _ _ (6, [some (.ref 143), some (.int (zI se))], [.int (zI 0)], es1)
          refine x_ret (v := some (.int (zI 0))) i_203_6 rfl (fun _ => rfl) rfl rfl (pFin_b (by omega)) ?_
          show aW _ _ _ _ _ _ (19, [some (.ref 143), some (.int (zI fi)), some (.int (zI se)), none, none, none, none, none, none], [.int (zI 0), .ref 143], es1)
          refine x_ifT i_271_19 (by unfold i32 iLO iHI; omega) rfl (by simp only [zC, cR]; omega) ?_
          refine x0 (r := (27, [some (.ref 143), some (.int (zI fi)), some (.int (zI se)), none, none, none, none, none, none], [.int (zI 0), .ref 143], es1)) i_271_26 (by rfl) ?_
          refine x0 (r := (28, [some (.ref 143), some (.int (zI fi)), some (.int (zI se)), none, none, none, none, none, none], [.int (zI 1), .int (zI 0), .ref 143], es1)) i_271_27 (by rfl) ?_
          refine x_call (vs := [.ref 143, .int (zI 0), .int (zI 1)]) (rs := []) i_271_28 rfl (fun _ => rfl) rfl rfl rfl rfl rfl (pCall_v (p := 79) hs_es1 rfl rfl rfl rfl rfl (by decide) rfl rfl rfl rfl rfl) ?_
          show aW _ _ _ _ _ _ (0, [some (.ref 143), some (.int (zI 0)), some (.int (zI 1))], [], es1)
          refine x0 (r := (1, [some (.ref 143), some (.int (zI 0)), some (.int (zI 1))], [.int (zI 0)], es1)) i_194_0 rfl ?_
          refine x_ifT i_194_1 (by unfold i32 iLO iHI; omega) rfl (by simp only [zC, cR]; omega) ?_
          refine x0 (r := (10, [some (.ref 143), some (.int (zI 0)), some (.int (zI 1))], [.int (zI 0)], es1)) i_194_9 rfl ?_
          refine x_ret (v := some (.int (zI 0))) i_194_10 rfl (fun _ => rfl) rfl rfl (pFin_b (by omega)) ?_
          show aW _ _ _ _ _ _ (31, [some (.ref 143), some (.int (zI fi)), some (.int (zI se)), none, none, none, none, none, none], [.int (zI 0)], es1)
          refine x_ifT i_271_31 (by unfold i32 iLO iHI; omega) rfl (by simp only [zC, cR]; omega) ?_
          refine x0 (r := (38, [some (.ref 143), some (.int (zI fi)), some (.int (zI se)), none, none, none, none, none, none], [.int (zI 25)], es1)) i_271_36 (by rfl) ?_
          refine x0 (r := (39, [some (.ref 143), some (.int (zI fi)), some (.int (zI se)), some (.int (zI 25)), none, none, none, none, none], [], es1)) i_271_38 rfl ?_
          refine x0 (r := (40, [some (.ref 143), some (.int (zI fi)), some (.int (zI se)), some (.int (zI 25)), none, none, none, none, none], [.int (zI 0)], es1)) i_271_39 (by rfl) ?_
          refine x0 (r := (42, [some (.ref 143), some (.int (zI fi)), some (.int (zI se)), some (.int (zI 25)), some (.int (zI 0)), none, none, none, none], [], es1)) i_271_40 rfl ?_
          exact K5 es1 e_es1 v2 e_v2 c3 c5 c7 c9
theorem s_mak42 {O : pOut} {d kc ks : Nat} {Q : pRes → Prop} {es : PH} {fi se a : Int} {x5 x6 x7 x8 : Option Value} (hs_es : sh es) (h0 : 0 ≤ fi ∧ fi ≤ 2) (h1 : 0 ≤ se ∧ se ≤ 2) (h2 : 0 ≤ a ∧ a ≤ 25) (hT_es : hOK tT es)
    (K1 : ∀ v1 : Int, v1 = (gA es 80 ((119 + (98 * fi)) + 1).toNat).toInt → v1 < a → ∀ v3 : Int, v3 = (gA es 80 ((119 + (98 * se)) + 1).toNat).toInt → ∀ v4 : Int, v4 = (gA es 106 ((25 * v1) + v3).toNat).toInt → Q (.inl (some (.int (zI v4))), es, kc, ks))
    (K2 : ∀ v1 : Int, v1 = (gA es 80 ((119 + (98 * fi)) + 1).toNat).toInt → ¬ (v1 < a) → aW O (d + 2) 271 kc ks Q (55, [some (.ref 143), some (.int (zI fi)), some (.int (zI se)), some (.int (zI 25)), some (.int (zI a)), some (.int (zI 0)), x6, x7, x8], [], es)) :
    aW O (d + 2) 271 kc ks Q (42, [some (.ref 143), some (.int (zI fi)), some (.int (zI se)), some (.int (zI 25)), some (.int (zI a)), x5, x6, x7, x8], [], es) := by
  refine x0 (r := (44, [some (.ref 143), some (.int (zI fi)), some (.int (zI se)), some (.int (zI 25)), some (.int (zI a)), x5, x6, x7, x8], [.int (zI a)], es)) i_271_42 rfl ?_
  refine x0 (r := (45, [some (.ref 143), some (.int (zI fi)), some (.int (zI se)), some (.int (zI 25)), some (.int (zI a)), x5, x6, x7, x8], [.ref 143, .int (zI a)], es)) i_271_44 rfl ?_
  refine x0 (r := (46, [some (.ref 143), some (.int (zI fi)), some (.int (zI se)), some (.int (zI 25)), some (.int (zI a)), x5, x6, x7, x8], [.int (zI fi), .ref 143, .int (zI a)], es)) i_271_45 rfl ?_
  refine x_call (vs := [.ref 143, .int (zI fi)]) (rs := [.int (zI a)]) i_271_46 rfl (fun _ => rfl) rfl rfl rfl rfl rfl (pCall_v (p := 79) hs_es rfl rfl rfl rfl rfl (by decide) rfl rfl rfl rfl rfl) ?_
  show aW _ _ _ _ _ _ (0, [some (.ref 143), some (.int (zI fi))], [], es)
  refine x0 (r := (1, [some (.ref 143), some (.int (zI fi))], [.ref 143], es)) i_205_0 rfl ?_
  refine x0 (r := (2, [some (.ref 143), some (.int (zI fi))], [.int (zI fi), .ref 143], es)) i_205_1 rfl ?_
  refine x0 (r := (3, [some (.ref 143), some (.int (zI fi))], [.int (zI 1), .int (zI fi), .ref 143], es)) i_205_2 (by rfl) ?_
  refine x_call (vs := [.ref 143, .int (zI fi), .int (zI 1)]) (rs := []) i_205_3 rfl (fun _ => rfl) rfl rfl rfl rfl rfl (pCall_v (p := 79) hs_es rfl rfl rfl rfl rfl (by decide) rfl rfl rfl rfl rfl) ?_
  show aW _ _ _ _ _ _ (0, [some (.ref 143), some (.int (zI fi)), some (.int (zI 1))], [], es)
  refine x0 (r := (1, [some (.ref 143), some (.int (zI fi)), some (.int (zI 1))], [.ref 143], es)) i_206_0 rfl ?_
  refine x_getr (p := 79) (k := 144) i_206_1 hs_es rfl rfl ?_
  show aW _ _ _ _ _ _ (4, [some (.ref 143), some (.int (zI fi)), some (.int (zI 1))], [.ref 144], es)
  refine x0 (r := (6, [some (.ref 143), some (.int (zI fi)), some (.int (zI 1))], [.int (zI 119), .ref 144], es)) i_206_4 (by rfl) ?_
  refine x0 (r := (8, [some (.ref 143), some (.int (zI fi)), some (.int (zI 1))], [.int (zI 98), .int (zI 119), .ref 144], es)) i_206_6 (by rfl) ?_
  refine x0 (r := (9, [some (.ref 143), some (.int (zI fi)), some (.int (zI 1))], [.int (zI fi), .int (zI 98), .int (zI 119), .ref 144], es)) i_206_8 rfl ?_
  refine x_imul i_206_9 ?_
  refine x_iadd i_206_10 ?_
  refine x0 (r := (12, [some (.ref 143), some (.int (zI fi)), some (.int (zI 1))], [.int (zI 1), .int (zI (119 + (98 * fi))), .ref 144], es)) i_206_11 rfl ?_
  refine x_iadd i_206_12 ?_
  refine x_iald (p := 80) i_206_13 hs_es rfl (by unfold i32 iLO iHI; omega) (by omega) (by omega) ?_
  obtain ⟨v1, e_v1⟩ : ∃ z : Int, z = (gA es 80 ((119 + (98 * fi)) + 1).toNat).toInt := ⟨_, rfl⟩
  rw [← e_v1]
  have r_v1 : iLO ≤ v1 ∧ v1 ≤ iHI := by rw [e_v1]; exact i32_rng _
  unfold iLO iHI at r_v1
  have b_v1 : (0 : Int) ≤ v1 ∧ v1 ≤ (24 : Int) := by rw [e_v1]; exact cnt_bd hT_es (by omega) (by omega)
  refine x_ret (v := some (.int (zI v1))) i_206_14 rfl (fun _ => rfl) rfl rfl rfl ?_
  show aW _ _ _ _ _ _ (6, [some (.ref 143), some (.int (zI fi))], [.int (zI v1)], es)
  refine x_ret (v := some (.int (zI v1))) i_205_6 rfl (fun _ => rfl) rfl rfl rfl ?_
  show aW _ _ _ _ _ _ (49, [some (.ref 143), some (.int (zI fi)), some (.int (zI se)), some (.int (zI 25)), some (.int (zI a)), x5, x6, x7, x8], [.int (zI v1), .int (zI a)], es)
  by_cases c2 : v1 < a
  · refine x_cmpT i_271_49 (by unfold i32 iLO iHI; omega) (by unfold i32 iLO iHI; omega) rfl (by simp only [zC, cR]; omega) ?_
    refine x0 (r := (219, [some (.ref 143), some (.int (zI fi)), some (.int (zI se)), some (.int (zI 25)), some (.int (zI a)), x5, x6, x7, x8], [.ref 143], es)) i_271_218 rfl ?_
    refine x_getr (p := 79) (k := 170) i_271_219 hs_es rfl rfl ?_
    show aW _ _ _ _ _ _ (222, [some (.ref 143), some (.int (zI fi)), some (.int (zI se)), some (.int (zI 25)), some (.int (zI a)), x5, x6, x7, x8], [.ref 170], es)
    refine x0 (r := (223, [some (.ref 143), some (.int (zI fi)), some (.int (zI se)), some (.int (zI 25)), some (.int (zI a)), x5, x6, x7, x8], [.int (zI 25), .ref 170], es)) i_271_222 rfl ?_
    refine x0 (r := (224, [some (.ref 143), some (.int (zI fi)), some (.int (zI se)), some (.int (zI 25)), some (.int (zI a)), x5, x6, x7, x8], [.ref 143, .int (zI 25), .ref 170], es)) i_271_223 rfl ?_
    refine x0 (r := (225, [some (.ref 143), some (.int (zI fi)), some (.int (zI se)), some (.int (zI 25)), some (.int (zI a)), x5, x6, x7, x8], [.int (zI fi), .ref 143, .int (zI 25), .ref 170], es)) i_271_224 rfl ?_
    refine x_call (vs := [.ref 143, .int (zI fi)]) (rs := [.int (zI 25), .ref 170]) i_271_225 rfl (fun _ => rfl) rfl rfl rfl rfl rfl (pCall_v (p := 79) hs_es rfl rfl rfl rfl rfl (by decide) rfl rfl rfl rfl rfl) ?_
    show aW _ _ _ _ _ _ (0, [some (.ref 143), some (.int (zI fi))], [], es)
    refine x0 (r := (1, [some (.ref 143), some (.int (zI fi))], [.ref 143], es)) i_205_0 rfl ?_
    refine x0 (r := (2, [some (.ref 143), some (.int (zI fi))], [.int (zI fi), .ref 143], es)) i_205_1 rfl ?_
    refine x0 (r := (3, [some (.ref 143), some (.int (zI fi))], [.int (zI 1), .int (zI fi), .ref 143], es)) i_205_2 (by rfl) ?_
    refine x_call (vs := [.ref 143, .int (zI fi), .int (zI 1)]) (rs := []) i_205_3 rfl (fun _ => rfl) rfl rfl rfl rfl rfl (pCall_v (p := 79) hs_es rfl rfl rfl rfl rfl (by decide) rfl rfl rfl rfl rfl) ?_
    show aW _ _ _ _ _ _ (0, [some (.ref 143), some (.int (zI fi)), some (.int (zI 1))], [], es)
    refine x0 (r := (1, [some (.ref 143), some (.int (zI fi)), some (.int (zI 1))], [.ref 143], es)) i_206_0 rfl ?_
    refine x_getr (p := 79) (k := 144) i_206_1 hs_es rfl rfl ?_
    show aW _ _ _ _ _ _ (4, [some (.ref 143), some (.int (zI fi)), some (.int (zI 1))], [.ref 144], es)
    refine x0 (r := (6, [some (.ref 143), some (.int (zI fi)), some (.int (zI 1))], [.int (zI 119), .ref 144], es)) i_206_4 (by rfl) ?_
    refine x0 (r := (8, [some (.ref 143), some (.int (zI fi)), some (.int (zI 1))], [.int (zI 98), .int (zI 119), .ref 144], es)) i_206_6 (by rfl) ?_
    refine x0 (r := (9, [some (.ref 143), some (.int (zI fi)), some (.int (zI 1))], [.int (zI fi), .int (zI 98), .int (zI 119), .ref 144], es)) i_206_8 rfl ?_
    refine x_imul i_206_9 ?_
    refine x_iadd i_206_10 ?_
    refine x0 (r := (12, [some (.ref 143), some (.int (zI fi)), some (.int (zI 1))], [.int (zI 1), .int (zI (119 + (98 * fi))), .ref 144], es)) i_206_11 rfl ?_
    refine x_iadd i_206_12 ?_
    refine x_iald (p := 80) i_206_13 hs_es rfl (by unfold i32 iLO iHI; omega) (by omega) (by omega) ?_
    rw [show (gA es 80 ((119 + (98 * fi)) + 1).toNat).toInt = v1 from e_v1.symm]
    refine x_ret (v := some (.int (zI v1))) i_206_14 rfl (fun _ => rfl) rfl rfl rfl ?_
    show aW _ _ _ _ _ _ (6, [some (.ref 143), some (.int (zI fi))], [.int (zI v1)], es)
    refine x_ret (v := some (.int (zI v1))) i_205_6 rfl (fun _ => rfl) rfl rfl rfl ?_
    show aW _ _ _ _ _ _ (228, [some (.ref 143), some (.int (zI fi)), some (.int (zI se)), some (.int (zI 25)), some (.int (zI a)), x5, x6, x7, x8], [.int (zI v1), .int (zI 25), .ref 170], es)
    refine x_imul i_271_228 ?_
    refine x0 (r := (230, [some (.ref 143), some (.int (zI fi)), some (.int (zI se)), some (.int (zI 25)), some (.int (zI a)), x5, x6, x7, x8], [.ref 143, .int (zI (25 * v1)), .ref 170], es)) i_271_229 rfl ?_
    refine x0 (r := (231, [some (.ref 143), some (.int (zI fi)), some (.int (zI se)), some (.int (zI 25)), some (.int (zI a)), x5, x6, x7, x8], [.int (zI se), .ref 143, .int (zI (25 * v1)), .ref 170], es)) i_271_230 rfl ?_
    refine x_call (vs := [.ref 143, .int (zI se)]) (rs := [.int (zI (25 * v1)), .ref 170]) i_271_231 rfl (fun _ => rfl) rfl rfl rfl rfl rfl (pCall_v (p := 79) hs_es rfl rfl rfl rfl rfl (by decide) rfl rfl rfl rfl rfl) ?_
    show aW _ _ _ _ _ _ (0, [some (.ref 143), some (.int (zI se))], [], es)
    refine x0 (r := (1, [some (.ref 143), some (.int (zI se))], [.ref 143], es)) i_205_0 rfl ?_
    refine x0 (r := (2, [some (.ref 143), some (.int (zI se))], [.int (zI se), .ref 143], es)) i_205_1 rfl ?_
    refine x0 (r := (3, [some (.ref 143), some (.int (zI se))], [.int (zI 1), .int (zI se), .ref 143], es)) i_205_2 (by rfl) ?_
    refine x_call (vs := [.ref 143, .int (zI se), .int (zI 1)]) (rs := []) i_205_3 rfl (fun _ => rfl) rfl rfl rfl rfl rfl (pCall_v (p := 79) hs_es rfl rfl rfl rfl rfl (by decide) rfl rfl rfl rfl rfl) ?_
    show aW _ _ _ _ _ _ (0, [some (.ref 143), some (.int (zI se)), some (.int (zI 1))], [], es)
    refine x0 (r := (1, [some (.ref 143), some (.int (zI se)), some (.int (zI 1))], [.ref 143], es)) i_206_0 rfl ?_
    refine x_getr (p := 79) (k := 144) i_206_1 hs_es rfl rfl ?_
    show aW _ _ _ _ _ _ (4, [some (.ref 143), some (.int (zI se)), some (.int (zI 1))], [.ref 144], es)
    refine x0 (r := (6, [some (.ref 143), some (.int (zI se)), some (.int (zI 1))], [.int (zI 119), .ref 144], es)) i_206_4 (by rfl) ?_
    refine x0 (r := (8, [some (.ref 143), some (.int (zI se)), some (.int (zI 1))], [.int (zI 98), .int (zI 119), .ref 144], es)) i_206_6 (by rfl) ?_
    refine x0 (r := (9, [some (.ref 143), some (.int (zI se)), some (.int (zI 1))], [.int (zI se), .int (zI 98), .int (zI 119), .ref 144], es)) i_206_8 rfl ?_
    refine x_imul i_206_9 ?_
    refine x_iadd i_206_10 ?_
    refine x0 (r := (12, [some (.ref 143), some (.int (zI se)), some (.int (zI 1))], [.int (zI 1), .int (zI (119 + (98 * se))), .ref 144], es)) i_206_11 rfl ?_
    refine x_iadd i_206_12 ?_
    refine x_iald (p := 80) i_206_13 hs_es rfl (by unfold i32 iLO iHI; omega) (by omega) (by omega) ?_
    obtain ⟨v3, e_v3⟩ : ∃ z : Int, z = (gA es 80 ((119 + (98 * se)) + 1).toNat).toInt := ⟨_, rfl⟩
    rw [← e_v3]
    have r_v3 : iLO ≤ v3 ∧ v3 ≤ iHI := by rw [e_v3]; exact i32_rng _
    unfold iLO iHI at r_v3
    have b_v3 : (0 : Int) ≤ v3 ∧ v3 ≤ (24 : Int) := by rw [e_v3]; exact cnt_bd hT_es (by omega) (by omega)
    refine x_ret (v := some (.int (zI v3))) i_206_14 rfl (fun _ => rfl) rfl rfl rfl ?_
    show aW _ _ _ _ _ _ (6, [some (.ref 143), some (.int (zI se))], [.int (zI v3)], es)
    refine x_ret (v := some (.int (zI v3))) i_205_6 rfl (fun _ => rfl) rfl rfl rfl ?_
    show aW _ _ _ _ _ _ (234, [some (.ref 143), some (.int (zI fi)), some (.int (zI se)), some (.int (zI 25)), some (.int (zI a)), x5, x6, x7, x8], [.int (zI v3), .int (zI (25 * v1)), .ref 170], es)
    refine x_iadd i_271_234 ?_
    refine x_iald (p := 106) i_271_235 hs_es rfl (by unfold i32 iLO iHI; omega) (by omega) (by omega) ?_
    obtain ⟨v4, e_v4⟩ : ∃ z : Int, z = (gA es 106 ((25 * v1) + v3).toNat).toInt := ⟨_, rfl⟩
    rw [← e_v4]
    have r_v4 : iLO ≤ v4 ∧ v4 ≤ iHI := by rw [e_v4]; exact i32_rng _
    unfold iLO iHI at r_v4
    refine x_ret (v := some (.int (zI v4))) i_271_236 rfl (fun _ => rfl) rfl rfl rfl ?_
    exact K1 v1 e_v1 c2 v3 e_v3 v4 e_v4
  · refine x_cmpF i_271_49 (by unfold i32 iLO iHI; omega) (by unfold i32 iLO iHI; omega) rfl (by simp only [zC, cR]; omega) ?_
    refine x0 (r := (53, [some (.ref 143), some (.int (zI fi)), some (.int (zI se)), some (.int (zI 25)), some (.int (zI a)), x5, x6, x7, x8], [.int (zI 0)], es)) i_271_52 (by rfl) ?_
    refine x0 (r := (55, [some (.ref 143), some (.int (zI fi)), some (.int (zI se)), some (.int (zI 25)), some (.int (zI a)), some (.int (zI 0)), x6, x7, x8], [], es)) i_271_53 rfl ?_
    exact K2 v1 e_v1 c2
theorem s_mak55 {O : pOut} {d kc ks : Nat} {Q : pRes → Prop} {es : PH} {fi se a b : Int} {x6 x7 x8 : Option Value} (hs_es : sh es) (h0 : 0 ≤ fi ∧ fi ≤ 2) (h1 : 0 ≤ se ∧ se ≤ 2) (h2 : 0 ≤ a ∧ a ≤ 24) (h3 : 0 ≤ b ∧ b ≤ 25) (hT_es : hOK tT es)
    (K1 : ∀ v1 : Int, v1 = (gA es 80 ((119 + (98 * se)) + 1).toNat).toInt → v1 < b → aW O (d + 2) 271 kc ks Q (42, [some (.ref 143), some (.int (zI fi)), some (.int (zI se)), some (.int (zI 25)), some (.int (zI (a + 1))), some (.int (zI b)), x6, x7, x8], [], es))
    (K2 : ∀ v1 : Int, v1 = (gA es 80 ((119 + (98 * se)) + 1).toNat).toInt → ¬ (v1 < b) → a ≤ 0 → ∀ es4 : PH, es4 = sA es 106 ((25 * a) + b).toNat (zI 0) → aW O (d + 2) 271 kc ks Q (55, [some (.ref 143), some (.int (zI fi)), some (.int (zI se)), some (.int (zI 25)), some (.int (zI a)), some (.int (zI (b + 1))), some (.int (zI 0)), x7, x8], [], es4))
    (K3 : ∀ v1 : Int, v1 = (gA es 80 ((119 + (98 * se)) + 1).toNat).toInt → ¬ (v1 < b) → ¬ (a ≤ 0) → b ≤ 0 → ∀ es6 : PH, es6 = sA es 106 ((25 * a) + b).toNat (zI 0) → aW O (d + 2) 271 kc ks Q (55, [some (.ref 143), some (.int (zI fi)), some (.int (zI se)), some (.int (zI 25)), some (.int (zI a)), some (.int (zI (b + 1))), some (.int (zI 0)), x7, x8], [], es6))
    (K4 : ∀ v1 : Int, v1 = (gA es 80 ((119 + (98 * se)) + 1).toNat).toInt → ¬ (v1 < b) → ¬ (a ≤ 0) → ¬ (b ≤ 0) → ∀ v7 : Int, v7 = (gA es 80 ((119 + (98 * fi)) + ((2 + (4 * (a - 1))) + 0)).toNat).toInt → ∀ v8 : Int, v8 = (gA es 80 ((119 + (98 * se)) + ((2 + (4 * (b - 1))) + 0)).toNat).toInt → v7 ≠ v8 → ∀ v10 : Int, v10 = (gA es 106 ((25 * (a - 1)) + b).toNat).toInt → ∀ v11 : Int, v11 = (gA es 106 (((25 * a) + b) - 1).toNat).toInt → ∀ v12 : Int, v12 = max v10 v11 → ∀ es13 : PH, es13 = sA es 106 ((25 * a) + b).toNat (zI v12) → aW O (d + 2) 271 kc ks Q (55, [some (.ref 143), some (.int (zI fi)), some (.int (zI se)), some (.int (zI 25)), some (.int (zI a)), some (.int (zI (b + 1))), some (.int (zI v12)), some (.int (zI 0)), some (.int (zI 4))], [], es13))
    (K5 : ∀ v1 : Int, v1 = (gA es 80 ((119 + (98 * se)) + 1).toNat).toInt → ¬ (v1 < b) → ¬ (a ≤ 0) → ¬ (b ≤ 0) → ∀ v7 : Int, v7 = (gA es 80 ((119 + (98 * fi)) + ((2 + (4 * (a - 1))) + 0)).toNat).toInt → ∀ v8 : Int, v8 = (gA es 80 ((119 + (98 * se)) + ((2 + (4 * (b - 1))) + 0)).toNat).toInt → ¬ (v7 ≠ v8) → ∀ v14 : Int, v14 = (gA es 80 ((119 + (98 * fi)) + ((2 + (4 * (a - 1))) + 1)).toNat).toInt → ∀ v15 : Int, v15 = (gA es 80 ((119 + (98 * se)) + ((2 + (4 * (b - 1))) + 1)).toNat).toInt → v14 ≠ v15 → ∀ v17 : Int, v17 = (gA es 106 ((25 * (a - 1)) + b).toNat).toInt → ∀ v18 : Int, v18 = (gA es 106 (((25 * a) + b) - 1).toNat).toInt → ∀ v19 : Int, v19 = max v17 v18 → ∀ es20 : PH, es20 = sA es 106 ((25 * a) + b).toNat (zI v19) → aW O (d + 2) 271 kc ks Q (55, [some (.ref 143), some (.int (zI fi)), some (.int (zI se)), some (.int (zI 25)), some (.int (zI a)), some (.int (zI (b + 1))), some (.int (zI v19)), some (.int (zI 0)), some (.int (zI 4))], [], es20))
    (K6 : ∀ v1 : Int, v1 = (gA es 80 ((119 + (98 * se)) + 1).toNat).toInt → ¬ (v1 < b) → ¬ (a ≤ 0) → ¬ (b ≤ 0) → ∀ v7 : Int, v7 = (gA es 80 ((119 + (98 * fi)) + ((2 + (4 * (a - 1))) + 0)).toNat).toInt → ∀ v8 : Int, v8 = (gA es 80 ((119 + (98 * se)) + ((2 + (4 * (b - 1))) + 0)).toNat).toInt → ¬ (v7 ≠ v8) → ∀ v14 : Int, v14 = (gA es 80 ((119 + (98 * fi)) + ((2 + (4 * (a - 1))) + 1)).toNat).toInt → ∀ v15 : Int, v15 = (gA es 80 ((119 + (98 * se)) + ((2 + (4 * (b - 1))) + 1)).toNat).toInt → ¬ (v14 ≠ v15) → ∀ v21 : Int, v21 = (gA es 80 ((119 + (98 * fi)) + ((2 + (4 * (a - 1))) + 2)).toNat).toInt → ∀ v22 : Int, v22 = (gA es 80 ((119 + (98 * se)) + ((2 + (4 * (b - 1))) + 2)).toNat).toInt → v21 ≠ v22 → ∀ v24 : Int, v24 = (gA es 106 ((25 * (a - 1)) + b).toNat).toInt → ∀ v25 : Int, v25 = (gA es 106 (((25 * a) + b) - 1).toNat).toInt → ∀ v26 : Int, v26 = max v24 v25 → ∀ es27 : PH, es27 = sA es 106 ((25 * a) + b).toNat (zI v26) → aW O (d + 2) 271 kc ks Q (55, [some (.ref 143), some (.int (zI fi)), some (.int (zI se)), some (.int (zI 25)), some (.int (zI a)), some (.int (zI (b + 1))), some (.int (zI v26)), some (.int (zI 0)), some (.int (zI 4))], [], es27))
    (K7 : ∀ v1 : Int, v1 = (gA es 80 ((119 + (98 * se)) + 1).toNat).toInt → ¬ (v1 < b) → ¬ (a ≤ 0) → ¬ (b ≤ 0) → ∀ v7 : Int, v7 = (gA es 80 ((119 + (98 * fi)) + ((2 + (4 * (a - 1))) + 0)).toNat).toInt → ∀ v8 : Int, v8 = (gA es 80 ((119 + (98 * se)) + ((2 + (4 * (b - 1))) + 0)).toNat).toInt → ¬ (v7 ≠ v8) → ∀ v14 : Int, v14 = (gA es 80 ((119 + (98 * fi)) + ((2 + (4 * (a - 1))) + 1)).toNat).toInt → ∀ v15 : Int, v15 = (gA es 80 ((119 + (98 * se)) + ((2 + (4 * (b - 1))) + 1)).toNat).toInt → ¬ (v14 ≠ v15) → ∀ v21 : Int, v21 = (gA es 80 ((119 + (98 * fi)) + ((2 + (4 * (a - 1))) + 2)).toNat).toInt → ∀ v22 : Int, v22 = (gA es 80 ((119 + (98 * se)) + ((2 + (4 * (b - 1))) + 2)).toNat).toInt → ¬ (v21 ≠ v22) → ∀ v28 : Int, v28 = (gA es 80 ((119 + (98 * fi)) + ((2 + (4 * (a - 1))) + 3)).toNat).toInt → ∀ v29 : Int, v29 = (gA es 80 ((119 + (98 * se)) + ((2 + (4 * (b - 1))) + 3)).toNat).toInt → v28 ≠ v29 → ∀ v31 : Int, v31 = (gA es 106 ((25 * (a - 1)) + b).toNat).toInt → ∀ v32 : Int, v32 = (gA es 106 (((25 * a) + b) - 1).toNat).toInt → ∀ v33 : Int, v33 = max v31 v32 → ∀ es34 : PH, es34 = sA es 106 ((25 * a) + b).toNat (zI v33) → aW O (d + 2) 271 kc ks Q (55, [some (.ref 143), some (.int (zI fi)), some (.int (zI se)), some (.int (zI 25)), some (.int (zI a)), some (.int (zI (b + 1))), some (.int (zI v33)), some (.int (zI 0)), some (.int (zI 4))], [], es34))
    (K8 : ∀ v1 : Int, v1 = (gA es 80 ((119 + (98 * se)) + 1).toNat).toInt → ¬ (v1 < b) → ¬ (a ≤ 0) → ¬ (b ≤ 0) → ∀ v7 : Int, v7 = (gA es 80 ((119 + (98 * fi)) + ((2 + (4 * (a - 1))) + 0)).toNat).toInt → ∀ v8 : Int, v8 = (gA es 80 ((119 + (98 * se)) + ((2 + (4 * (b - 1))) + 0)).toNat).toInt → ¬ (v7 ≠ v8) → ∀ v14 : Int, v14 = (gA es 80 ((119 + (98 * fi)) + ((2 + (4 * (a - 1))) + 1)).toNat).toInt → ∀ v15 : Int, v15 = (gA es 80 ((119 + (98 * se)) + ((2 + (4 * (b - 1))) + 1)).toNat).toInt → ¬ (v14 ≠ v15) → ∀ v21 : Int, v21 = (gA es 80 ((119 + (98 * fi)) + ((2 + (4 * (a - 1))) + 2)).toNat).toInt → ∀ v22 : Int, v22 = (gA es 80 ((119 + (98 * se)) + ((2 + (4 * (b - 1))) + 2)).toNat).toInt → ¬ (v21 ≠ v22) → ∀ v28 : Int, v28 = (gA es 80 ((119 + (98 * fi)) + ((2 + (4 * (a - 1))) + 3)).toNat).toInt → ∀ v29 : Int, v29 = (gA es 80 ((119 + (98 * se)) + ((2 + (4 * (b - 1))) + 3)).toNat).toInt → ¬ (v28 ≠ v29) → ∀ v35 : Int, v35 = (gA es 106 (((25 * (a - 1)) + b) - 1).toNat).toInt → ∀ es36 : PH, es36 = sA es 106 ((25 * a) + b).toNat (zI (1 + v35)) → aW O (d + 2) 271 kc ks Q (55, [some (.ref 143), some (.int (zI fi)), some (.int (zI se)), some (.int (zI 25)), some (.int (zI a)), some (.int (zI (b + 1))), some (.int (zI (1 + v35))), some (.int (zI 1)), some (.int (zI 4))], [], es36)) :
    aW O (d + 2) 271 kc ks Q (55, [some (.ref 143), some (.int (zI fi)), some (.int (zI se)), some (.int (zI 25)), some (.int (zI a)), some (.int (zI b)), x6, x7, x8], [], es) := by
  refine x0 (r := (57, [some (.ref 143), some (.int (zI fi)), some (.int (zI se)), some (.int (zI 25)), some (.int (zI a)), some (.int (zI b)), x6, x7, x8], [.int (zI b)], es)) i_271_55 rfl ?_
  refine x0 (r := (58, [some (.ref 143), some (.int (zI fi)), some (.int (zI se)), some (.int (zI 25)), some (.int (zI a)), some (.int (zI b)), x6, x7, x8], [.ref 143, .int (zI b)], es)) i_271_57 rfl ?_
  refine x0 (r := (59, [some (.ref 143), some (.int (zI fi)), some (.int (zI se)), some (.int (zI 25)), some (.int (zI a)), some (.int (zI b)), x6, x7, x8], [.int (zI se), .ref 143, .int (zI b)], es)) i_271_58 rfl ?_
  refine x_call (vs := [.ref 143, .int (zI se)]) (rs := [.int (zI b)]) i_271_59 rfl (fun _ => rfl) rfl rfl rfl rfl rfl (pCall_v (p := 79) hs_es rfl rfl rfl rfl rfl (by decide) rfl rfl rfl rfl rfl) ?_
  show aW _ _ _ _ _ _ (0, [some (.ref 143), some (.int (zI se))], [], es)
  refine x0 (r := (1, [some (.ref 143), some (.int (zI se))], [.ref 143], es)) i_205_0 rfl ?_
  refine x0 (r := (2, [some (.ref 143), some (.int (zI se))], [.int (zI se), .ref 143], es)) i_205_1 rfl ?_
  refine x0 (r := (3, [some (.ref 143), some (.int (zI se))], [.int (zI 1), .int (zI se), .ref 143], es)) i_205_2 (by rfl) ?_
  refine x_call (vs := [.ref 143, .int (zI se), .int (zI 1)]) (rs := []) i_205_3 rfl (fun _ => rfl) rfl rfl rfl rfl rfl (pCall_v (p := 79) hs_es rfl rfl rfl rfl rfl (by decide) rfl rfl rfl rfl rfl) ?_
  show aW _ _ _ _ _ _ (0, [some (.ref 143), some (.int (zI se)), some (.int (zI 1))], [], es)
  refine x0 (r := (1, [some (.ref 143), some (.int (zI se)), some (.int (zI 1))], [.ref 143], es)) i_206_0 rfl ?_
  refine x_getr (p := 79) (k := 144) i_206_1 hs_es rfl rfl ?_
  show aW _ _ _ _ _ _ (4, [some (.ref 143), some (.int (zI se)), some (.int (zI 1))], [.ref 144], es)
  refine x0 (r := (6, [some (.ref 143), some (.int (zI se)), some (.int (zI 1))], [.int (zI 119), .ref 144], es)) i_206_4 (by rfl) ?_
  refine x0 (r := (8, [some (.ref 143), some (.int (zI se)), some (.int (zI 1))], [.int (zI 98), .int (zI 119), .ref 144], es)) i_206_6 (by rfl) ?_
  refine x0 (r := (9, [some (.ref 143), some (.int (zI se)), some (.int (zI 1))], [.int (zI se), .int (zI 98), .int (zI 119), .ref 144], es)) i_206_8 rfl ?_
  refine x_imul i_206_9 ?_
  refine x_iadd i_206_10 ?_
  refine x0 (r := (12, [some (.ref 143), some (.int (zI se)), some (.int (zI 1))], [.int (zI 1), .int (zI (119 + (98 * se))), .ref 144], es)) i_206_11 rfl ?_
  refine x_iadd i_206_12 ?_
  refine x_iald (p := 80) i_206_13 hs_es rfl (by unfold i32 iLO iHI; omega) (by omega) (by omega) ?_
  obtain ⟨v1, e_v1⟩ : ∃ z : Int, z = (gA es 80 ((119 + (98 * se)) + 1).toNat).toInt := ⟨_, rfl⟩
  rw [← e_v1]
  have r_v1 : iLO ≤ v1 ∧ v1 ≤ iHI := by rw [e_v1]; exact i32_rng _
  unfold iLO iHI at r_v1
  have b_v1 : (0 : Int) ≤ v1 ∧ v1 ≤ (24 : Int) := by rw [e_v1]; exact cnt_bd hT_es (by omega) (by omega)
  refine x_ret (v := some (.int (zI v1))) i_206_14 rfl (fun _ => rfl) rfl rfl rfl ?_
  show aW _ _ _ _ _ _ (6, [some (.ref 143), some (.int (zI se))], [.int (zI v1)], es)
  refine x_ret (v := some (.int (zI v1))) i_205_6 rfl (fun _ => rfl) rfl rfl rfl ?_
  show aW _ _ _ _ _ _ (62, [some (.ref 143), some (.int (zI fi)), some (.int (zI se)), some (.int (zI 25)), some (.int (zI a)), some (.int (zI b)), x6, x7, x8], [.int (zI v1), .int (zI b)], es)
  by_cases c2 : v1 < b
  · refine x_cmpT i_271_62 (by unfold i32 iLO iHI; omega) (by unfold i32 iLO iHI; omega) rfl (by simp only [zC, cR]; omega) ?_
    refine x_iinc (x := a) i_271_212 rfl (by show 4 < 9; decide) ?_
    show aW _ _ _ _ _ _ (215, [some (.ref 143), some (.int (zI fi)), some (.int (zI se)), some (.int (zI 25)), some (.int (zI (a + 1))), some (.int (zI b)), x6, x7, x8], [], es)
    refine x0 (r := (42, [some (.ref 143), some (.int (zI fi)), some (.int (zI se)), some (.int (zI 25)), some (.int (zI (a + 1))), some (.int (zI b)), x6, x7, x8], [], es)) i_271_215 rfl ?_
    exact K1 v1 e_v1 c2
  · refine x_cmpF i_271_62 (by unfold i32 iLO iHI; omega) (by unfold i32 iLO iHI; omega) rfl (by simp only [zC, cR]; omega) ?_
    refine x0 (r := (66, [some (.ref 143), some (.int (zI fi)), some (.int (zI se)), some (.int (zI 25)), some (.int (zI a)), some (.int (zI b)), x6, x7, x8], [.int (zI 0)], es)) i_271_65 (by rfl) ?_
    refine x0 (r := (68, [some (.ref 143), some (.int (zI fi)), some (.int (zI se)), some (.int (zI 25)), some (.int (zI a)), some (.int (zI b)), some (.int (zI 0)), x7, x8], [], es)) i_271_66 rfl ?_
    refine x0 (r := (70, [some (.ref 143), some (.int (zI fi)), some (.int (zI se)), some (.int (zI 25)), some (.int (zI a)), some (.int (zI b)), some (.int (zI 0)), x7, x8], [.int (zI a)], es)) i_271_68 rfl ?_
    by_cases c3 : a ≤ 0
    · refine x_ifT i_271_70 (by unfold i32 iLO iHI; omega) rfl (by simp only [zC, cR]; omega) ?_
      refine x0 (r := (193, [some (.ref 143), some (.int (zI fi)), some (.int (zI se)), some (.int (zI 25)), some (.int (zI a)), some (.int (zI b)), some (.int (zI 0)), x7, x8], [.ref 143], es)) i_271_192 rfl ?_
      refine x_getr (p := 79) (k := 170) i_271_193 hs_es rfl rfl ?_
      show aW _ _ _ _ _ _ (196, [some (.ref 143), some (.int (zI fi)), some (.int (zI se)), some (.int (zI 25)), some (.int (zI a)), some (.int (zI b)), some (.int (zI 0)), x7, x8], [.ref 170], es)
      refine x0 (r := (197, [some (.ref 143), some (.int (zI fi)), some (.int (zI se)), some (.int (zI 25)), some (.int (zI a)), some (.int (zI b)), some (.int (zI 0)), x7, x8], [.int (zI 25), .ref 170], es)) i_271_196 rfl ?_
      refine x0 (r := (199, [some (.ref 143), some (.int (zI fi)), some (.int (zI se)), some (.int (zI 25)), some (.int (zI a)), some (.int (zI b)), some (.int (zI 0)), x7, x8], [.int (zI a), .int (zI 25), .ref 170], es)) i_271_197 rfl ?_
      refine x_imul i_271_199 ?_
      refine x0 (r := (202, [some (.ref 143), some (.int (zI fi)), some (.int (zI se)), some (.int (zI 25)), some (.int (zI a)), some (.int (zI b)), some (.int (zI 0)), x7, x8], [.int (zI b), .int (zI (25 * a)), .ref 170], es)) i_271_200 rfl ?_
      refine x_iadd i_271_202 ?_
      refine x0 (r := (205, [some (.ref 143), some (.int (zI fi)), some (.int (zI se)), some (.int (zI 25)), some (.int (zI a)), some (.int (zI b)), some (.int (zI 0)), x7, x8], [.int (zI 0), .int (zI ((25 * a) + b)), .ref 170], es)) i_271_203 rfl ?_
      refine x_iast (p := 106) i_271_205 hs_es rfl (by unfold i32 iLO iHI; omega) (by omega) (by omega) ?_
      obtain ⟨es4, e_es4⟩ : ∃ z : PH, z = sA es 106 ((25 * a) + b).toNat (zI 0) := ⟨_, rfl⟩
      have hs_es4 : sh es4 := by rw [e_es4]; exact sh_sA hs_es
      have hT_es4 : hOK tT es4 := by rw [e_es4]; exact hOK_sA hT_es (p := 106) (n := 625) rfl (fun _ => i32_rng _)
      rw [← e_es4]
      refine x_iinc (x := b) i_271_206 rfl (by show 5 < 9; decide) ?_
      show aW _ _ _ _ _ _ (209, [some (.ref 143), some (.int (zI fi)), some (.int (zI se)), some (.int (zI 25)), some (.int (zI a)), some (.int (zI (b + 1))), some (.int (zI 0)), x7, x8], [], es4)
      refine x0 (r := (55, [some (.ref 143), some (.int (zI fi)), some (.int (zI se)), some (.int (zI 25)), some (.int (zI a)), some (.int (zI (b + 1))), some (.int (zI 0)), x7, x8], [], es4)) i_271_209 rfl ?_
      exact K2 v1 e_v1 c2 c3 es4 e_es4
    · refine x_ifF i_271_70 (by unfold i32 iLO iHI; omega) rfl (by simp only [zC, cR]; omega) ?_
      refine x0 (r := (75, [some (.ref 143), some (.int (zI fi)), some (.int (zI se)), some (.int (zI 25)), some (.int (zI a)), some (.int (zI b)), some (.int (zI 0)), x7, x8], [.int (zI b)], es)) i_271_73 rfl ?_
      by_cases c5 : b ≤ 0
      · refine x_ifT i_271_75 (by unfold i32 iLO iHI; omega) rfl (by simp only [zC, cR]; omega) ?_
        refine x0 (r := (193, [some (.ref 143), some (.int (zI fi)), some (.int (zI se)), some (.int (zI 25)), some (.int (zI a)), some (.int (zI b)), some (.int (zI 0)), x7, x8], [.ref 143], es)) i_271_192 rfl ?_
        refine x_getr (p := 79) (k := 170) i_271_193 hs_es rfl rfl ?_
        show aW _ _ _ _ _ _ (196, [some (.ref 143), some (.int (zI fi)), some (.int (zI se)), some (.int (zI 25)), some (.int (zI a)), some (.int (zI b)), some (.int (zI 0)), x7, x8], [.ref 170], es)
        refine x0 (r := (197, [some (.ref 143), some (.int (zI fi)), some (.int (zI se)), some (.int (zI 25)), some (.int (zI a)), some (.int (zI b)), some (.int (zI 0)), x7, x8], [.int (zI 25), .ref 170], es)) i_271_196 rfl ?_
        refine x0 (r := (199, [some (.ref 143), some (.int (zI fi)), some (.int (zI se)), some (.int (zI 25)), some (.int (zI a)), some (.int (zI b)), some (.int (zI 0)), x7, x8], [.int (zI a), .int (zI 25), .ref 170], es)) i_271_197 rfl ?_
        refine x_imul i_271_199 ?_
        refine x0 (r := (202, [some (.ref 143), some (.int (zI fi)), some (.int (zI se)), some (.int (zI 25)), some (.int (zI a)), some (.int (zI b)), some (.int (zI 0)), x7, x8], [.int (zI b), .int (zI (25 * a)), .ref 170], es)) i_271_200 rfl ?_
        refine x_iadd i_271_202 ?_
        refine x0 (r := (205, [some (.ref 143), some (.int (zI fi)), some (.int (zI se)), some (.int (zI 25)), some (.int (zI a)), some (.int (zI b)), some (.int (zI 0)), x7, x8], [.int (zI 0), .int (zI ((25 * a) + b)), .ref 170], es)) i_271_203 rfl ?_
        refine x_iast (p := 106) i_271_205 hs_es rfl (by unfold i32 iLO iHI; omega) (by omega) (by omega) ?_
        obtain ⟨es6, e_es6⟩ : ∃ z : PH, z = sA es 106 ((25 * a) + b).toNat (zI 0) := ⟨_, rfl⟩
        have hs_es6 : sh es6 := by rw [e_es6]; exact sh_sA hs_es
        have hT_es6 : hOK tT es6 := by rw [e_es6]; exact hOK_sA hT_es (p := 106) (n := 625) rfl (fun _ => i32_rng _)
        rw [← e_es6]
        refine x_iinc (x := b) i_271_206 rfl (by show 5 < 9; decide) ?_
        show aW _ _ _ _ _ _ (209, [some (.ref 143), some (.int (zI fi)), some (.int (zI se)), some (.int (zI 25)), some (.int (zI a)), some (.int (zI (b + 1))), some (.int (zI 0)), x7, x8], [], es6)
        refine x0 (r := (55, [some (.ref 143), some (.int (zI fi)), some (.int (zI se)), some (.int (zI 25)), some (.int (zI a)), some (.int (zI (b + 1))), some (.int (zI 0)), x7, x8], [], es6)) i_271_209 rfl ?_
        exact K3 v1 e_v1 c2 c3 c5 es6 e_es6
      · refine x_ifF i_271_75 (by unfold i32 iLO iHI; omega) rfl (by simp only [zC, cR]; omega) ?_
        refine x0 (r := (79, [some (.ref 143), some (.int (zI fi)), some (.int (zI se)), some (.int (zI 25)), some (.int (zI a)), some (.int (zI b)), some (.int (zI 0)), x7, x8], [.int (zI 1)], es)) i_271_78 (by rfl) ?_
        refine x0 (r := (81, [some (.ref 143), some (.int (zI fi)), some (.int (zI se)), some (.int (zI 25)), some (.int (zI a)), some (.int (zI b)), some (.int (zI 0)), some (.int (zI 1)), x8], [], es)) i_271_79 rfl ?_
        refine x0 (r := (82, [some (.ref 143), some (.int (zI fi)), some (.int (zI se)), some (.int (zI 25)), some (.int (zI a)), some (.int (zI b)), some (.int (zI 0)), some (.int (zI 1)), x8], [.int (zI 0)], es)) i_271_81 (by rfl) ?_
        refine x0 (r := (84, [some (.ref 143), some (.int (zI fi)), some (.int (zI se)), some (.int (zI 25)), some (.int (zI a)), some (.int (zI b)), some (.int (zI 0)), some (.int (zI 1)), some (.int (zI 0))], [], es)) i_271_82 rfl ?_
        refine x0 (r := (86, [some (.ref 143), some (.int (zI fi)), some (.int (zI se)), some (.int (zI 25)), some (.int (zI a)), some (.int (zI b)), some (.int (zI 0)), some (.int (zI 1)), some (.int (zI 0))], [.int (zI 0)], es)) i_271_84 rfl ?_
        refine x0 (r := (87, [some (.ref 143), some (.int (zI fi)), some (.int (zI se)), some (.int (zI 25)), some (.int (zI a)), some (.int (zI b)), some (.int (zI 0)), some (.int (zI 1)), some (.int (zI 0))], [.int (zI 4), .int (zI 0)], es)) i_271_86 (by rfl) ?_
        refine x_cmpF i_271_87 (by unfold i32 iLO iHI; omega) (by unfold i32 iLO iHI; omega) rfl (by simp only [zC, cR]; omega) ?_
        refine x0 (r := (92, [some (.ref 143), some (.int (zI fi)), some (.int (zI se)), some (.int (zI 25)), some (.int (zI a)), some (.int (zI b)), some (.int (zI 0)), some (.int (zI 1)), some (.int (zI 0))], [.int (zI 1)], es)) i_271_90 rfl ?_
        refine x_ifF i_271_92 (by unfold i32 iLO iHI; omega) rfl (by simp only [zC, cR]; omega) ?_
        refine x0 (r := (96, [some (.ref 143), some (.int (zI fi)), some (.int (zI se)), some (.int (zI 25)), some (.int (zI a)), some (.int (zI b)), some (.int (zI 0)), some (.int (zI 1)), some (.int (zI 0))], [.ref 143], es)) i_271_95 rfl ?_
        refine x0 (r := (97, [some (.ref 143), some (.int (zI fi)), some (.int (zI se)), some (.int (zI 25)), some (.int (zI a)), some (.int (zI b)), some (.int (zI 0)), some (.int (zI 1)), some (.int (zI 0))], [.int (zI fi), .ref 143], es)) i_271_96 rfl ?_
        refine x0 (r := (99, [some (.ref 143), some (.int (zI fi)), some (.int (zI se)), some (.int (zI 25)), some (.int (zI a)), some (.int (zI b)), some (.int (zI 0)), some (.int (zI 1)), some (.int (zI 0))], [.int (zI a), .int (zI fi), .ref 143], es)) i_271_97 rfl ?_
        refine x0 (r := (100, [some (.ref 143), some (.int (zI fi)), some (.int (zI se)), some (.int (zI 25)), some (.int (zI a)), some (.int (zI b)), some (.int (zI 0)), some (.int (zI 1)), some (.int (zI 0))], [.int (zI 1), .int (zI a), .int (zI fi), .ref 143], es)) i_271_99 (by rfl) ?_
        refine x_isub i_271_100 ?_
        refine x0 (r := (103, [some (.ref 143), some (.int (zI fi)), some (.int (zI se)), some (.int (zI 25)), some (.int (zI a)), some (.int (zI b)), some (.int (zI 0)), some (.int (zI 1)), some (.int (zI 0))], [.int (zI 0), .int (zI (a - 1)), .int (zI fi), .ref 143], es)) i_271_101 rfl ?_
        refine x_call (vs := [.ref 143, .int (zI fi), .int (zI (a - 1)), .int (zI 0)]) (rs := []) i_271_103 rfl (fun _ => rfl) rfl rfl rfl rfl rfl (pCall_v (p := 79) hs_es rfl rfl rfl rfl rfl (by decide) rfl rfl rfl rfl rfl) ?_
        show aW _ _ _ _ _ _ (0, [some (.ref 143), some (.int (zI fi)), some (.int (zI (a - 1))), some (.int (zI 0))], [], es)
        refine x0 (r := (1, [some (.ref 143), some (.int (zI fi)), some (.int (zI (a - 1))), some (.int (zI 0))], [.ref 143], es)) i_211_0 rfl ?_
        refine x0 (r := (2, [some (.ref 143), some (.int (zI fi)), some (.int (zI (a - 1))), some (.int (zI 0))], [.int (zI fi), .ref 143], es)) i_211_1 rfl ?_
        refine x0 (r := (3, [some (.ref 143), some (.int (zI fi)), some (.int (zI (a - 1))), some (.int (zI 0))], [.int (zI 2), .int (zI fi), .ref 143], es)) i_211_2 (by rfl) ?_
        refine x0 (r := (4, [some (.ref 143), some (.int (zI fi)), some (.int (zI (a - 1))), some (.int (zI 0))], [.int (zI 4), .int (zI 2), .int (zI fi), .ref 143], es)) i_211_3 (by rfl) ?_
        refine x0 (r := (5, [some (.ref 143), some (.int (zI fi)), some (.int (zI (a - 1))), some (.int (zI 0))], [.int (zI (a - 1)), .int (zI 4), .int (zI 2), .int (zI fi), .ref 143], es)) i_211_4 rfl ?_
        refine x_imul i_211_5 ?_
        refine x_iadd i_211_6 ?_
        refine x0 (r := (8, [some (.ref 143), some (.int (zI fi)), some (.int (zI (a - 1))), some (.int (zI 0))], [.int (zI 0), .int (zI (2 + (4 * (a - 1)))), .int (zI fi), .ref 143], es)) i_211_7 rfl ?_
        refine x_iadd i_211_8 ?_
        refine x_call (vs := [.ref 143, .int (zI fi), .int (zI ((2 + (4 * (a - 1))) + 0))]) (rs := []) i_211_9 rfl (fun _ => rfl) rfl rfl rfl rfl rfl (pCall_v (p := 79) hs_es rfl rfl rfl rfl rfl (by decide) rfl rfl rfl rfl rfl) ?_
        show aW _ _ _ _ _ _ (0, [some (.ref 143), some (.int (zI fi)), some (.int (zI ((2 + (4 * (a - 1))) + 0)))], [], es)
        refine x0 (r := (1, [some (.ref 143), some (.int (zI fi)), some (.int (zI ((2 + (4 * (a - 1))) + 0)))], [.ref 143], es)) i_206_0 rfl ?_
        refine x_getr (p := 79) (k := 144) i_206_1 hs_es rfl rfl ?_
        show aW _ _ _ _ _ _ (4, [some (.ref 143), some (.int (zI fi)), some (.int (zI ((2 + (4 * (a - 1))) + 0)))], [.ref 144], es)
        refine x0 (r := (6, [some (.ref 143), some (.int (zI fi)), some (.int (zI ((2 + (4 * (a - 1))) + 0)))], [.int (zI 119), .ref 144], es)) i_206_4 (by rfl) ?_
        refine x0 (r := (8, [some (.ref 143), some (.int (zI fi)), some (.int (zI ((2 + (4 * (a - 1))) + 0)))], [.int (zI 98), .int (zI 119), .ref 144], es)) i_206_6 (by rfl) ?_
        refine x0 (r := (9, [some (.ref 143), some (.int (zI fi)), some (.int (zI ((2 + (4 * (a - 1))) + 0)))], [.int (zI fi), .int (zI 98), .int (zI 119), .ref 144], es)) i_206_8 rfl ?_
        refine x_imul i_206_9 ?_
        refine x_iadd i_206_10 ?_
        refine x0 (r := (12, [some (.ref 143), some (.int (zI fi)), some (.int (zI ((2 + (4 * (a - 1))) + 0)))], [.int (zI ((2 + (4 * (a - 1))) + 0)), .int (zI (119 + (98 * fi))), .ref 144], es)) i_206_11 rfl ?_
        refine x_iadd i_206_12 ?_
        refine x_iald (p := 80) i_206_13 hs_es rfl (by unfold i32 iLO iHI; omega) (by omega) (by omega) ?_
        obtain ⟨v7, e_v7⟩ : ∃ z : Int, z = (gA es 80 ((119 + (98 * fi)) + ((2 + (4 * (a - 1))) + 0)).toNat).toInt := ⟨_, rfl⟩
        rw [← e_v7]
        have r_v7 : iLO ≤ v7 ∧ v7 ≤ iHI := by rw [e_v7]; exact i32_rng _
        unfold iLO iHI at r_v7
        refine x_ret (v := some (.int (zI v7))) i_206_14 rfl (fun _ => rfl) rfl rfl rfl ?_
        show aW _ _ _ _ _ _ (12, [some (.ref 143), some (.int (zI fi)), some (.int (zI (a - 1))), some (.int (zI 0))], [.int (zI v7)], es)
        refine x_ret (v := some (.int (zI v7))) i_211_12 rfl (fun _ => rfl) rfl rfl rfl ?_
        show aW _ _ _ _ _ _ (106, [some (.ref 143), some (.int (zI fi)), some (.int (zI se)), some (.int (zI 25)), some (.int (zI a)), some (.int (zI b)), some (.int (zI 0)), some (.int (zI 1)), some (.int (zI 0))], [.int (zI v7)], es)
        refine x0 (r := (107, [some (.ref 143), some (.int (zI fi)), some (.int (zI se)), some (.int (zI 25)), some (.int (zI a)), some (.int (zI b)), some (.int (zI 0)), some (.int (zI 1)), some (.int (zI 0))], [.ref 143, .int (zI v7)], es)) i_271_106 rfl ?_
        refine x0 (r := (108, [some (.ref 143), some (.int (zI fi)), some (.int (zI se)), some (.int (zI 25)), some (.int (zI a)), some (.int (zI b)), some (.int (zI 0)), some (.int (zI 1)), some (.int (zI 0))], [.int (zI se), .ref 143, .int (zI v7)], es)) i_271_107 rfl ?_
        refine x0 (r := (110, [some (.ref 143), some (.int (zI fi)), some (.int (zI se)), some (.int (zI 25)), some (.int (zI a)), some (.int (zI b)), some (.int (zI 0)), some (.int (zI 1)), some (.int (zI 0))], [.int (zI b), .int (zI se), .ref 143, .int (zI v7)], es)) i_271_108 rfl ?_
        refine x0 (r := (111, [some (.ref 143), some (.int (zI fi)), some (.int (zI se)), some (.int (zI 25)), some (.int (zI a)), some (.int (zI b)), some (.int (zI 0)), some (.int (zI 1)), some (.int (zI 0))], [.int (zI 1), .int (zI b), .int (zI se), .ref 143, .int (zI v7)], es)) i_271_110 (by rfl) ?_
        refine x_isub i_271_111 ?_
        refine x0 (r := (114, [some (.ref 143), some (.int (zI fi)), some (.int (zI se)), some (.int (zI 25)), some (.int (zI a)), some (.int (zI b)), some (.int (zI 0)), some (.int (zI 1)), some (.int (zI 0))], [.int (zI 0), .int (zI (b - 1)), .int (zI se), .ref 143, .int (zI v7)], es)) i_271_112 rfl ?_
        refine x_call (vs := [.ref 143, .int (zI se), .int (zI (b - 1)), .int (zI 0)]) (rs := [.int (zI v7)]) i_271_114 rfl (fun _ => rfl) rfl rfl rfl rfl rfl (pCall_v (p := 79) hs_es rfl rfl rfl rfl rfl (by decide) rfl rfl rfl rfl rfl) ?_
        show aW _ _ _ _ _ _ (0, [some (.ref 143), some (.int (zI se)), some (.int (zI (b - 1))), some (.int (zI 0))], [], es)
        refine x0 (r := (1, [some (.ref 143), some (.int (zI se)), some (.int (zI (b - 1))), some (.int (zI 0))], [.ref 143], es)) i_211_0 rfl ?_
        refine x0 (r := (2, [some (.ref 143), some (.int (zI se)), some (.int (zI (b - 1))), some (.int (zI 0))], [.int (zI se), .ref 143], es)) i_211_1 rfl ?_
        refine x0 (r := (3, [some (.ref 143), some (.int (zI se)), some (.int (zI (b - 1))), some (.int (zI 0))], [.int (zI 2), .int (zI se), .ref 143], es)) i_211_2 (by rfl) ?_
        refine x0 (r := (4, [some (.ref 143), some (.int (zI se)), some (.int (zI (b - 1))), some (.int (zI 0))], [.int (zI 4), .int (zI 2), .int (zI se), .ref 143], es)) i_211_3 (by rfl) ?_
        refine x0 (r := (5, [some (.ref 143), some (.int (zI se)), some (.int (zI (b - 1))), some (.int (zI 0))], [.int (zI (b - 1)), .int (zI 4), .int (zI 2), .int (zI se), .ref 143], es)) i_211_4 rfl ?_
        refine x_imul i_211_5 ?_
        refine x_iadd i_211_6 ?_
        refine x0 (r := (8, [some (.ref 143), some (.int (zI se)), some (.int (zI (b - 1))), some (.int (zI 0))], [.int (zI 0), .int (zI (2 + (4 * (b - 1)))), .int (zI se), .ref 143], es)) i_211_7 rfl ?_
        refine x_iadd i_211_8 ?_
        refine x_call (vs := [.ref 143, .int (zI se), .int (zI ((2 + (4 * (b - 1))) + 0))]) (rs := []) i_211_9 rfl (fun _ => rfl) rfl rfl rfl rfl rfl (pCall_v (p := 79) hs_es rfl rfl rfl rfl rfl (by decide) rfl rfl rfl rfl rfl) ?_
        show aW _ _ _ _ _ _ (0, [some (.ref 143), some (.int (zI se)), some (.int (zI ((2 + (4 * (b - 1))) + 0)))], [], es)
        refine x0 (r := (1, [some (.ref 143), some (.int (zI se)), some (.int (zI ((2 + (4 * (b - 1))) + 0)))], [.ref 143], es)) i_206_0 rfl ?_
        refine x_getr (p := 79) (k := 144) i_206_1 hs_es rfl rfl ?_
        show aW _ _ _ _ _ _ (4, [some (.ref 143), some (.int (zI se)), some (.int (zI ((2 + (4 * (b - 1))) + 0)))], [.ref 144], es)
        refine x0 (r := (6, [some (.ref 143), some (.int (zI se)), some (.int (zI ((2 + (4 * (b - 1))) + 0)))], [.int (zI 119), .ref 144], es)) i_206_4 (by rfl) ?_
        refine x0 (r := (8, [some (.ref 143), some (.int (zI se)), some (.int (zI ((2 + (4 * (b - 1))) + 0)))], [.int (zI 98), .int (zI 119), .ref 144], es)) i_206_6 (by rfl) ?_
        refine x0 (r := (9, [some (.ref 143), some (.int (zI se)), some (.int (zI ((2 + (4 * (b - 1))) + 0)))], [.int (zI se), .int (zI 98), .int (zI 119), .ref 144], es)) i_206_8 rfl ?_
        refine x_imul i_206_9 ?_
        refine x_iadd i_206_10 ?_
        refine x0 (r := (12, [some (.ref 143), some (.int (zI se)), some (.int (zI ((2 + (4 * (b - 1))) + 0)))], [.int (zI ((2 + (4 * (b - 1))) + 0)), .int (zI (119 + (98 * se))), .ref 144], es)) i_206_11 rfl ?_
        refine x_iadd i_206_12 ?_
        refine x_iald (p := 80) i_206_13 hs_es rfl (by unfold i32 iLO iHI; omega) (by omega) (by omega) ?_
        obtain ⟨v8, e_v8⟩ : ∃ z : Int, z = (gA es 80 ((119 + (98 * se)) + ((2 + (4 * (b - 1))) + 0)).toNat).toInt := ⟨_, rfl⟩
        rw [← e_v8]
        have r_v8 : iLO ≤ v8 ∧ v8 ≤ iHI := by rw [e_v8]; exact i32_rng _
        unfold iLO iHI at r_v8
        refine x_ret (v := some (.int (zI v8))) i_206_14 rfl (fun _ => rfl) rfl rfl rfl ?_
        show aW _ _ _ _ _ _ (12, [some (.ref 143), some (.int (zI se)), some (.int (zI (b - 1))), some (.int (zI 0))], [.int (zI v8)], es)
        refine x_ret (v := some (.int (zI v8))) i_211_12 rfl (fun _ => rfl) rfl rfl rfl ?_
        show aW _ _ _ _ _ _ (117, [some (.ref 143), some (.int (zI fi)), some (.int (zI se)), some (.int (zI 25)), some (.int (zI a)), some (.int (zI b)), some (.int (zI 0)), some (.int (zI 1)), some (.int (zI 0))], [.int (zI v8), .int (zI v7)], es)
        by_cases c9 : v7 ≠ v8
        · refine x_cmpT i_271_117 (by unfold i32 iLO iHI; omega) (by unfold i32 iLO iHI; omega) rfl (by simp only [zC, cR]; omega) ?_
          refine x0 (r := (125, [some (.ref 143), some (.int (zI fi)), some (.int (zI se)), some (.int (zI 25)), some (.int (zI a)), some (.int (zI b)), some (.int (zI 0)), some (.int (zI 1)), some (.int (zI 0))], [.int (zI 0)], es)) i_271_124 (by rfl) ?_
          refine x0 (r := (127, [some (.ref 143), some (.int (zI fi)), some (.int (zI se)), some (.int (zI 25)), some (.int (zI a)), some (.int (zI b)), some (.int (zI 0)), some (.int (zI 0)), some (.int (zI 0))], [], es)) i_271_125 rfl ?_
          refine x_iinc (x := 0) i_271_127 rfl (by show 8 < 9; decide) ?_
          show aW _ _ _ _ _ _ (130, [some (.ref 143), some (.int (zI fi)), some (.int (zI se)), some (.int (zI 25)), some (.int (zI a)), some (.int (zI b)), some (.int (zI 0)), some (.int (zI 0)), some (.int (zI 1))], [], es)
          refine x0 (r := (84, [some (.ref 143), some (.int (zI fi)), some (.int (zI se)), some (.int (zI 25)), some (.int (zI a)), some (.int (zI b)), some (.int (zI 0)), some (.int (zI 0)), some (.int (zI 1))], [], es)) i_271_130 rfl ?_
          refine x0 (r := (86, [some (.ref 143), some (.int (zI fi)), some (.int (zI se)), some (.int (zI 25)), some (.int (zI a)), some (.int (zI b)), some (.int (zI 0)), some (.int (zI 0)), some (.int (zI 1))], [.int (zI 1)], es)) i_271_84 rfl ?_
          refine x0 (r := (87, [some (.ref 143), some (.int (zI fi)), some (.int (zI se)), some (.int (zI 25)), some (.int (zI a)), some (.int (zI b)), some (.int (zI 0)), some (.int (zI 0)), some (.int (zI 1))], [.int (zI 4), .int (zI 1)], es)) i_271_86 (by rfl) ?_
          refine x_cmpF i_271_87 (by unfold i32 iLO iHI; omega) (by unfold i32 iLO iHI; omega) rfl (by simp only [zC, cR]; omega) ?_
          refine x0 (r := (92, [some (.ref 143), some (.int (zI fi)), some (.int (zI se)), some (.int (zI 25)), some (.int (zI a)), some (.int (zI b)), some (.int (zI 0)), some (.int (zI 0)), some (.int (zI 1))], [.int (zI 0)], es)) i_271_90 rfl ?_
          refine x_ifT i_271_92 (by unfold i32 iLO iHI; omega) rfl (by simp only [zC, cR]; omega) ?_
          refine x0 (r := (125, [some (.ref 143), some (.int (zI fi)), some (.int (zI se)), some (.int (zI 25)), some (.int (zI a)), some (.int (zI b)), some (.int (zI 0)), some (.int (zI 0)), some (.int (zI 1))], [.int (zI 0)], es)) i_271_124 (by rfl) ?_
          refine x0 (r := (127, [some (.ref 143), some (.int (zI fi)), some (.int (zI se)), some (.int (zI 25)), some (.int (zI a)), some (.int (zI b)), some (.int (zI 0)), some (.int (zI 0)), some (.int (zI 1))], [], es)) i_271_125 rfl ?_
          refine x_iinc (x := 1) i_271_127 rfl (by show 8 < 9; decide) ?_
          show aW _ _ _ _ _ _ (130, [some (.ref 143), some (.int (zI fi)), some (.int (zI se)), some (.int (zI 25)), some (.int (zI a)), some (.int (zI b)), some (.int (zI 0)), some (.int (zI 0)), some (.int (zI 2))], [], es)
          refine x0 (r := (84, [some (.ref 143), some (.int (zI fi)), some (.int (zI se)), some (.int (zI 25)), some (.int (zI a)), some (.int (zI b)), some (.int (zI 0)), some (.int (zI 0)), some (.int (zI 2))], [], es)) i_271_130 rfl ?_
          refine x0 (r := (86, [some (.ref 143), some (.int (zI fi)), some (.int (zI se)), some (.int (zI 25)), some (.int (zI a)), some (.int (zI b)), some (.int (zI 0)), some (.int (zI 0)), some (.int (zI 2))], [.int (zI 2)], es)) i_271_84 rfl ?_
          refine x0 (r := (87, [some (.ref 143), some (.int (zI fi)), some (.int (zI se)), some (.int (zI 25)), some (.int (zI a)), some (.int (zI b)), some (.int (zI 0)), some (.int (zI 0)), some (.int (zI 2))], [.int (zI 4), .int (zI 2)], es)) i_271_86 (by rfl) ?_
          refine x_cmpF i_271_87 (by unfold i32 iLO iHI; omega) (by unfold i32 iLO iHI; omega) rfl (by simp only [zC, cR]; omega) ?_
          refine x0 (r := (92, [some (.ref 143), some (.int (zI fi)), some (.int (zI se)), some (.int (zI 25)), some (.int (zI a)), some (.int (zI b)), some (.int (zI 0)), some (.int (zI 0)), some (.int (zI 2))], [.int (zI 0)], es)) i_271_90 rfl ?_
          refine x_ifT i_271_92 (by unfold i32 iLO iHI; omega) rfl (by simp only [zC, cR]; omega) ?_
          refine x0 (r := (125, [some (.ref 143), some (.int (zI fi)), some (.int (zI se)), some (.int (zI 25)), some (.int (zI a)), some (.int (zI b)), some (.int (zI 0)), some (.int (zI 0)), some (.int (zI 2))], [.int (zI 0)], es)) i_271_124 (by rfl) ?_
          refine x0 (r := (127, [some (.ref 143), some (.int (zI fi)), some (.int (zI se)), some (.int (zI 25)), some (.int (zI a)), some (.int (zI b)), some (.int (zI 0)), some (.int (zI 0)), some (.int (zI 2))], [], es)) i_271_125 rfl ?_
          refine x_iinc (x := 2) i_271_127 rfl (by show 8 < 9; decide) ?_
          show aW _ _ _ _ _ _ (130, [some (.ref 143), some (.int (zI fi)), some (.int (zI se)), some (.int (zI 25)), some (.int (zI a)), some (.int (zI b)), some (.int (zI 0)), some (.int (zI 0)), some (.int (zI 3))], [], es)
          refine x0 (r := (84, [some (.ref 143), some (.int (zI fi)), some (.int (zI se)), some (.int (zI 25)), some (.int (zI a)), some (.int (zI b)), some (.int (zI 0)), some (.int (zI 0)), some (.int (zI 3))], [], es)) i_271_130 rfl ?_
          refine x0 (r := (86, [some (.ref 143), some (.int (zI fi)), some (.int (zI se)), some (.int (zI 25)), some (.int (zI a)), some (.int (zI b)), some (.int (zI 0)), some (.int (zI 0)), some (.int (zI 3))], [.int (zI 3)], es)) i_271_84 rfl ?_
          refine x0 (r := (87, [some (.ref 143), some (.int (zI fi)), some (.int (zI se)), some (.int (zI 25)), some (.int (zI a)), some (.int (zI b)), some (.int (zI 0)), some (.int (zI 0)), some (.int (zI 3))], [.int (zI 4), .int (zI 3)], es)) i_271_86 (by rfl) ?_
          refine x_cmpF i_271_87 (by unfold i32 iLO iHI; omega) (by unfold i32 iLO iHI; omega) rfl (by simp only [zC, cR]; omega) ?_
          refine x0 (r := (92, [some (.ref 143), some (.int (zI fi)), some (.int (zI se)), some (.int (zI 25)), some (.int (zI a)), some (.int (zI b)), some (.int (zI 0)), some (.int (zI 0)), some (.int (zI 3))], [.int (zI 0)], es)) i_271_90 rfl ?_
          refine x_ifT i_271_92 (by unfold i32 iLO iHI; omega) rfl (by simp only [zC, cR]; omega) ?_
          refine x0 (r := (125, [some (.ref 143), some (.int (zI fi)), some (.int (zI se)), some (.int (zI 25)), some (.int (zI a)), some (.int (zI b)), some (.int (zI 0)), some (.int (zI 0)), some (.int (zI 3))], [.int (zI 0)], es)) i_271_124 (by rfl) ?_
          refine x0 (r := (127, [some (.ref 143), some (.int (zI fi)), some (.int (zI se)), some (.int (zI 25)), some (.int (zI a)), some (.int (zI b)), some (.int (zI 0)), some (.int (zI 0)), some (.int (zI 3))], [], es)) i_271_125 rfl ?_
          refine x_iinc (x := 3) i_271_127 rfl (by show 8 < 9; decide) ?_
          show aW _ _ _ _ _ _ (130, [some (.ref 143), some (.int (zI fi)), some (.int (zI se)), some (.int (zI 25)), some (.int (zI a)), some (.int (zI b)), some (.int (zI 0)), some (.int (zI 0)), some (.int (zI 4))], [], es)
          refine x0 (r := (84, [some (.ref 143), some (.int (zI fi)), some (.int (zI se)), some (.int (zI 25)), some (.int (zI a)), some (.int (zI b)), some (.int (zI 0)), some (.int (zI 0)), some (.int (zI 4))], [], es)) i_271_130 rfl ?_
          refine x0 (r := (86, [some (.ref 143), some (.int (zI fi)), some (.int (zI se)), some (.int (zI 25)), some (.int (zI a)), some (.int (zI b)), some (.int (zI 0)), some (.int (zI 0)), some (.int (zI 4))], [.int (zI 4)], es)) i_271_84 rfl ?_
          refine x0 (r := (87, [some (.ref 143), some (.int (zI fi)), some (.int (zI se)), some (.int (zI 25)), some (.int (zI a)), some (.int (zI b)), some (.int (zI 0)), some (.int (zI 0)), some (.int (zI 4))], [.int (zI 4), .int (zI 4)], es)) i_271_86 (by rfl) ?_
          refine x_cmpT i_271_87 (by unfold i32 iLO iHI; omega) (by unfold i32 iLO iHI; omega) rfl (by simp only [zC, cR]; omega) ?_
          refine x0 (r := (135, [some (.ref 143), some (.int (zI fi)), some (.int (zI se)), some (.int (zI 25)), some (.int (zI a)), some (.int (zI b)), some (.int (zI 0)), some (.int (zI 0)), some (.int (zI 4))], [.int (zI 0)], es)) i_271_133 rfl ?_
          refine x_ifT i_271_135 (by unfold i32 iLO iHI; omega) rfl (by simp only [zC, cR]; omega) ?_
          refine x0 (r := (160, [some (.ref 143), some (.int (zI fi)), some (.int (zI se)), some (.int (zI 25)), some (.int (zI a)), some (.int (zI b)), some (.int (zI 0)), some (.int (zI 0)), some (.int (zI 4))], [.ref 143], es)) i_271_159 rfl ?_
          refine x_getr (p := 79) (k := 170) i_271_160 hs_es rfl rfl ?_
          show aW _ _ _ _ _ _ (163, [some (.ref 143), some (.int (zI fi)), some (.int (zI se)), some (.int (zI 25)), some (.int (zI a)), some (.int (zI b)), some (.int (zI 0)), some (.int (zI 0)), some (.int (zI 4))], [.ref 170], es)
          refine x0 (r := (164, [some (.ref 143), some (.int (zI fi)), some (.int (zI se)), some (.int (zI 25)), some (.int (zI a)), some (.int (zI b)), some (.int (zI 0)), some (.int (zI 0)), some (.int (zI 4))], [.int (zI 25), .ref 170], es)) i_271_163 rfl ?_
          refine x0 (r := (166, [some (.ref 143), some (.int (zI fi)), some (.int (zI se)), some (.int (zI 25)), some (.int (zI a)), some (.int (zI b)), some (.int (zI 0)), some (.int (zI 0)), some (.int (zI 4))], [.int (zI a), .int (zI 25), .ref 170], es)) i_271_164 rfl ?_
          refine x0 (r := (167, [some (.ref 143), some (.int (zI fi)), some (.int (zI se)), some (.int (zI 25)), some (.int (zI a)), some (.int (zI b)), some (.int (zI 0)), some (.int (zI 0)), some (.int (zI 4))], [.int (zI 1), .int (zI a), .int (zI 25), .ref 170], es)) i_271_166 (by rfl) ?_
          refine x_isub i_271_167 ?_
          refine x_imul i_271_168 ?_
          refine x0 (r := (171, [some (.ref 143), some (.int (zI fi)), some (.int (zI se)), some (.int (zI 25)), some (.int (zI a)), some (.int (zI b)), some (.int (zI 0)), some (.int (zI 0)), some (.int (zI 4))], [.int (zI b), .int (zI (25 * (a - 1))), .ref 170], es)) i_271_169 rfl ?_
          refine x_iadd i_271_171 ?_
          refine x_iald (p := 106) i_271_172 hs_es rfl (by unfold i32 iLO iHI; omega) (by omega) (by omega) ?_
          obtain ⟨v10, e_v10⟩ : ∃ z : Int, z = (gA es 106 ((25 * (a - 1)) + b).toNat).toInt := ⟨_, rfl⟩
          rw [← e_v10]
          have r_v10 : iLO ≤ v10 ∧ v10 ≤ iHI := by rw [e_v10]; exact i32_rng _
          unfold iLO iHI at r_v10
          refine x0 (r := (174, [some (.ref 143), some (.int (zI fi)), some (.int (zI se)), some (.int (zI 25)), some (.int (zI a)), some (.int (zI b)), some (.int (zI 0)), some (.int (zI 0)), some (.int (zI 4))], [.ref 143, .int (zI v10)], es)) i_271_173 rfl ?_
          refine x_getr (p := 79) (k := 170) i_271_174 hs_es rfl rfl ?_
          show aW _ _ _ _ _ _ (177, [some (.ref 143), some (.int (zI fi)), some (.int (zI se)), some (.int (zI 25)), some (.int (zI a)), some (.int (zI b)), some (.int (zI 0)), some (.int (zI 0)), some (.int (zI 4))], [.ref 170, .int (zI v10)], es)
          refine x0 (r := (178, [some (.ref 143), some (.int (zI fi)), some (.int (zI se)), some (.int (zI 25)), some (.int (zI a)), some (.int (zI b)), some (.int (zI 0)), some (.int (zI 0)), some (.int (zI 4))], [.int (zI 25), .ref 170, .int (zI v10)], es)) i_271_177 rfl ?_
          refine x0 (r := (180, [some (.ref 143), some (.int (zI fi)), some (.int (zI se)), some (.int (zI 25)), some (.int (zI a)), some (.int (zI b)), some (.int (zI 0)), some (.int (zI 0)), some (.int (zI 4))], [.int (zI a), .int (zI 25), .ref 170, .int (zI v10)], es)) i_271_178 rfl ?_
          refine x_imul i_271_180 ?_
          refine x0 (r := (183, [some (.ref 143), some (.int (zI fi)), some (.int (zI se)), some (.int (zI 25)), some (.int (zI a)), some (.int (zI b)), some (.int (zI 0)), some (.int (zI 0)), some (.int (zI 4))], [.int (zI b), .int (zI (25 * a)), .ref 170, .int (zI v10)], es)) i_271_181 rfl ?_
          refine x_iadd i_271_183 ?_
          refine x0 (r := (185, [some (.ref 143), some (.int (zI fi)), some (.int (zI se)), some (.int (zI 25)), some (.int (zI a)), some (.int (zI b)), some (.int (zI 0)), some (.int (zI 0)), some (.int (zI 4))], [.int (zI 1), .int (zI ((25 * a) + b)), .ref 170, .int (zI v10)], es)) i_271_184 (by rfl) ?_
          refine x_isub i_271_185 ?_
          refine x_iald (p := 106) i_271_186 hs_es rfl (by unfold i32 iLO iHI; omega) (by omega) (by omega) ?_
          obtain ⟨v11, e_v11⟩ : ∃ z : Int, z = (gA es 106 (((25 * a) + b) - 1).toNat).toInt := ⟨_, rfl⟩
          rw [← e_v11]
          have r_v11 : iLO ≤ v11 ∧ v11 ≤ iHI := by rw [e_v11]; exact i32_rng _
          unfold iLO iHI at r_v11
          refine x_max i_271_187 (by unfold i32 iLO iHI; omega) (by unfold i32 iLO iHI; omega) (Nat.le_of_ble_eq_true rfl) ?_
          obtain ⟨v12, e_v12⟩ : ∃ z : Int, z = max v10 v11 := ⟨_, rfl⟩
          rw [← e_v12]
          refine x0 (r := (192, [some (.ref 143), some (.int (zI fi)), some (.int (zI se)), some (.int (zI 25)), some (.int (zI a)), some (.int (zI b)), some (.int (zI v12)), some (.int (zI 0)), some (.int (zI 4))], [], es)) i_271_190 rfl ?_
          refine x0 (r := (193, [some (.ref 143), some (.int (zI fi)), some (.int (zI se)), some (.int (zI 25)), some (.int (zI a)), some (.int (zI b)), some (.int (zI v12)), some (.int (zI 0)), some (.int (zI 4))], [.ref 143], es)) i_271_192 rfl ?_
          refine x_getr (p := 79) (k := 170) i_271_193 hs_es rfl rfl ?_
          show aW _ _ _ _ _ _ (196, [some (.ref 143), some (.int (zI fi)), some (.int (zI se)), some (.int (zI 25)), some (.int (zI a)), some (.int (zI b)), some (.int (zI v12)), some (.int (zI 0)), some (.int (zI 4))], [.ref 170], es)
          refine x0 (r := (197, [some (.ref 143), some (.int (zI fi)), some (.int (zI se)), some (.int (zI 25)), some (.int (zI a)), some (.int (zI b)), some (.int (zI v12)), some (.int (zI 0)), some (.int (zI 4))], [.int (zI 25), .ref 170], es)) i_271_196 rfl ?_
          refine x0 (r := (199, [some (.ref 143), some (.int (zI fi)), some (.int (zI se)), some (.int (zI 25)), some (.int (zI a)), some (.int (zI b)), some (.int (zI v12)), some (.int (zI 0)), some (.int (zI 4))], [.int (zI a), .int (zI 25), .ref 170], es)) i_271_197 rfl ?_
          refine x_imul i_271_199 ?_
          refine x0 (r := (202, [some (.ref 143), some (.int (zI fi)), some (.int (zI se)), some (.int (zI 25)), some (.int (zI a)), some (.int (zI b)), some (.int (zI v12)), some (.int (zI 0)), some (.int (zI 4))], [.int (zI b), .int (zI (25 * a)), .ref 170], es)) i_271_200 rfl ?_
          refine x_iadd i_271_202 ?_
          refine x0 (r := (205, [some (.ref 143), some (.int (zI fi)), some (.int (zI se)), some (.int (zI 25)), some (.int (zI a)), some (.int (zI b)), some (.int (zI v12)), some (.int (zI 0)), some (.int (zI 4))], [.int (zI v12), .int (zI ((25 * a) + b)), .ref 170], es)) i_271_203 rfl ?_
          refine x_iast (p := 106) i_271_205 hs_es rfl (by unfold i32 iLO iHI; omega) (by omega) (by omega) ?_
          obtain ⟨es13, e_es13⟩ : ∃ z : PH, z = sA es 106 ((25 * a) + b).toNat (zI v12) := ⟨_, rfl⟩
          have hs_es13 : sh es13 := by rw [e_es13]; exact sh_sA hs_es
          have hT_es13 : hOK tT es13 := by rw [e_es13]; exact hOK_sA hT_es (p := 106) (n := 625) rfl (fun _ => i32_rng _)
          rw [← e_es13]
          refine x_iinc (x := b) i_271_206 rfl (by show 5 < 9; decide) ?_
          show aW _ _ _ _ _ _ (209, [some (.ref 143), some (.int (zI fi)), some (.int (zI se)), some (.int (zI 25)), some (.int (zI a)), some (.int (zI (b + 1))), some (.int (zI v12)), some (.int (zI 0)), some (.int (zI 4))], [], es13)
          refine x0 (r := (55, [some (.ref 143), some (.int (zI fi)), some (.int (zI se)), some (.int (zI 25)), some (.int (zI a)), some (.int (zI (b + 1))), some (.int (zI v12)), some (.int (zI 0)), some (.int (zI 4))], [], es13)) i_271_209 rfl ?_
          exact K4 v1 e_v1 c2 c3 c5 v7 e_v7 v8 e_v8 c9 v10 e_v10 v11 e_v11 v12 e_v12 es13 e_es13
        · refine x_cmpF i_271_117 (by unfold i32 iLO iHI; omega) (by unfold i32 iLO iHI; omega) rfl (by simp only [zC, cR]; omega) ?_
          refine x0 (r := (121, [some (.ref 143), some (.int (zI fi)), some (.int (zI se)), some (.int (zI 25)), some (.int (zI a)), some (.int (zI b)), some (.int (zI 0)), some (.int (zI 1)), some (.int (zI 0))], [.int (zI 1)], es)) i_271_120 (by rfl) ?_
          refine x0 (r := (125, [some (.ref 143), some (.int (zI fi)), some (.int (zI se)), some (.int (zI 25)), some (.int (zI a)), some (.int (zI b)), some (.int (zI 0)), some (.int (zI 1)), some (.int (zI 0))], [.int (zI 1)], es)) i_271_121 rfl ?_
          refine x0 (r := (127, [some (.ref 143), some (.int (zI fi)), some (.int (zI se)), some (.int (zI 25)), some (.int (zI a)), some (.int (zI b)), some (.int (zI 0)), some (.int (zI 1)), some (.int (zI 0))], [], es)) i_271_125 rfl ?_
          refine x_iinc (x := 0) i_271_127 rfl (by show 8 < 9; decide) ?_
          show aW _ _ _ _ _ _ (130, [some (.ref 143), some (.int (zI fi)), some (.int (zI se)), some (.int (zI 25)), some (.int (zI a)), some (.int (zI b)), some (.int (zI 0)), some (.int (zI 1)), some (.int (zI 1))], [], es)
          refine x0 (r := (84, [some (.ref 143), some (.int (zI fi)), some (.int (zI se)), some (.int (zI 25)), some (.int (zI a)), some (.int (zI b)), some (.int (zI 0)), some (.int (zI 1)), some (.int (zI 1))], [], es)) i_271_130 rfl ?_
          refine x0 (r := (86, [some (.ref 143), some (.int (zI fi)), some (.int (zI se)), some (.int (zI 25)), some (.int (zI a)), some (.int (zI b)), some (.int (zI 0)), some (.int (zI 1)), some (.int (zI 1))], [.int (zI 1)], es)) i_271_84 rfl ?_
          refine x0 (r := (87, [some (.ref 143), some (.int (zI fi)), some (.int (zI se)), some (.int (zI 25)), some (.int (zI a)), some (.int (zI b)), some (.int (zI 0)), some (.int (zI 1)), some (.int (zI 1))], [.int (zI 4), .int (zI 1)], es)) i_271_86 (by rfl) ?_
          refine x_cmpF i_271_87 (by unfold i32 iLO iHI; omega) (by unfold i32 iLO iHI; omega) rfl (by simp only [zC, cR]; omega) ?_
          refine x0 (r := (92, [some (.ref 143), some (.int (zI fi)), some (.int (zI se)), some (.int (zI 25)), some (.int (zI a)), some (.int (zI b)), some (.int (zI 0)), some (.int (zI 1)), some (.int (zI 1))], [.int (zI 1)], es)) i_271_90 rfl ?_
          refine x_ifF i_271_92 (by unfold i32 iLO iHI; omega) rfl (by simp only [zC, cR]; omega) ?_
          refine x0 (r := (96, [some (.ref 143), some (.int (zI fi)), some (.int (zI se)), some (.int (zI 25)), some (.int (zI a)), some (.int (zI b)), some (.int (zI 0)), some (.int (zI 1)), some (.int (zI 1))], [.ref 143], es)) i_271_95 rfl ?_
          refine x0 (r := (97, [some (.ref 143), some (.int (zI fi)), some (.int (zI se)), some (.int (zI 25)), some (.int (zI a)), some (.int (zI b)), some (.int (zI 0)), some (.int (zI 1)), some (.int (zI 1))], [.int (zI fi), .ref 143], es)) i_271_96 rfl ?_
          refine x0 (r := (99, [some (.ref 143), some (.int (zI fi)), some (.int (zI se)), some (.int (zI 25)), some (.int (zI a)), some (.int (zI b)), some (.int (zI 0)), some (.int (zI 1)), some (.int (zI 1))], [.int (zI a), .int (zI fi), .ref 143], es)) i_271_97 rfl ?_
          refine x0 (r := (100, [some (.ref 143), some (.int (zI fi)), some (.int (zI se)), some (.int (zI 25)), some (.int (zI a)), some (.int (zI b)), some (.int (zI 0)), some (.int (zI 1)), some (.int (zI 1))], [.int (zI 1), .int (zI a), .int (zI fi), .ref 143], es)) i_271_99 (by rfl) ?_
          refine x_isub i_271_100 ?_
          refine x0 (r := (103, [some (.ref 143), some (.int (zI fi)), some (.int (zI se)), some (.int (zI 25)), some (.int (zI a)), some (.int (zI b)), some (.int (zI 0)), some (.int (zI 1)), some (.int (zI 1))], [.int (zI 1), .int (zI (a - 1)), .int (zI fi), .ref 143], es)) i_271_101 rfl ?_
          refine x_call (vs := [.ref 143, .int (zI fi), .int (zI (a - 1)), .int (zI 1)]) (rs := []) i_271_103 rfl (fun _ => rfl) rfl rfl rfl rfl rfl (pCall_v (p := 79) hs_es rfl rfl rfl rfl rfl (by decide) rfl rfl rfl rfl rfl) ?_
          show aW _ _ _ _ _ _ (0, [some (.ref 143), some (.int (zI fi)), some (.int (zI (a - 1))), some (.int (zI 1))], [], es)
          refine x0 (r := (1, [some (.ref 143), some (.int (zI fi)), some (.int (zI (a - 1))), some (.int (zI 1))], [.ref 143], es)) i_211_0 rfl ?_
          refine x0 (r := (2, [some (.ref 143), some (.int (zI fi)), some (.int (zI (a - 1))), some (.int (zI 1))], [.int (zI fi), .ref 143], es)) i_211_1 rfl ?_
          refine x0 (r := (3, [some (.ref 143), some (.int (zI fi)), some (.int (zI (a - 1))), some (.int (zI 1))], [.int (zI 2), .int (zI fi), .ref 143], es)) i_211_2 (by rfl) ?_
          refine x0 (r := (4, [some (.ref 143), some (.int (zI fi)), some (.int (zI (a - 1))), some (.int (zI 1))], [.int (zI 4), .int (zI 2), .int (zI fi), .ref 143], es)) i_211_3 (by rfl) ?_
          refine x0 (r := (5, [some (.ref 143), some (.int (zI fi)), some (.int (zI (a - 1))), some (.int (zI 1))], [.int (zI (a - 1)), .int (zI 4), .int (zI 2), .int (zI fi), .ref 143], es)) i_211_4 rfl ?_
          refine x_imul i_211_5 ?_
          refine x_iadd i_211_6 ?_
          refine x0 (r := (8, [some (.ref 143), some (.int (zI fi)), some (.int (zI (a - 1))), some (.int (zI 1))], [.int (zI 1), .int (zI (2 + (4 * (a - 1)))), .int (zI fi), .ref 143], es)) i_211_7 rfl ?_
          refine x_iadd i_211_8 ?_
          refine x_call (vs := [.ref 143, .int (zI fi), .int (zI ((2 + (4 * (a - 1))) + 1))]) (rs := []) i_211_9 rfl (fun _ => rfl) rfl rfl rfl rfl rfl (pCall_v (p := 79) hs_es rfl rfl rfl rfl rfl (by decide) rfl rfl rfl rfl rfl) ?_
          show aW _ _ _ _ _ _ (0, [some (.ref 143), some (.int (zI fi)), some (.int (zI ((2 + (4 * (a - 1))) + 1)))], [], es)
          refine x0 (r := (1, [some (.ref 143), some (.int (zI fi)), some (.int (zI ((2 + (4 * (a - 1))) + 1)))], [.ref 143], es)) i_206_0 rfl ?_
          refine x_getr (p := 79) (k := 144) i_206_1 hs_es rfl rfl ?_
          show aW _ _ _ _ _ _ (4, [some (.ref 143), some (.int (zI fi)), some (.int (zI ((2 + (4 * (a - 1))) + 1)))], [.ref 144], es)
          refine x0 (r := (6, [some (.ref 143), some (.int (zI fi)), some (.int (zI ((2 + (4 * (a - 1))) + 1)))], [.int (zI 119), .ref 144], es)) i_206_4 (by rfl) ?_
          refine x0 (r := (8, [some (.ref 143), some (.int (zI fi)), some (.int (zI ((2 + (4 * (a - 1))) + 1)))], [.int (zI 98), .int (zI 119), .ref 144], es)) i_206_6 (by rfl) ?_
          refine x0 (r := (9, [some (.ref 143), some (.int (zI fi)), some (.int (zI ((2 + (4 * (a - 1))) + 1)))], [.int (zI fi), .int (zI 98), .int (zI 119), .ref 144], es)) i_206_8 rfl ?_
          refine x_imul i_206_9 ?_
          refine x_iadd i_206_10 ?_
          refine x0 (r := (12, [some (.ref 143), some (.int (zI fi)), some (.int (zI ((2 + (4 * (a - 1))) + 1)))], [.int (zI ((2 + (4 * (a - 1))) + 1)), .int (zI (119 + (98 * fi))), .ref 144], es)) i_206_11 rfl ?_
          refine x_iadd i_206_12 ?_
          refine x_iald (p := 80) i_206_13 hs_es rfl (by unfold i32 iLO iHI; omega) (by omega) (by omega) ?_
          obtain ⟨v14, e_v14⟩ : ∃ z : Int, z = (gA es 80 ((119 + (98 * fi)) + ((2 + (4 * (a - 1))) + 1)).toNat).toInt := ⟨_, rfl⟩
          rw [← e_v14]
          have r_v14 : iLO ≤ v14 ∧ v14 ≤ iHI := by rw [e_v14]; exact i32_rng _
          unfold iLO iHI at r_v14
          refine x_ret (v := some (.int (zI v14))) i_206_14 rfl (fun _ => rfl) rfl rfl rfl ?_
          show aW _ _ _ _ _ _ (12, [some (.ref 143), some (.int (zI fi)), some (.int (zI (a - 1))), some (.int (zI 1))], [.int (zI v14)], es)
          refine x_ret (v := some (.int (zI v14))) i_211_12 rfl (fun _ => rfl) rfl rfl rfl ?_
          show aW _ _ _ _ _ _ (106, [some (.ref 143), some (.int (zI fi)), some (.int (zI se)), some (.int (zI 25)), some (.int (zI a)), some (.int (zI b)), some (.int (zI 0)), some (.int (zI 1)), some (.int (zI 1))], [.int (zI v14)], es)
          refine x0 (r := (107, [some (.ref 143), some (.int (zI fi)), some (.int (zI se)), some (.int (zI 25)), some (.int (zI a)), some (.int (zI b)), some (.int (zI 0)), some (.int (zI 1)), some (.int (zI 1))], [.ref 143, .int (zI v14)], es)) i_271_106 rfl ?_
          refine x0 (r := (108, [some (.ref 143), some (.int (zI fi)), some (.int (zI se)), some (.int (zI 25)), some (.int (zI a)), some (.int (zI b)), some (.int (zI 0)), some (.int (zI 1)), some (.int (zI 1))], [.int (zI se), .ref 143, .int (zI v14)], es)) i_271_107 rfl ?_
          refine x0 (r := (110, [some (.ref 143), some (.int (zI fi)), some (.int (zI se)), some (.int (zI 25)), some (.int (zI a)), some (.int (zI b)), some (.int (zI 0)), some (.int (zI 1)), some (.int (zI 1))], [.int (zI b), .int (zI se), .ref 143, .int (zI v14)], es)) i_271_108 rfl ?_
          refine x0 (r := (111, [some (.ref 143), some (.int (zI fi)), some (.int (zI se)), some (.int (zI 25)), some (.int (zI a)), some (.int (zI b)), some (.int (zI 0)), some (.int (zI 1)), some (.int (zI 1))], [.int (zI 1), .int (zI b), .int (zI se), .ref 143, .int (zI v14)], es)) i_271_110 (by rfl) ?_
          refine x_isub i_271_111 ?_
          refine x0 (r := (114, [some (.ref 143), some (.int (zI fi)), some (.int (zI se)), some (.int (zI 25)), some (.int (zI a)), some (.int (zI b)), some (.int (zI 0)), some (.int (zI 1)), some (.int (zI 1))], [.int (zI 1), .int (zI (b - 1)), .int (zI se), .ref 143, .int (zI v14)], es)) i_271_112 rfl ?_
          refine x_call (vs := [.ref 143, .int (zI se), .int (zI (b - 1)), .int (zI 1)]) (rs := [.int (zI v14)]) i_271_114 rfl (fun _ => rfl) rfl rfl rfl rfl rfl (pCall_v (p := 79) hs_es rfl rfl rfl rfl rfl (by decide) rfl rfl rfl rfl rfl) ?_
          show aW _ _ _ _ _ _ (0, [some (.ref 143), some (.int (zI se)), some (.int (zI (b - 1))), some (.int (zI 1))], [], es)
          refine x0 (r := (1, [some (.ref 143), some (.int (zI se)), some (.int (zI (b - 1))), some (.int (zI 1))], [.ref 143], es)) i_211_0 rfl ?_
          refine x0 (r := (2, [some (.ref 143), some (.int (zI se)), some (.int (zI (b - 1))), some (.int (zI 1))], [.int (zI se), .ref 143], es)) i_211_1 rfl ?_
          refine x0 (r := (3, [some (.ref 143), some (.int (zI se)), some (.int (zI (b - 1))), some (.int (zI 1))], [.int (zI 2), .int (zI se), .ref 143], es)) i_211_2 (by rfl) ?_
          refine x0 (r := (4, [some (.ref 143), some (.int (zI se)), some (.int (zI (b - 1))), some (.int (zI 1))], [.int (zI 4), .int (zI 2), .int (zI se), .ref 143], es)) i_211_3 (by rfl) ?_
          refine x0 (r := (5, [some (.ref 143), some (.int (zI se)), some (.int (zI (b - 1))), some (.int (zI 1))], [.int (zI (b - 1)), .int (zI 4), .int (zI 2), .int (zI se), .ref 143], es)) i_211_4 rfl ?_
          refine x_imul i_211_5 ?_
          refine x_iadd i_211_6 ?_
          refine x0 (r := (8, [some (.ref 143), some (.int (zI se)), some (.int (zI (b - 1))), some (.int (zI 1))], [.int (zI 1), .int (zI (2 + (4 * (b - 1)))), .int (zI se), .ref 143], es)) i_211_7 rfl ?_
          refine x_iadd i_211_8 ?_
          refine x_call (vs := [.ref 143, .int (zI se), .int (zI ((2 + (4 * (b - 1))) + 1))]) (rs := []) i_211_9 rfl (fun _ => rfl) rfl rfl rfl rfl rfl (pCall_v (p := 79) hs_es rfl rfl rfl rfl rfl (by decide) rfl rfl rfl rfl rfl) ?_
          show aW _ _ _ _ _ _ (0, [some (.ref 143), some (.int (zI se)), some (.int (zI ((2 + (4 * (b - 1))) + 1)))], [], es)
          refine x0 (r := (1, [some (.ref 143), some (.int (zI se)), some (.int (zI ((2 + (4 * (b - 1))) + 1)))], [.ref 143], es)) i_206_0 rfl ?_
          refine x_getr (p := 79) (k := 144) i_206_1 hs_es rfl rfl ?_
          show aW _ _ _ _ _ _ (4, [some (.ref 143), some (.int (zI se)), some (.int (zI ((2 + (4 * (b - 1))) + 1)))], [.ref 144], es)
          refine x0 (r := (6, [some (.ref 143), some (.int (zI se)), some (.int (zI ((2 + (4 * (b - 1))) + 1)))], [.int (zI 119), .ref 144], es)) i_206_4 (by rfl) ?_
          refine x0 (r := (8, [some (.ref 143), some (.int (zI se)), some (.int (zI ((2 + (4 * (b - 1))) + 1)))], [.int (zI 98), .int (zI 119), .ref 144], es)) i_206_6 (by rfl) ?_
          refine x0 (r := (9, [some (.ref 143), some (.int (zI se)), some (.int (zI ((2 + (4 * (b - 1))) + 1)))], [.int (zI se), .int (zI 98), .int (zI 119), .ref 144], es)) i_206_8 rfl ?_
          refine x_imul i_206_9 ?_
          refine x_iadd i_206_10 ?_
          refine x0 (r := (12, [some (.ref 143), some (.int (zI se)), some (.int (zI ((2 + (4 * (b - 1))) + 1)))], [.int (zI ((2 + (4 * (b - 1))) + 1)), .int (zI (119 + (98 * se))), .ref 144], es)) i_206_11 rfl ?_
          refine x_iadd i_206_12 ?_
          refine x_iald (p := 80) i_206_13 hs_es rfl (by unfold i32 iLO iHI; omega) (by omega) (by omega) ?_
          obtain ⟨v15, e_v15⟩ : ∃ z : Int, z = (gA es 80 ((119 + (98 * se)) + ((2 + (4 * (b - 1))) + 1)).toNat).toInt := ⟨_, rfl⟩
          rw [← e_v15]
          have r_v15 : iLO ≤ v15 ∧ v15 ≤ iHI := by rw [e_v15]; exact i32_rng _
          unfold iLO iHI at r_v15
          refine x_ret (v := some (.int (zI v15))) i_206_14 rfl (fun _ => rfl) rfl rfl rfl ?_
          show aW _ _ _ _ _ _ (12, [some (.ref 143), some (.int (zI se)), some (.int (zI (b - 1))), some (.int (zI 1))], [.int (zI v15)], es)
          refine x_ret (v := some (.int (zI v15))) i_211_12 rfl (fun _ => rfl) rfl rfl rfl ?_
          show aW _ _ _ _ _ _ (117, [some (.ref 143), some (.int (zI fi)), some (.int (zI se)), some (.int (zI 25)), some (.int (zI a)), some (.int (zI b)), some (.int (zI 0)), some (.int (zI 1)), some (.int (zI 1))], [.int (zI v15), .int (zI v14)], es)
          by_cases c16 : v14 ≠ v15
          · refine x_cmpT i_271_117 (by unfold i32 iLO iHI; omega) (by unfold i32 iLO iHI; omega) rfl (by simp only [zC, cR]; omega) ?_
            refine x0 (r := (125, [some (.ref 143), some (.int (zI fi)), some (.int (zI se)), some (.int (zI 25)), some (.int (zI a)), some (.int (zI b)), some (.int (zI 0)), some (.int (zI 1)), some (.int (zI 1))], [.int (zI 0)], es)) i_271_124 (by rfl) ?_
            refine x0 (r := (127, [some (.ref 143), some (.int (zI fi)), some (.int (zI se)), some (.int (zI 25)), some (.int (zI a)), some (.int (zI b)), some (.int (zI 0)), some (.int (zI 0)), some (.int (zI 1))], [], es)) i_271_125 rfl ?_
            refine x_iinc (x := 1) i_271_127 rfl (by show 8 < 9; decide) ?_
            show aW _ _ _ _ _ _ (130, [some (.ref 143), some (.int (zI fi)), some (.int (zI se)), some (.int (zI 25)), some (.int (zI a)), some (.int (zI b)), some (.int (zI 0)), some (.int (zI 0)), some (.int (zI 2))], [], es)
            refine x0 (r := (84, [some (.ref 143), some (.int (zI fi)), some (.int (zI se)), some (.int (zI 25)), some (.int (zI a)), some (.int (zI b)), some (.int (zI 0)), some (.int (zI 0)), some (.int (zI 2))], [], es)) i_271_130 rfl ?_
            refine x0 (r := (86, [some (.ref 143), some (.int (zI fi)), some (.int (zI se)), some (.int (zI 25)), some (.int (zI a)), some (.int (zI b)), some (.int (zI 0)), some (.int (zI 0)), some (.int (zI 2))], [.int (zI 2)], es)) i_271_84 rfl ?_
            refine x0 (r := (87, [some (.ref 143), some (.int (zI fi)), some (.int (zI se)), some (.int (zI 25)), some (.int (zI a)), some (.int (zI b)), some (.int (zI 0)), some (.int (zI 0)), some (.int (zI 2))], [.int (zI 4), .int (zI 2)], es)) i_271_86 (by rfl) ?_
            refine x_cmpF i_271_87 (by unfold i32 iLO iHI; omega) (by unfold i32 iLO iHI; omega) rfl (by simp only [zC, cR]; omega) ?_
            refine x0 (r := (92, [some (.ref 143), some (.int (zI fi)), some (.int (zI se)), some (.int (zI 25)), some (.int (zI a)), some (.int (zI b)), some (.int (zI 0)), some (.int (zI 0)), some (.int (zI 2))], [.int (zI 0)], es)) i_271_90 rfl ?_
            refine x_ifT i_271_92 (by unfold i32 iLO iHI; omega) rfl (by simp only [zC, cR]; omega) ?_
            refine x0 (r := (125, [some (.ref 143), some (.int (zI fi)), some (.int (zI se)), some (.int (zI 25)), some (.int (zI a)), some (.int (zI b)), some (.int (zI 0)), some (.int (zI 0)), some (.int (zI 2))], [.int (zI 0)], es)) i_271_124 (by rfl) ?_
            refine x0 (r := (127, [some (.ref 143), some (.int (zI fi)), some (.int (zI se)), some (.int (zI 25)), some (.int (zI a)), some (.int (zI b)), some (.int (zI 0)), some (.int (zI 0)), some (.int (zI 2))], [], es)) i_271_125 rfl ?_
            refine x_iinc (x := 2) i_271_127 rfl (by show 8 < 9; decide) ?_
            show aW _ _ _ _ _ _ (130, [some (.ref 143), some (.int (zI fi)), some (.int (zI se)), some (.int (zI 25)), some (.int (zI a)), some (.int (zI b)), some (.int (zI 0)), some (.int (zI 0)), some (.int (zI 3))], [], es)
            refine x0 (r := (84, [some (.ref 143), some (.int (zI fi)), some (.int (zI se)), some (.int (zI 25)), some (.int (zI a)), some (.int (zI b)), some (.int (zI 0)), some (.int (zI 0)), some (.int (zI 3))], [], es)) i_271_130 rfl ?_
            refine x0 (r := (86, [some (.ref 143), some (.int (zI fi)), some (.int (zI se)), some (.int (zI 25)), some (.int (zI a)), some (.int (zI b)), some (.int (zI 0)), some (.int (zI 0)), some (.int (zI 3))], [.int (zI 3)], es)) i_271_84 rfl ?_
            refine x0 (r := (87, [some (.ref 143), some (.int (zI fi)), some (.int (zI se)), some (.int (zI 25)), some (.int (zI a)), some (.int (zI b)), some (.int (zI 0)), some (.int (zI 0)), some (.int (zI 3))], [.int (zI 4), .int (zI 3)], es)) i_271_86 (by rfl) ?_
            refine x_cmpF i_271_87 (by unfold i32 iLO iHI; omega) (by unfold i32 iLO iHI; omega) rfl (by simp only [zC, cR]; omega) ?_
            refine x0 (r := (92, [some (.ref 143), some (.int (zI fi)), some (.int (zI se)), some (.int (zI 25)), some (.int (zI a)), some (.int (zI b)), some (.int (zI 0)), some (.int (zI 0)), some (.int (zI 3))], [.int (zI 0)], es)) i_271_90 rfl ?_
            refine x_ifT i_271_92 (by unfold i32 iLO iHI; omega) rfl (by simp only [zC, cR]; omega) ?_
            refine x0 (r := (125, [some (.ref 143), some (.int (zI fi)), some (.int (zI se)), some (.int (zI 25)), some (.int (zI a)), some (.int (zI b)), some (.int (zI 0)), some (.int (zI 0)), some (.int (zI 3))], [.int (zI 0)], es)) i_271_124 (by rfl) ?_
            refine x0 (r := (127, [some (.ref 143), some (.int (zI fi)), some (.int (zI se)), some (.int (zI 25)), some (.int (zI a)), some (.int (zI b)), some (.int (zI 0)), some (.int (zI 0)), some (.int (zI 3))], [], es)) i_271_125 rfl ?_
            refine x_iinc (x := 3) i_271_127 rfl (by show 8 < 9; decide) ?_
            show aW _ _ _ _ _ _ (130, [some (.ref 143), some (.int (zI fi)), some (.int (zI se)), some (.int (zI 25)), some (.int (zI a)), some (.int (zI b)), some (.int (zI 0)), some (.int (zI 0)), some (.int (zI 4))], [], es)
            refine x0 (r := (84, [some (.ref 143), some (.int (zI fi)), some (.int (zI se)), some (.int (zI 25)), some (.int (zI a)), some (.int (zI b)), some (.int (zI 0)), some (.int (zI 0)), some (.int (zI 4))], [], es)) i_271_130 rfl ?_
            refine x0 (r := (86, [some (.ref 143), some (.int (zI fi)), some (.int (zI se)), some (.int (zI 25)), some (.int (zI a)), some (.int (zI b)), some (.int (zI 0)), some (.int (zI 0)), some (.int (zI 4))], [.int (zI 4)], es)) i_271_84 rfl ?_
            refine x0 (r := (87, [some (.ref 143), some (.int (zI fi)), some (.int (zI se)), some (.int (zI 25)), some (.int (zI a)), some (.int (zI b)), some (.int (zI 0)), some (.int (zI 0)), some (.int (zI 4))], [.int (zI 4), .int (zI 4)], es)) i_271_86 (by rfl) ?_
            refine x_cmpT i_271_87 (by unfold i32 iLO iHI; omega) (by unfold i32 iLO iHI; omega) rfl (by simp only [zC, cR]; omega) ?_
            refine x0 (r := (135, [some (.ref 143), some (.int (zI fi)), some (.int (zI se)), some (.int (zI 25)), some (.int (zI a)), some (.int (zI b)), some (.int (zI 0)), some (.int (zI 0)), some (.int (zI 4))], [.int (zI 0)], es)) i_271_133 rfl ?_
            refine x_ifT i_271_135 (by unfold i32 iLO iHI; omega) rfl (by simp only [zC, cR]; omega) ?_
            refine x0 (r := (160, [some (.ref 143), some (.int (zI fi)), some (.int (zI se)), some (.int (zI 25)), some (.int (zI a)), some (.int (zI b)), some (.int (zI 0)), some (.int (zI 0)), some (.int (zI 4))], [.ref 143], es)) i_271_159 rfl ?_
            refine x_getr (p := 79) (k := 170) i_271_160 hs_es rfl rfl ?_
            show aW _ _ _ _ _ _ (163, [some (.ref 143), some (.int (zI fi)), some (.int (zI se)), some (.int (zI 25)), some (.int (zI a)), some (.int (zI b)), some (.int (zI 0)), some (.int (zI 0)), some (.int (zI 4))], [.ref 170], es)
            refine x0 (r := (164, [some (.ref 143), some (.int (zI fi)), some (.int (zI se)), some (.int (zI 25)), some (.int (zI a)), some (.int (zI b)), some (.int (zI 0)), some (.int (zI 0)), some (.int (zI 4))], [.int (zI 25), .ref 170], es)) i_271_163 rfl ?_
            refine x0 (r := (166, [some (.ref 143), some (.int (zI fi)), some (.int (zI se)), some (.int (zI 25)), some (.int (zI a)), some (.int (zI b)), some (.int (zI 0)), some (.int (zI 0)), some (.int (zI 4))], [.int (zI a), .int (zI 25), .ref 170], es)) i_271_164 rfl ?_
            refine x0 (r := (167, [some (.ref 143), some (.int (zI fi)), some (.int (zI se)), some (.int (zI 25)), some (.int (zI a)), some (.int (zI b)), some (.int (zI 0)), some (.int (zI 0)), some (.int (zI 4))], [.int (zI 1), .int (zI a), .int (zI 25), .ref 170], es)) i_271_166 (by rfl) ?_
            refine x_isub i_271_167 ?_
            refine x_imul i_271_168 ?_
            refine x0 (r := (171, [some (.ref 143), some (.int (zI fi)), some (.int (zI se)), some (.int (zI 25)), some (.int (zI a)), some (.int (zI b)), some (.int (zI 0)), some (.int (zI 0)), some (.int (zI 4))], [.int (zI b), .int (zI (25 * (a - 1))), .ref 170], es)) i_271_169 rfl ?_
            refine x_iadd i_271_171 ?_
            refine x_iald (p := 106) i_271_172 hs_es rfl (by unfold i32 iLO iHI; omega) (by omega) (by omega) ?_
            obtain ⟨v17, e_v17⟩ : ∃ z : Int, z = (gA es 106 ((25 * (a - 1)) + b).toNat).toInt := ⟨_, rfl⟩
            rw [← e_v17]
            have r_v17 : iLO ≤ v17 ∧ v17 ≤ iHI := by rw [e_v17]; exact i32_rng _
            unfold iLO iHI at r_v17
            refine x0 (r := (174, [some (.ref 143), some (.int (zI fi)), some (.int (zI se)), some (.int (zI 25)), some (.int (zI a)), some (.int (zI b)), some (.int (zI 0)), some (.int (zI 0)), some (.int (zI 4))], [.ref 143, .int (zI v17)], es)) i_271_173 rfl ?_
            refine x_getr (p := 79) (k := 170) i_271_174 hs_es rfl rfl ?_
            show aW _ _ _ _ _ _ (177, [some (.ref 143), some (.int (zI fi)), some (.int (zI se)), some (.int (zI 25)), some (.int (zI a)), some (.int (zI b)), some (.int (zI 0)), some (.int (zI 0)), some (.int (zI 4))], [.ref 170, .int (zI v17)], es)
            refine x0 (r := (178, [some (.ref 143), some (.int (zI fi)), some (.int (zI se)), some (.int (zI 25)), some (.int (zI a)), some (.int (zI b)), some (.int (zI 0)), some (.int (zI 0)), some (.int (zI 4))], [.int (zI 25), .ref 170, .int (zI v17)], es)) i_271_177 rfl ?_
            refine x0 (r := (180, [some (.ref 143), some (.int (zI fi)), some (.int (zI se)), some (.int (zI 25)), some (.int (zI a)), some (.int (zI b)), some (.int (zI 0)), some (.int (zI 0)), some (.int (zI 4))], [.int (zI a), .int (zI 25), .ref 170, .int (zI v17)], es)) i_271_178 rfl ?_
            refine x_imul i_271_180 ?_
            refine x0 (r := (183, [some (.ref 143), some (.int (zI fi)), some (.int (zI se)), some (.int (zI 25)), some (.int (zI a)), some (.int (zI b)), some (.int (zI 0)), some (.int (zI 0)), some (.int (zI 4))], [.int (zI b), .int (zI (25 * a)), .ref 170, .int (zI v17)], es)) i_271_181 rfl ?_
            refine x_iadd i_271_183 ?_
            refine x0 (r := (185, [some (.ref 143), some (.int (zI fi)), some (.int (zI se)), some (.int (zI 25)), some (.int (zI a)), some (.int (zI b)), some (.int (zI 0)), some (.int (zI 0)), some (.int (zI 4))], [.int (zI 1), .int (zI ((25 * a) + b)), .ref 170, .int (zI v17)], es)) i_271_184 (by rfl) ?_
            refine x_isub i_271_185 ?_
            refine x_iald (p := 106) i_271_186 hs_es rfl (by unfold i32 iLO iHI; omega) (by omega) (by omega) ?_
            obtain ⟨v18, e_v18⟩ : ∃ z : Int, z = (gA es 106 (((25 * a) + b) - 1).toNat).toInt := ⟨_, rfl⟩
            rw [← e_v18]
            have r_v18 : iLO ≤ v18 ∧ v18 ≤ iHI := by rw [e_v18]; exact i32_rng _
            unfold iLO iHI at r_v18
            refine x_max i_271_187 (by unfold i32 iLO iHI; omega) (by unfold i32 iLO iHI; omega) (Nat.le_of_ble_eq_true rfl) ?_
            obtain ⟨v19, e_v19⟩ : ∃ z : Int, z = max v17 v18 := ⟨_, rfl⟩
            rw [← e_v19]
            refine x0 (r := (192, [some (.ref 143), some (.int (zI fi)), some (.int (zI se)), some (.int (zI 25)), some (.int (zI a)), some (.int (zI b)), some (.int (zI v19)), some (.int (zI 0)), some (.int (zI 4))], [], es)) i_271_190 rfl ?_
            refine x0 (r := (193, [some (.ref 143), some (.int (zI fi)), some (.int (zI se)), some (.int (zI 25)), some (.int (zI a)), some (.int (zI b)), some (.int (zI v19)), some (.int (zI 0)), some (.int (zI 4))], [.ref 143], es)) i_271_192 rfl ?_
            refine x_getr (p := 79) (k := 170) i_271_193 hs_es rfl rfl ?_
            show aW _ _ _ _ _ _ (196, [some (.ref 143), some (.int (zI fi)), some (.int (zI se)), some (.int (zI 25)), some (.int (zI a)), some (.int (zI b)), some (.int (zI v19)), some (.int (zI 0)), some (.int (zI 4))], [.ref 170], es)
            refine x0 (r := (197, [some (.ref 143), some (.int (zI fi)), some (.int (zI se)), some (.int (zI 25)), some (.int (zI a)), some (.int (zI b)), some (.int (zI v19)), some (.int (zI 0)), some (.int (zI 4))], [.int (zI 25), .ref 170], es)) i_271_196 rfl ?_
            refine x0 (r := (199, [some (.ref 143), some (.int (zI fi)), some (.int (zI se)), some (.int (zI 25)), some (.int (zI a)), some (.int (zI b)), some (.int (zI v19)), some (.int (zI 0)), some (.int (zI 4))], [.int (zI a), .int (zI 25), .ref 170], es)) i_271_197 rfl ?_
            refine x_imul i_271_199 ?_
            refine x0 (r := (202, [some (.ref 143), some (.int (zI fi)), some (.int (zI se)), some (.int (zI 25)), some (.int (zI a)), some (.int (zI b)), some (.int (zI v19)), some (.int (zI 0)), some (.int (zI 4))], [.int (zI b), .int (zI (25 * a)), .ref 170], es)) i_271_200 rfl ?_
            refine x_iadd i_271_202 ?_
            refine x0 (r := (205, [some (.ref 143), some (.int (zI fi)), some (.int (zI se)), some (.int (zI 25)), some (.int (zI a)), some (.int (zI b)), some (.int (zI v19)), some (.int (zI 0)), some (.int (zI 4))], [.int (zI v19), .int (zI ((25 * a) + b)), .ref 170], es)) i_271_203 rfl ?_
            refine x_iast (p := 106) i_271_205 hs_es rfl (by unfold i32 iLO iHI; omega) (by omega) (by omega) ?_
            obtain ⟨es20, e_es20⟩ : ∃ z : PH, z = sA es 106 ((25 * a) + b).toNat (zI v19) := ⟨_, rfl⟩
            have hs_es20 : sh es20 := by rw [e_es20]; exact sh_sA hs_es
            have hT_es20 : hOK tT es20 := by rw [e_es20]; exact hOK_sA hT_es (p := 106) (n := 625) rfl (fun _ => i32_rng _)
            rw [← e_es20]
            refine x_iinc (x := b) i_271_206 rfl (by show 5 < 9; decide) ?_
            show aW _ _ _ _ _ _ (209, [some (.ref 143), some (.int (zI fi)), some (.int (zI se)), some (.int (zI 25)), some (.int (zI a)), some (.int (zI (b + 1))), some (.int (zI v19)), some (.int (zI 0)), some (.int (zI 4))], [], es20)
            refine x0 (r := (55, [some (.ref 143), some (.int (zI fi)), some (.int (zI se)), some (.int (zI 25)), some (.int (zI a)), some (.int (zI (b + 1))), some (.int (zI v19)), some (.int (zI 0)), some (.int (zI 4))], [], es20)) i_271_209 rfl ?_
            exact K5 v1 e_v1 c2 c3 c5 v7 e_v7 v8 e_v8 c9 v14 e_v14 v15 e_v15 c16 v17 e_v17 v18 e_v18 v19 e_v19 es20 e_es20
          · refine x_cmpF i_271_117 (by unfold i32 iLO iHI; omega) (by unfold i32 iLO iHI; omega) rfl (by simp only [zC, cR]; omega) ?_
            refine x0 (r := (121, [some (.ref 143), some (.int (zI fi)), some (.int (zI se)), some (.int (zI 25)), some (.int (zI a)), some (.int (zI b)), some (.int (zI 0)), some (.int (zI 1)), some (.int (zI 1))], [.int (zI 1)], es)) i_271_120 (by rfl) ?_
            refine x0 (r := (125, [some (.ref 143), some (.int (zI fi)), some (.int (zI se)), some (.int (zI 25)), some (.int (zI a)), some (.int (zI b)), some (.int (zI 0)), some (.int (zI 1)), some (.int (zI 1))], [.int (zI 1)], es)) i_271_121 rfl ?_
            refine x0 (r := (127, [some (.ref 143), some (.int (zI fi)), some (.int (zI se)), some (.int (zI 25)), some (.int (zI a)), some (.int (zI b)), some (.int (zI 0)), some (.int (zI 1)), some (.int (zI 1))], [], es)) i_271_125 rfl ?_
            refine x_iinc (x := 1) i_271_127 rfl (by show 8 < 9; decide) ?_
            show aW _ _ _ _ _ _ (130, [some (.ref 143), some (.int (zI fi)), some (.int (zI se)), some (.int (zI 25)), some (.int (zI a)), some (.int (zI b)), some (.int (zI 0)), some (.int (zI 1)), some (.int (zI 2))], [], es)
            refine x0 (r := (84, [some (.ref 143), some (.int (zI fi)), some (.int (zI se)), some (.int (zI 25)), some (.int (zI a)), some (.int (zI b)), some (.int (zI 0)), some (.int (zI 1)), some (.int (zI 2))], [], es)) i_271_130 rfl ?_
            refine x0 (r := (86, [some (.ref 143), some (.int (zI fi)), some (.int (zI se)), some (.int (zI 25)), some (.int (zI a)), some (.int (zI b)), some (.int (zI 0)), some (.int (zI 1)), some (.int (zI 2))], [.int (zI 2)], es)) i_271_84 rfl ?_
            refine x0 (r := (87, [some (.ref 143), some (.int (zI fi)), some (.int (zI se)), some (.int (zI 25)), some (.int (zI a)), some (.int (zI b)), some (.int (zI 0)), some (.int (zI 1)), some (.int (zI 2))], [.int (zI 4), .int (zI 2)], es)) i_271_86 (by rfl) ?_
            refine x_cmpF i_271_87 (by unfold i32 iLO iHI; omega) (by unfold i32 iLO iHI; omega) rfl (by simp only [zC, cR]; omega) ?_
            refine x0 (r := (92, [some (.ref 143), some (.int (zI fi)), some (.int (zI se)), some (.int (zI 25)), some (.int (zI a)), some (.int (zI b)), some (.int (zI 0)), some (.int (zI 1)), some (.int (zI 2))], [.int (zI 1)], es)) i_271_90 rfl ?_
            refine x_ifF i_271_92 (by unfold i32 iLO iHI; omega) rfl (by simp only [zC, cR]; omega) ?_
            refine x0 (r := (96, [some (.ref 143), some (.int (zI fi)), some (.int (zI se)), some (.int (zI 25)), some (.int (zI a)), some (.int (zI b)), some (.int (zI 0)), some (.int (zI 1)), some (.int (zI 2))], [.ref 143], es)) i_271_95 rfl ?_
            refine x0 (r := (97, [some (.ref 143), some (.int (zI fi)), some (.int (zI se)), some (.int (zI 25)), some (.int (zI a)), some (.int (zI b)), some (.int (zI 0)), some (.int (zI 1)), some (.int (zI 2))], [.int (zI fi), .ref 143], es)) i_271_96 rfl ?_
            refine x0 (r := (99, [some (.ref 143), some (.int (zI fi)), some (.int (zI se)), some (.int (zI 25)), some (.int (zI a)), some (.int (zI b)), some (.int (zI 0)), some (.int (zI 1)), some (.int (zI 2))], [.int (zI a), .int (zI fi), .ref 143], es)) i_271_97 rfl ?_
            refine x0 (r := (100, [some (.ref 143), some (.int (zI fi)), some (.int (zI se)), some (.int (zI 25)), some (.int (zI a)), some (.int (zI b)), some (.int (zI 0)), some (.int (zI 1)), some (.int (zI 2))], [.int (zI 1), .int (zI a), .int (zI fi), .ref 143], es)) i_271_99 (by rfl) ?_
            refine x_isub i_271_100 ?_
            refine x0 (r := (103, [some (.ref 143), some (.int (zI fi)), some (.int (zI se)), some (.int (zI 25)), some (.int (zI a)), some (.int (zI b)), some (.int (zI 0)), some (.int (zI 1)), some (.int (zI 2))], [.int (zI 2), .int (zI (a - 1)), .int (zI fi), .ref 143], es)) i_271_101 rfl ?_
            refine x_call (vs := [.ref 143, .int (zI fi), .int (zI (a - 1)), .int (zI 2)]) (rs := []) i_271_103 rfl (fun _ => rfl) rfl rfl rfl rfl rfl (pCall_v (p := 79) hs_es rfl rfl rfl rfl rfl (by decide) rfl rfl rfl rfl rfl) ?_
            show aW _ _ _ _ _ _ (0, [some (.ref 143), some (.int (zI fi)), some (.int (zI (a - 1))), some (.int (zI 2))], [], es)
            refine x0 (r := (1, [some (.ref 143), some (.int (zI fi)), some (.int (zI (a - 1))), some (.int (zI 2))], [.ref 143], es)) i_211_0 rfl ?_
            refine x0 (r := (2, [some (.ref 143), some (.int (zI fi)), some (.int (zI (a - 1))), some (.int (zI 2))], [.int (zI fi), .ref 143], es)) i_211_1 rfl ?_
            refine x0 (r := (3, [some (.ref 143), some (.int (zI fi)), some (.int (zI (a - 1))), some (.int (zI 2))], [.int (zI 2), .int (zI fi), .ref 143], es)) i_211_2 (by rfl) ?_
            refine x0 (r := (4, [some (.ref 143), some (.int (zI fi)), some (.int (zI (a - 1))), some (.int (zI 2))], [.int (zI 4), .int (zI 2), .int (zI fi), .ref 143], es)) i_211_3 (by rfl) ?_
            refine x0 (r := (5, [some (.ref 143), some (.int (zI fi)), some (.int (zI (a - 1))), some (.int (zI 2))], [.int (zI (a - 1)), .int (zI 4), .int (zI 2), .int (zI fi), .ref 143], es)) i_211_4 rfl ?_
            refine x_imul i_211_5 ?_
            refine x_iadd i_211_6 ?_
            refine x0 (r := (8, [some (.ref 143), some (.int (zI fi)), some (.int (zI (a - 1))), some (.int (zI 2))], [.int (zI 2), .int (zI (2 + (4 * (a - 1)))), .int (zI fi), .ref 143], es)) i_211_7 rfl ?_
            refine x_iadd i_211_8 ?_
            refine x_call (vs := [.ref 143, .int (zI fi), .int (zI ((2 + (4 * (a - 1))) + 2))]) (rs := []) i_211_9 rfl (fun _ => rfl) rfl rfl rfl rfl rfl (pCall_v (p := 79) hs_es rfl rfl rfl rfl rfl (by decide) rfl rfl rfl rfl rfl) ?_
            show aW _ _ _ _ _ _ (0, [some (.ref 143), some (.int (zI fi)), some (.int (zI ((2 + (4 * (a - 1))) + 2)))], [], es)
            refine x0 (r := (1, [some (.ref 143), some (.int (zI fi)), some (.int (zI ((2 + (4 * (a - 1))) + 2)))], [.ref 143], es)) i_206_0 rfl ?_
            refine x_getr (p := 79) (k := 144) i_206_1 hs_es rfl rfl ?_
            show aW _ _ _ _ _ _ (4, [some (.ref 143), some (.int (zI fi)), some (.int (zI ((2 + (4 * (a - 1))) + 2)))], [.ref 144], es)
            refine x0 (r := (6, [some (.ref 143), some (.int (zI fi)), some (.int (zI ((2 + (4 * (a - 1))) + 2)))], [.int (zI 119), .ref 144], es)) i_206_4 (by rfl) ?_
            refine x0 (r := (8, [some (.ref 143), some (.int (zI fi)), some (.int (zI ((2 + (4 * (a - 1))) + 2)))], [.int (zI 98), .int (zI 119), .ref 144], es)) i_206_6 (by rfl) ?_
            refine x0 (r := (9, [some (.ref 143), some (.int (zI fi)), some (.int (zI ((2 + (4 * (a - 1))) + 2)))], [.int (zI fi), .int (zI 98), .int (zI 119), .ref 144], es)) i_206_8 rfl ?_
            refine x_imul i_206_9 ?_
            refine x_iadd i_206_10 ?_
            refine x0 (r := (12, [some (.ref 143), some (.int (zI fi)), some (.int (zI ((2 + (4 * (a - 1))) + 2)))], [.int (zI ((2 + (4 * (a - 1))) + 2)), .int (zI (119 + (98 * fi))), .ref 144], es)) i_206_11 rfl ?_
            refine x_iadd i_206_12 ?_
            refine x_iald (p := 80) i_206_13 hs_es rfl (by unfold i32 iLO iHI; omega) (by omega) (by omega) ?_
            obtain ⟨v21, e_v21⟩ : ∃ z : Int, z = (gA es 80 ((119 + (98 * fi)) + ((2 + (4 * (a - 1))) + 2)).toNat).toInt := ⟨_, rfl⟩
            rw [← e_v21]
            have r_v21 : iLO ≤ v21 ∧ v21 ≤ iHI := by rw [e_v21]; exact i32_rng _
            unfold iLO iHI at r_v21
            refine x_ret (v := some (.int (zI v21))) i_206_14 rfl (fun _ => rfl) rfl rfl rfl ?_
            show aW _ _ _ _ _ _ (12, [some (.ref 143), some (.int (zI fi)), some (.int (zI (a - 1))), some (.int (zI 2))], [.int (zI v21)], es)
            refine x_ret (v := some (.int (zI v21))) i_211_12 rfl (fun _ => rfl) rfl rfl rfl ?_
            show aW _ _ _ _ _ _ (106, [some (.ref 143), some (.int (zI fi)), some (.int (zI se)), some (.int (zI 25)), some (.int (zI a)), some (.int (zI b)), some (.int (zI 0)), some (.int (zI 1)), some (.int (zI 2))], [.int (zI v21)], es)
            refine x0 (r := (107, [some (.ref 143), some (.int (zI fi)), some (.int (zI se)), some (.int (zI 25)), some (.int (zI a)), some (.int (zI b)), some (.int (zI 0)), some (.int (zI 1)), some (.int (zI 2))], [.ref 143, .int (zI v21)], es)) i_271_106 rfl ?_
            refine x0 (r := (108, [some (.ref 143), some (.int (zI fi)), some (.int (zI se)), some (.int (zI 25)), some (.int (zI a)), some (.int (zI b)), some (.int (zI 0)), some (.int (zI 1)), some (.int (zI 2))], [.int (zI se), .ref 143, .int (zI v21)], es)) i_271_107 rfl ?_
            refine x0 (r := (110, [some (.ref 143), some (.int (zI fi)), some (.int (zI se)), some (.int (zI 25)), some (.int (zI a)), some (.int (zI b)), some (.int (zI 0)), some (.int (zI 1)), some (.int (zI 2))], [.int (zI b), .int (zI se), .ref 143, .int (zI v21)], es)) i_271_108 rfl ?_
            refine x0 (r := (111, [some (.ref 143), some (.int (zI fi)), some (.int (zI se)), some (.int (zI 25)), some (.int (zI a)), some (.int (zI b)), some (.int (zI 0)), some (.int (zI 1)), some (.int (zI 2))], [.int (zI 1), .int (zI b), .int (zI se), .ref 143, .int (zI v21)], es)) i_271_110 (by rfl) ?_
            refine x_isub i_271_111 ?_
            refine x0 (r := (114, [some (.ref 143), some (.int (zI fi)), some (.int (zI se)), some (.int (zI 25)), some (.int (zI a)), some (.int (zI b)), some (.int (zI 0)), some (.int (zI 1)), some (.int (zI 2))], [.int (zI 2), .int (zI (b - 1)), .int (zI se), .ref 143, .int (zI v21)], es)) i_271_112 rfl ?_
            refine x_call (vs := [.ref 143, .int (zI se), .int (zI (b - 1)), .int (zI 2)]) (rs := [.int (zI v21)]) i_271_114 rfl (fun _ => rfl) rfl rfl rfl rfl rfl (pCall_v (p := 79) hs_es rfl rfl rfl rfl rfl (by decide) rfl rfl rfl rfl rfl) ?_
            show aW _ _ _ _ _ _ (0, [some (.ref 143), some (.int (zI se)), some (.int (zI (b - 1))), some (.int (zI 2))], [], es)
            refine x0 (r := (1, [some (.ref 143), some (.int (zI se)), some (.int (zI (b - 1))), some (.int (zI 2))], [.ref 143], es)) i_211_0 rfl ?_
            refine x0 (r := (2, [some (.ref 143), some (.int (zI se)), some (.int (zI (b - 1))), some (.int (zI 2))], [.int (zI se), .ref 143], es)) i_211_1 rfl ?_
            refine x0 (r := (3, [some (.ref 143), some (.int (zI se)), some (.int (zI (b - 1))), some (.int (zI 2))], [.int (zI 2), .int (zI se), .ref 143], es)) i_211_2 (by rfl) ?_
            refine x0 (r := (4, [some (.ref 143), some (.int (zI se)), some (.int (zI (b - 1))), some (.int (zI 2))], [.int (zI 4), .int (zI 2), .int (zI se), .ref 143], es)) i_211_3 (by rfl) ?_
            refine x0 (r := (5, [some (.ref 143), some (.int (zI se)), some (.int (zI (b - 1))), some (.int (zI 2))], [.int (zI (b - 1)), .int (zI 4), .int (zI 2), .int (zI se), .ref 143], es)) i_211_4 rfl ?_
            refine x_imul i_211_5 ?_
            refine x_iadd i_211_6 ?_
            refine x0 (r := (8, [some (.ref 143), some (.int (zI se)), some (.int (zI (b - 1))), some (.int (zI 2))], [.int (zI 2), .int (zI (2 + (4 * (b - 1)))), .int (zI se), .ref 143], es)) i_211_7 rfl ?_
            refine x_iadd i_211_8 ?_
            refine x_call (vs := [.ref 143, .int (zI se), .int (zI ((2 + (4 * (b - 1))) + 2))]) (rs := []) i_211_9 rfl (fun _ => rfl) rfl rfl rfl rfl rfl (pCall_v (p := 79) hs_es rfl rfl rfl rfl rfl (by decide) rfl rfl rfl rfl rfl) ?_
            show aW _ _ _ _ _ _ (0, [some (.ref 143), some (.int (zI se)), some (.int (zI ((2 + (4 * (b - 1))) + 2)))], [], es)
            refine x0 (r := (1, [some (.ref 143), some (.int (zI se)), some (.int (zI ((2 + (4 * (b - 1))) + 2)))], [.ref 143], es)) i_206_0 rfl ?_
            refine x_getr (p := 79) (k := 144) i_206_1 hs_es rfl rfl ?_
            show aW _ _ _ _ _ _ (4, [some (.ref 143), some (.int (zI se)), some (.int (zI ((2 + (4 * (b - 1))) + 2)))], [.ref 144], es)
            refine x0 (r := (6, [some (.ref 143), some (.int (zI se)), some (.int (zI ((2 + (4 * (b - 1))) + 2)))], [.int (zI 119), .ref 144], es)) i_206_4 (by rfl) ?_
            refine x0 (r := (8, [some (.ref 143), some (.int (zI se)), some (.int (zI ((2 + (4 * (b - 1))) + 2)))], [.int (zI 98), .int (zI 119), .ref 144], es)) i_206_6 (by rfl) ?_
            refine x0 (r := (9, [some (.ref 143), some (.int (zI se)), some (.int (zI ((2 + (4 * (b - 1))) + 2)))], [.int (zI se), .int (zI 98), .int (zI 119), .ref 144], es)) i_206_8 rfl ?_
            refine x_imul i_206_9 ?_
            refine x_iadd i_206_10 ?_
            refine x0 (r := (12, [some (.ref 143), some (.int (zI se)), some (.int (zI ((2 + (4 * (b - 1))) + 2)))], [.int (zI ((2 + (4 * (b - 1))) + 2)), .int (zI (119 + (98 * se))), .ref 144], es)) i_206_11 rfl ?_
            refine x_iadd i_206_12 ?_
            refine x_iald (p := 80) i_206_13 hs_es rfl (by unfold i32 iLO iHI; omega) (by omega) (by omega) ?_
            obtain ⟨v22, e_v22⟩ : ∃ z : Int, z = (gA es 80 ((119 + (98 * se)) + ((2 + (4 * (b - 1))) + 2)).toNat).toInt := ⟨_, rfl⟩
            rw [← e_v22]
            have r_v22 : iLO ≤ v22 ∧ v22 ≤ iHI := by rw [e_v22]; exact i32_rng _
            unfold iLO iHI at r_v22
            refine x_ret (v := some (.int (zI v22))) i_206_14 rfl (fun _ => rfl) rfl rfl rfl ?_
            show aW _ _ _ _ _ _ (12, [some (.ref 143), some (.int (zI se)), some (.int (zI (b - 1))), some (.int (zI 2))], [.int (zI v22)], es)
            refine x_ret (v := some (.int (zI v22))) i_211_12 rfl (fun _ => rfl) rfl rfl rfl ?_
            show aW _ _ _ _ _ _ (117, [some (.ref 143), some (.int (zI fi)), some (.int (zI se)), some (.int (zI 25)), some (.int (zI a)), some (.int (zI b)), some (.int (zI 0)), some (.int (zI 1)), some (.int (zI 2))], [.int (zI v22), .int (zI v21)], es)
            by_cases c23 : v21 ≠ v22
            · refine x_cmpT i_271_117 (by unfold i32 iLO iHI; omega) (by unfold i32 iLO iHI; omega) rfl (by simp only [zC, cR]; omega) ?_
              refine x0 (r := (125, [some (.ref 143), some (.int (zI fi)), some (.int (zI se)), some (.int (zI 25)), some (.int (zI a)), some (.int (zI b)), some (.int (zI 0)), some (.int (zI 1)), some (.int (zI 2))], [.int (zI 0)], es)) i_271_124 (by rfl) ?_
              refine x0 (r := (127, [some (.ref 143), some (.int (zI fi)), some (.int (zI se)), some (.int (zI 25)), some (.int (zI a)), some (.int (zI b)), some (.int (zI 0)), some (.int (zI 0)), some (.int (zI 2))], [], es)) i_271_125 rfl ?_
              refine x_iinc (x := 2) i_271_127 rfl (by show 8 < 9; decide) ?_
              show aW _ _ _ _ _ _ (130, [some (.ref 143), some (.int (zI fi)), some (.int (zI se)), some (.int (zI 25)), some (.int (zI a)), some (.int (zI b)), some (.int (zI 0)), some (.int (zI 0)), some (.int (zI 3))], [], es)
              refine x0 (r := (84, [some (.ref 143), some (.int (zI fi)), some (.int (zI se)), some (.int (zI 25)), some (.int (zI a)), some (.int (zI b)), some (.int (zI 0)), some (.int (zI 0)), some (.int (zI 3))], [], es)) i_271_130 rfl ?_
              refine x0 (r := (86, [some (.ref 143), some (.int (zI fi)), some (.int (zI se)), some (.int (zI 25)), some (.int (zI a)), some (.int (zI b)), some (.int (zI 0)), some (.int (zI 0)), some (.int (zI 3))], [.int (zI 3)], es)) i_271_84 rfl ?_
              refine x0 (r := (87, [some (.ref 143), some (.int (zI fi)), some (.int (zI se)), some (.int (zI 25)), some (.int (zI a)), some (.int (zI b)), some (.int (zI 0)), some (.int (zI 0)), some (.int (zI 3))], [.int (zI 4), .int (zI 3)], es)) i_271_86 (by rfl) ?_
              refine x_cmpF i_271_87 (by unfold i32 iLO iHI; omega) (by unfold i32 iLO iHI; omega) rfl (by simp only [zC, cR]; omega) ?_
              refine x0 (r := (92, [some (.ref 143), some (.int (zI fi)), some (.int (zI se)), some (.int (zI 25)), some (.int (zI a)), some (.int (zI b)), some (.int (zI 0)), some (.int (zI 0)), some (.int (zI 3))], [.int (zI 0)], es)) i_271_90 rfl ?_
              refine x_ifT i_271_92 (by unfold i32 iLO iHI; omega) rfl (by simp only [zC, cR]; omega) ?_
              refine x0 (r := (125, [some (.ref 143), some (.int (zI fi)), some (.int (zI se)), some (.int (zI 25)), some (.int (zI a)), some (.int (zI b)), some (.int (zI 0)), some (.int (zI 0)), some (.int (zI 3))], [.int (zI 0)], es)) i_271_124 (by rfl) ?_
              refine x0 (r := (127, [some (.ref 143), some (.int (zI fi)), some (.int (zI se)), some (.int (zI 25)), some (.int (zI a)), some (.int (zI b)), some (.int (zI 0)), some (.int (zI 0)), some (.int (zI 3))], [], es)) i_271_125 rfl ?_
              refine x_iinc (x := 3) i_271_127 rfl (by show 8 < 9; decide) ?_
              show aW _ _ _ _ _ _ (130, [some (.ref 143), some (.int (zI fi)), some (.int (zI se)), some (.int (zI 25)), some (.int (zI a)), some (.int (zI b)), some (.int (zI 0)), some (.int (zI 0)), some (.int (zI 4))], [], es)
              refine x0 (r := (84, [some (.ref 143), some (.int (zI fi)), some (.int (zI se)), some (.int (zI 25)), some (.int (zI a)), some (.int (zI b)), some (.int (zI 0)), some (.int (zI 0)), some (.int (zI 4))], [], es)) i_271_130 rfl ?_
              refine x0 (r := (86, [some (.ref 143), some (.int (zI fi)), some (.int (zI se)), some (.int (zI 25)), some (.int (zI a)), some (.int (zI b)), some (.int (zI 0)), some (.int (zI 0)), some (.int (zI 4))], [.int (zI 4)], es)) i_271_84 rfl ?_
              refine x0 (r := (87, [some (.ref 143), some (.int (zI fi)), some (.int (zI se)), some (.int (zI 25)), some (.int (zI a)), some (.int (zI b)), some (.int (zI 0)), some (.int (zI 0)), some (.int (zI 4))], [.int (zI 4), .int (zI 4)], es)) i_271_86 (by rfl) ?_
              refine x_cmpT i_271_87 (by unfold i32 iLO iHI; omega) (by unfold i32 iLO iHI; omega) rfl (by simp only [zC, cR]; omega) ?_
              refine x0 (r := (135, [some (.ref 143), some (.int (zI fi)), some (.int (zI se)), some (.int (zI 25)), some (.int (zI a)), some (.int (zI b)), some (.int (zI 0)), some (.int (zI 0)), some (.int (zI 4))], [.int (zI 0)], es)) i_271_133 rfl ?_
              refine x_ifT i_271_135 (by unfold i32 iLO iHI; omega) rfl (by simp only [zC, cR]; omega) ?_
              refine x0 (r := (160, [some (.ref 143), some (.int (zI fi)), some (.int (zI se)), some (.int (zI 25)), some (.int (zI a)), some (.int (zI b)), some (.int (zI 0)), some (.int (zI 0)), some (.int (zI 4))], [.ref 143], es)) i_271_159 rfl ?_
              refine x_getr (p := 79) (k := 170) i_271_160 hs_es rfl rfl ?_
              show aW _ _ _ _ _ _ (163, [some (.ref 143), some (.int (zI fi)), some (.int (zI se)), some (.int (zI 25)), some (.int (zI a)), some (.int (zI b)), some (.int (zI 0)), some (.int (zI 0)), some (.int (zI 4))], [.ref 170], es)
              refine x0 (r := (164, [some (.ref 143), some (.int (zI fi)), some (.int (zI se)), some (.int (zI 25)), some (.int (zI a)), some (.int (zI b)), some (.int (zI 0)), some (.int (zI 0)), some (.int (zI 4))], [.int (zI 25), .ref 170], es)) i_271_163 rfl ?_
              refine x0 (r := (166, [some (.ref 143), some (.int (zI fi)), some (.int (zI se)), some (.int (zI 25)), some (.int (zI a)), some (.int (zI b)), some (.int (zI 0)), some (.int (zI 0)), some (.int (zI 4))], [.int (zI a), .int (zI 25), .ref 170], es)) i_271_164 rfl ?_
              refine x0 (r := (167, [some (.ref 143), some (.int (zI fi)), some (.int (zI se)), some (.int (zI 25)), some (.int (zI a)), some (.int (zI b)), some (.int (zI 0)), some (.int (zI 0)), some (.int (zI 4))], [.int (zI 1), .int (zI a), .int (zI 25), .ref 170], es)) i_271_166 (by rfl) ?_
              refine x_isub i_271_167 ?_
              refine x_imul i_271_168 ?_
              refine x0 (r := (171, [some (.ref 143), some (.int (zI fi)), some (.int (zI se)), some (.int (zI 25)), some (.int (zI a)), some (.int (zI b)), some (.int (zI 0)), some (.int (zI 0)), some (.int (zI 4))], [.int (zI b), .int (zI (25 * (a - 1))), .ref 170], es)) i_271_169 rfl ?_
              refine x_iadd i_271_171 ?_
              refine x_iald (p := 106) i_271_172 hs_es rfl (by unfold i32 iLO iHI; omega) (by omega) (by omega) ?_
              obtain ⟨v24, e_v24⟩ : ∃ z : Int, z = (gA es 106 ((25 * (a - 1)) + b).toNat).toInt := ⟨_, rfl⟩
              rw [← e_v24]
              have r_v24 : iLO ≤ v24 ∧ v24 ≤ iHI := by rw [e_v24]; exact i32_rng _
              unfold iLO iHI at r_v24
              refine x0 (r := (174, [some (.ref 143), some (.int (zI fi)), some (.int (zI se)), some (.int (zI 25)), some (.int (zI a)), some (.int (zI b)), some (.int (zI 0)), some (.int (zI 0)), some (.int (zI 4))], [.ref 143, .int (zI v24)], es)) i_271_173 rfl ?_
              refine x_getr (p := 79) (k := 170) i_271_174 hs_es rfl rfl ?_
              show aW _ _ _ _ _ _ (177, [some (.ref 143), some (.int (zI fi)), some (.int (zI se)), some (.int (zI 25)), some (.int (zI a)), some (.int (zI b)), some (.int (zI 0)), some (.int (zI 0)), some (.int (zI 4))], [.ref 170, .int (zI v24)], es)
              refine x0 (r := (178, [some (.ref 143), some (.int (zI fi)), some (.int (zI se)), some (.int (zI 25)), some (.int (zI a)), some (.int (zI b)), some (.int (zI 0)), some (.int (zI 0)), some (.int (zI 4))], [.int (zI 25), .ref 170, .int (zI v24)], es)) i_271_177 rfl ?_
              refine x0 (r := (180, [some (.ref 143), some (.int (zI fi)), some (.int (zI se)), some (.int (zI 25)), some (.int (zI a)), some (.int (zI b)), some (.int (zI 0)), some (.int (zI 0)), some (.int (zI 4))], [.int (zI a), .int (zI 25), .ref 170, .int (zI v24)], es)) i_271_178 rfl ?_
              refine x_imul i_271_180 ?_
              refine x0 (r := (183, [some (.ref 143), some (.int (zI fi)), some (.int (zI se)), some (.int (zI 25)), some (.int (zI a)), some (.int (zI b)), some (.int (zI 0)), some (.int (zI 0)), some (.int (zI 4))], [.int (zI b), .int (zI (25 * a)), .ref 170, .int (zI v24)], es)) i_271_181 rfl ?_
              refine x_iadd i_271_183 ?_
              refine x0 (r := (185, [some (.ref 143), some (.int (zI fi)), some (.int (zI se)), some (.int (zI 25)), some (.int (zI a)), some (.int (zI b)), some (.int (zI 0)), some (.int (zI 0)), some (.int (zI 4))], [.int (zI 1), .int (zI ((25 * a) + b)), .ref 170, .int (zI v24)], es)) i_271_184 (by rfl) ?_
              refine x_isub i_271_185 ?_
              refine x_iald (p := 106) i_271_186 hs_es rfl (by unfold i32 iLO iHI; omega) (by omega) (by omega) ?_
              obtain ⟨v25, e_v25⟩ : ∃ z : Int, z = (gA es 106 (((25 * a) + b) - 1).toNat).toInt := ⟨_, rfl⟩
              rw [← e_v25]
              have r_v25 : iLO ≤ v25 ∧ v25 ≤ iHI := by rw [e_v25]; exact i32_rng _
              unfold iLO iHI at r_v25
              refine x_max i_271_187 (by unfold i32 iLO iHI; omega) (by unfold i32 iLO iHI; omega) (Nat.le_of_ble_eq_true rfl) ?_
              obtain ⟨v26, e_v26⟩ : ∃ z : Int, z = max v24 v25 := ⟨_, rfl⟩
              rw [← e_v26]
              refine x0 (r := (192, [some (.ref 143), some (.int (zI fi)), some (.int (zI se)), some (.int (zI 25)), some (.int (zI a)), some (.int (zI b)), some (.int (zI v26)), some (.int (zI 0)), some (.int (zI 4))], [], es)) i_271_190 rfl ?_
              refine x0 (r := (193, [some (.ref 143), some (.int (zI fi)), some (.int (zI se)), some (.int (zI 25)), some (.int (zI a)), some (.int (zI b)), some (.int (zI v26)), some (.int (zI 0)), some (.int (zI 4))], [.ref 143], es)) i_271_192 rfl ?_
              refine x_getr (p := 79) (k := 170) i_271_193 hs_es rfl rfl ?_
              show aW _ _ _ _ _ _ (196, [some (.ref 143), some (.int (zI fi)), some (.int (zI se)), some (.int (zI 25)), some (.int (zI a)), some (.int (zI b)), some (.int (zI v26)), some (.int (zI 0)), some (.int (zI 4))], [.ref 170], es)
              refine x0 (r := (197, [some (.ref 143), some (.int (zI fi)), some (.int (zI se)), some (.int (zI 25)), some (.int (zI a)), some (.int (zI b)), some (.int (zI v26)), some (.int (zI 0)), some (.int (zI 4))], [.int (zI 25), .ref 170], es)) i_271_196 rfl ?_
              refine x0 (r := (199, [some (.ref 143), some (.int (zI fi)), some (.int (zI se)), some (.int (zI 25)), some (.int (zI a)), some (.int (zI b)), some (.int (zI v26)), some (.int (zI 0)), some (.int (zI 4))], [.int (zI a), .int (zI 25), .ref 170], es)) i_271_197 rfl ?_
              refine x_imul i_271_199 ?_
              refine x0 (r := (202, [some (.ref 143), some (.int (zI fi)), some (.int (zI se)), some (.int (zI 25)), some (.int (zI a)), some (.int (zI b)), some (.int (zI v26)), some (.int (zI 0)), some (.int (zI 4))], [.int (zI b), .int (zI (25 * a)), .ref 170], es)) i_271_200 rfl ?_
              refine x_iadd i_271_202 ?_
              refine x0 (r := (205, [some (.ref 143), some (.int (zI fi)), some (.int (zI se)), some (.int (zI 25)), some (.int (zI a)), some (.int (zI b)), some (.int (zI v26)), some (.int (zI 0)), some (.int (zI 4))], [.int (zI v26), .int (zI ((25 * a) + b)), .ref 170], es)) i_271_203 rfl ?_
              refine x_iast (p := 106) i_271_205 hs_es rfl (by unfold i32 iLO iHI; omega) (by omega) (by omega) ?_
              obtain ⟨es27, e_es27⟩ : ∃ z : PH, z = sA es 106 ((25 * a) + b).toNat (zI v26) := ⟨_, rfl⟩
              have hs_es27 : sh es27 := by rw [e_es27]; exact sh_sA hs_es
              have hT_es27 : hOK tT es27 := by rw [e_es27]; exact hOK_sA hT_es (p := 106) (n := 625) rfl (fun _ => i32_rng _)
              rw [← e_es27]
              refine x_iinc (x := b) i_271_206 rfl (by show 5 < 9; decide) ?_
              show aW _ _ _ _ _ _ (209, [some (.ref 143), some (.int (zI fi)), some (.int (zI se)), some (.int (zI 25)), some (.int (zI a)), some (.int (zI (b + 1))), some (.int (zI v26)), some (.int (zI 0)), some (.int (zI 4))], [], es27)
              refine x0 (r := (55, [some (.ref 143), some (.int (zI fi)), some (.int (zI se)), some (.int (zI 25)), some (.int (zI a)), some (.int (zI (b + 1))), some (.int (zI v26)), some (.int (zI 0)), some (.int (zI 4))], [], es27)) i_271_209 rfl ?_
              exact K6 v1 e_v1 c2 c3 c5 v7 e_v7 v8 e_v8 c9 v14 e_v14 v15 e_v15 c16 v21 e_v21 v22 e_v22 c23 v24 e_v24 v25 e_v25 v26 e_v26 es27 e_es27
            · refine x_cmpF i_271_117 (by unfold i32 iLO iHI; omega) (by unfold i32 iLO iHI; omega) rfl (by simp only [zC, cR]; omega) ?_
              refine x0 (r := (121, [some (.ref 143), some (.int (zI fi)), some (.int (zI se)), some (.int (zI 25)), some (.int (zI a)), some (.int (zI b)), some (.int (zI 0)), some (.int (zI 1)), some (.int (zI 2))], [.int (zI 1)], es)) i_271_120 (by rfl) ?_
              refine x0 (r := (125, [some (.ref 143), some (.int (zI fi)), some (.int (zI se)), some (.int (zI 25)), some (.int (zI a)), some (.int (zI b)), some (.int (zI 0)), some (.int (zI 1)), some (.int (zI 2))], [.int (zI 1)], es)) i_271_121 rfl ?_
              refine x0 (r := (127, [some (.ref 143), some (.int (zI fi)), some (.int (zI se)), some (.int (zI 25)), some (.int (zI a)), some (.int (zI b)), some (.int (zI 0)), some (.int (zI 1)), some (.int (zI 2))], [], es)) i_271_125 rfl ?_
              refine x_iinc (x := 2) i_271_127 rfl (by show 8 < 9; decide) ?_
              show aW _ _ _ _ _ _ (130, [some (.ref 143), some (.int (zI fi)), some (.int (zI se)), some (.int (zI 25)), some (.int (zI a)), some (.int (zI b)), some (.int (zI 0)), some (.int (zI 1)), some (.int (zI 3))], [], es)
              refine x0 (r := (84, [some (.ref 143), some (.int (zI fi)), some (.int (zI se)), some (.int (zI 25)), some (.int (zI a)), some (.int (zI b)), some (.int (zI 0)), some (.int (zI 1)), some (.int (zI 3))], [], es)) i_271_130 rfl ?_
              refine x0 (r := (86, [some (.ref 143), some (.int (zI fi)), some (.int (zI se)), some (.int (zI 25)), some (.int (zI a)), some (.int (zI b)), some (.int (zI 0)), some (.int (zI 1)), some (.int (zI 3))], [.int (zI 3)], es)) i_271_84 rfl ?_
              refine x0 (r := (87, [some (.ref 143), some (.int (zI fi)), some (.int (zI se)), some (.int (zI 25)), some (.int (zI a)), some (.int (zI b)), some (.int (zI 0)), some (.int (zI 1)), some (.int (zI 3))], [.int (zI 4), .int (zI 3)], es)) i_271_86 (by rfl) ?_
              refine x_cmpF i_271_87 (by unfold i32 iLO iHI; omega) (by unfold i32 iLO iHI; omega) rfl (by simp only [zC, cR]; omega) ?_
              refine x0 (r := (92, [some (.ref 143), some (.int (zI fi)), some (.int (zI se)), some (.int (zI 25)), some (.int (zI a)), some (.int (zI b)), some (.int (zI 0)), some (.int (zI 1)), some (.int (zI 3))], [.int (zI 1)], es)) i_271_90 rfl ?_
              refine x_ifF i_271_92 (by unfold i32 iLO iHI; omega) rfl (by simp only [zC, cR]; omega) ?_
              refine x0 (r := (96, [some (.ref 143), some (.int (zI fi)), some (.int (zI se)), some (.int (zI 25)), some (.int (zI a)), some (.int (zI b)), some (.int (zI 0)), some (.int (zI 1)), some (.int (zI 3))], [.ref 143], es)) i_271_95 rfl ?_
              refine x0 (r := (97, [some (.ref 143), some (.int (zI fi)), some (.int (zI se)), some (.int (zI 25)), some (.int (zI a)), some (.int (zI b)), some (.int (zI 0)), some (.int (zI 1)), some (.int (zI 3))], [.int (zI fi), .ref 143], es)) i_271_96 rfl ?_
              refine x0 (r := (99, [some (.ref 143), some (.int (zI fi)), some (.int (zI se)), some (.int (zI 25)), some (.int (zI a)), some (.int (zI b)), some (.int (zI 0)), some (.int (zI 1)), some (.int (zI 3))], [.int (zI a), .int (zI fi), .ref 143], es)) i_271_97 rfl ?_
              refine x0 (r := (100, [some (.ref 143), some (.int (zI fi)), some (.int (zI se)), some (.int (zI 25)), some (.int (zI a)), some (.int (zI b)), some (.int (zI 0)), some (.int (zI 1)), some (.int (zI 3))], [.int (zI 1), .int (zI a), .int (zI fi), .ref 143], es)) i_271_99 (by rfl) ?_
              refine x_isub i_271_100 ?_
              refine x0 (r := (103, [some (.ref 143), some (.int (zI fi)), some (.int (zI se)), some (.int (zI 25)), some (.int (zI a)), some (.int (zI b)), some (.int (zI 0)), some (.int (zI 1)), some (.int (zI 3))], [.int (zI 3), .int (zI (a - 1)), .int (zI fi), .ref 143], es)) i_271_101 rfl ?_
              refine x_call (vs := [.ref 143, .int (zI fi), .int (zI (a - 1)), .int (zI 3)]) (rs := []) i_271_103 rfl (fun _ => rfl) rfl rfl rfl rfl rfl (pCall_v (p := 79) hs_es rfl rfl rfl rfl rfl (by decide) rfl rfl rfl rfl rfl) ?_
              show aW _ _ _ _ _ _ (0, [some (.ref 143), some (.int (zI fi)), some (.int (zI (a - 1))), some (.int (zI 3))], [], es)
              refine x0 (r := (1, [some (.ref 143), some (.int (zI fi)), some (.int (zI (a - 1))), some (.int (zI 3))], [.ref 143], es)) i_211_0 rfl ?_
              refine x0 (r := (2, [some (.ref 143), some (.int (zI fi)), some (.int (zI (a - 1))), some (.int (zI 3))], [.int (zI fi), .ref 143], es)) i_211_1 rfl ?_
              refine x0 (r := (3, [some (.ref 143), some (.int (zI fi)), some (.int (zI (a - 1))), some (.int (zI 3))], [.int (zI 2), .int (zI fi), .ref 143], es)) i_211_2 (by rfl) ?_
              refine x0 (r := (4, [some (.ref 143), some (.int (zI fi)), some (.int (zI (a - 1))), some (.int (zI 3))], [.int (zI 4), .int (zI 2), .int (zI fi), .ref 143], es)) i_211_3 (by rfl) ?_
              refine x0 (r := (5, [some (.ref 143), some (.int (zI fi)), some (.int (zI (a - 1))), some (.int (zI 3))], [.int (zI (a - 1)), .int (zI 4), .int (zI 2), .int (zI fi), .ref 143], es)) i_211_4 rfl ?_
              refine x_imul i_211_5 ?_
              refine x_iadd i_211_6 ?_
              refine x0 (r := (8, [some (.ref 143), some (.int (zI fi)), some (.int (zI (a - 1))), some (.int (zI 3))], [.int (zI 3), .int (zI (2 + (4 * (a - 1)))), .int (zI fi), .ref 143], es)) i_211_7 rfl ?_
              refine x_iadd i_211_8 ?_
              refine x_call (vs := [.ref 143, .int (zI fi), .int (zI ((2 + (4 * (a - 1))) + 3))]) (rs := []) i_211_9 rfl (fun _ => rfl) rfl rfl rfl rfl rfl (pCall_v (p := 79) hs_es rfl rfl rfl rfl rfl (by decide) rfl rfl rfl rfl rfl) ?_
              show aW _ _ _ _ _ _ (0, [some (.ref 143), some (.int (zI fi)), some (.int (zI ((2 + (4 * (a - 1))) + 3)))], [], es)
              refine x0 (r := (1, [some (.ref 143), some (.int (zI fi)), some (.int (zI ((2 + (4 * (a - 1))) + 3)))], [.ref 143], es)) i_206_0 rfl ?_
              refine x_getr (p := 79) (k := 144) i_206_1 hs_es rfl rfl ?_
              show aW _ _ _ _ _ _ (4, [some (.ref 143), some (.int (zI fi)), some (.int (zI ((2 + (4 * (a - 1))) + 3)))], [.ref 144], es)
              refine x0 (r := (6, [some (.ref 143), some (.int (zI fi)), some (.int (zI ((2 + (4 * (a - 1))) + 3)))], [.int (zI 119), .ref 144], es)) i_206_4 (by rfl) ?_
              refine x0 (r := (8, [some (.ref 143), some (.int (zI fi)), some (.int (zI ((2 + (4 * (a - 1))) + 3)))], [.int (zI 98), .int (zI 119), .ref 144], es)) i_206_6 (by rfl) ?_
              refine x0 (r := (9, [some (.ref 143), some (.int (zI fi)), some (.int (zI ((2 + (4 * (a - 1))) + 3)))], [.int (zI fi), .int (zI 98), .int (zI 119), .ref 144], es)) i_206_8 rfl ?_
              refine x_imul i_206_9 ?_
              refine x_iadd i_206_10 ?_
              refine x0 (r := (12, [some (.ref 143), some (.int (zI fi)), some (.int (zI ((2 + (4 * (a - 1))) + 3)))], [.int (zI ((2 + (4 * (a - 1))) + 3)), .int (zI (119 + (98 * fi))), .ref 144], es)) i_206_11 rfl ?_
              refine x_iadd i_206_12 ?_
              refine x_iald (p := 80) i_206_13 hs_es rfl (by unfold i32 iLO iHI; omega) (by omega) (by omega) ?_
              obtain ⟨v28, e_v28⟩ : ∃ z : Int, z = (gA es 80 ((119 + (98 * fi)) + ((2 + (4 * (a - 1))) + 3)).toNat).toInt := ⟨_, rfl⟩
              rw [← e_v28]
              have r_v28 : iLO ≤ v28 ∧ v28 ≤ iHI := by rw [e_v28]; exact i32_rng _
              unfold iLO iHI at r_v28
              refine x_ret (v := some (.int (zI v28))) i_206_14 rfl (fun _ => rfl) rfl rfl rfl ?_
              show aW _ _ _ _ _ _ (12, [some (.ref 143), some (.int (zI fi)), some (.int (zI (a - 1))), some (.int (zI 3))], [.int (zI v28)], es)
              refine x_ret (v := some (.int (zI v28))) i_211_12 rfl (fun _ => rfl) rfl rfl rfl ?_
              show aW _ _ _ _ _ _ (106, [some (.ref 143), some (.int (zI fi)), some (.int (zI se)), some (.int (zI 25)), some (.int (zI a)), some (.int (zI b)), some (.int (zI 0)), some (.int (zI 1)), some (.int (zI 3))], [.int (zI v28)], es)
              refine x0 (r := (107, [some (.ref 143), some (.int (zI fi)), some (.int (zI se)), some (.int (zI 25)), some (.int (zI a)), some (.int (zI b)), some (.int (zI 0)), some (.int (zI 1)), some (.int (zI 3))], [.ref 143, .int (zI v28)], es)) i_271_106 rfl ?_
              refine x0 (r := (108, [some (.ref 143), some (.int (zI fi)), some (.int (zI se)), some (.int (zI 25)), some (.int (zI a)), some (.int (zI b)), some (.int (zI 0)), some (.int (zI 1)), some (.int (zI 3))], [.int (zI se), .ref 143, .int (zI v28)], es)) i_271_107 rfl ?_
              refine x0 (r := (110, [some (.ref 143), some (.int (zI fi)), some (.int (zI se)), some (.int (zI 25)), some (.int (zI a)), some (.int (zI b)), some (.int (zI 0)), some (.int (zI 1)), some (.int (zI 3))], [.int (zI b), .int (zI se), .ref 143, .int (zI v28)], es)) i_271_108 rfl ?_
              refine x0 (r := (111, [some (.ref 143), some (.int (zI fi)), some (.int (zI se)), some (.int (zI 25)), some (.int (zI a)), some (.int (zI b)), some (.int (zI 0)), some (.int (zI 1)), some (.int (zI 3))], [.int (zI 1), .int (zI b), .int (zI se), .ref 143, .int (zI v28)], es)) i_271_110 (by rfl) ?_
              refine x_isub i_271_111 ?_
              refine x0 (r := (114, [some (.ref 143), some (.int (zI fi)), some (.int (zI se)), some (.int (zI 25)), some (.int (zI a)), some (.int (zI b)), some (.int (zI 0)), some (.int (zI 1)), some (.int (zI 3))], [.int (zI 3), .int (zI (b - 1)), .int (zI se), .ref 143, .int (zI v28)], es)) i_271_112 rfl ?_
              refine x_call (vs := [.ref 143, .int (zI se), .int (zI (b - 1)), .int (zI 3)]) (rs := [.int (zI v28)]) i_271_114 rfl (fun _ => rfl) rfl rfl rfl rfl rfl (pCall_v (p := 79) hs_es rfl rfl rfl rfl rfl (by decide) rfl rfl rfl rfl rfl) ?_
              show aW _ _ _ _ _ _ (0, [some (.ref 143), some (.int (zI se)), some (.int (zI (b - 1))), some (.int (zI 3))], [], es)
              refine x0 (r := (1, [some (.ref 143), some (.int (zI se)), some (.int (zI (b - 1))), some (.int (zI 3))], [.ref 143], es)) i_211_0 rfl ?_
              refine x0 (r := (2, [some (.ref 143), some (.int (zI se)), some (.int (zI (b - 1))), some (.int (zI 3))], [.int (zI se), .ref 143], es)) i_211_1 rfl ?_
              refine x0 (r := (3, [some (.ref 143), some (.int (zI se)), some (.int (zI (b - 1))), some (.int (zI 3))], [.int (zI 2), .int (zI se), .ref 143], es)) i_211_2 (by rfl) ?_
              refine x0 (r := (4, [some (.ref 143), some (.int (zI se)), some (.int (zI (b - 1))), some (.int (zI 3))], [.int (zI 4), .int (zI 2), .int (zI se), .ref 143], es)) i_211_3 (by rfl) ?_
              refine x0 (r := (5, [some (.ref 143), some (.int (zI se)), some (.int (zI (b - 1))), some (.int (zI 3))], [.int (zI (b - 1)), .int (zI 4), .int (zI 2), .int (zI se), .ref 143], es)) i_211_4 rfl ?_
              refine x_imul i_211_5 ?_
              refine x_iadd i_211_6 ?_
              refine x0 (r := (8, [some (.ref 143), some (.int (zI se)), some (.int (zI (b - 1))), some (.int (zI 3))], [.int (zI 3), .int (zI (2 + (4 * (b - 1)))), .int (zI se), .ref 143], es)) i_211_7 rfl ?_
              refine x_iadd i_211_8 ?_
              refine x_call (vs := [.ref 143, .int (zI se), .int (zI ((2 + (4 * (b - 1))) + 3))]) (rs := []) i_211_9 rfl (fun _ => rfl) rfl rfl rfl rfl rfl (pCall_v (p := 79) hs_es rfl rfl rfl rfl rfl (by decide) rfl rfl rfl rfl rfl) ?_
              show aW _ _ _ _ _ _ (0, [some (.ref 143), some (.int (zI se)), some (.int (zI ((2 + (4 * (b - 1))) + 3)))], [], es)
              refine x0 (r := (1, [some (.ref 143), some (.int (zI se)), some (.int (zI ((2 + (4 * (b - 1))) + 3)))], [.ref 143], es)) i_206_0 rfl ?_
              refine x_getr (p := 79) (k := 144) i_206_1 hs_es rfl rfl ?_
              show aW _ _ _ _ _ _ (4, [some (.ref 143), some (.int (zI se)), some (.int (zI ((2 + (4 * (b - 1))) + 3)))], [.ref 144], es)
              refine x0 (r := (6, [some (.ref 143), some (.int (zI se)), some (.int (zI ((2 + (4 * (b - 1))) + 3)))], [.int (zI 119), .ref 144], es)) i_206_4 (by rfl) ?_
              refine x0 (r := (8, [some (.ref 143), some (.int (zI se)), some (.int (zI ((2 + (4 * (b - 1))) + 3)))], [.int (zI 98), .int (zI 119), .ref 144], es)) i_206_6 (by rfl) ?_
              refine x0 (r := (9, [some (.ref 143), some (.int (zI se)), some (.int (zI ((2 + (4 * (b - 1))) + 3)))], [.int (zI se), .int (zI 98), .int (zI 119), .ref 144], es)) i_206_8 rfl ?_
              refine x_imul i_206_9 ?_
              refine x_iadd i_206_10 ?_
              refine x0 (r := (12, [some (.ref 143), some (.int (zI se)), some (.int (zI ((2 + (4 * (b - 1))) + 3)))], [.int (zI ((2 + (4 * (b - 1))) + 3)), .int (zI (119 + (98 * se))), .ref 144], es)) i_206_11 rfl ?_
              refine x_iadd i_206_12 ?_
              refine x_iald (p := 80) i_206_13 hs_es rfl (by unfold i32 iLO iHI; omega) (by omega) (by omega) ?_
              obtain ⟨v29, e_v29⟩ : ∃ z : Int, z = (gA es 80 ((119 + (98 * se)) + ((2 + (4 * (b - 1))) + 3)).toNat).toInt := ⟨_, rfl⟩
              rw [← e_v29]
              have r_v29 : iLO ≤ v29 ∧ v29 ≤ iHI := by rw [e_v29]; exact i32_rng _
              unfold iLO iHI at r_v29
              refine x_ret (v := some (.int (zI v29))) i_206_14 rfl (fun _ => rfl) rfl rfl rfl ?_
              show aW _ _ _ _ _ _ (12, [some (.ref 143), some (.int (zI se)), some (.int (zI (b - 1))), some (.int (zI 3))], [.int (zI v29)], es)
              refine x_ret (v := some (.int (zI v29))) i_211_12 rfl (fun _ => rfl) rfl rfl rfl ?_
              show aW _ _ _ _ _ _ (117, [some (.ref 143), some (.int (zI fi)), some (.int (zI se)), some (.int (zI 25)), some (.int (zI a)), some (.int (zI b)), some (.int (zI 0)), some (.int (zI 1)), some (.int (zI 3))], [.int (zI v29), .int (zI v28)], es)
              by_cases c30 : v28 ≠ v29
              · refine x_cmpT i_271_117 (by unfold i32 iLO iHI; omega) (by unfold i32 iLO iHI; omega) rfl (by simp only [zC, cR]; omega) ?_
                refine x0 (r := (125, [some (.ref 143), some (.int (zI fi)), some (.int (zI se)), some (.int (zI 25)), some (.int (zI a)), some (.int (zI b)), some (.int (zI 0)), some (.int (zI 1)), some (.int (zI 3))], [.int (zI 0)], es)) i_271_124 (by rfl) ?_
                refine x0 (r := (127, [some (.ref 143), some (.int (zI fi)), some (.int (zI se)), some (.int (zI 25)), some (.int (zI a)), some (.int (zI b)), some (.int (zI 0)), some (.int (zI 0)), some (.int (zI 3))], [], es)) i_271_125 rfl ?_
                refine x_iinc (x := 3) i_271_127 rfl (by show 8 < 9; decide) ?_
                show aW _ _ _ _ _ _ (130, [some (.ref 143), some (.int (zI fi)), some (.int (zI se)), some (.int (zI 25)), some (.int (zI a)), some (.int (zI b)), some (.int (zI 0)), some (.int (zI 0)), some (.int (zI 4))], [], es)
                refine x0 (r := (84, [some (.ref 143), some (.int (zI fi)), some (.int (zI se)), some (.int (zI 25)), some (.int (zI a)), some (.int (zI b)), some (.int (zI 0)), some (.int (zI 0)), some (.int (zI 4))], [], es)) i_271_130 rfl ?_
                refine x0 (r := (86, [some (.ref 143), some (.int (zI fi)), some (.int (zI se)), some (.int (zI 25)), some (.int (zI a)), some (.int (zI b)), some (.int (zI 0)), some (.int (zI 0)), some (.int (zI 4))], [.int (zI 4)], es)) i_271_84 rfl ?_
                refine x0 (r := (87, [some (.ref 143), some (.int (zI fi)), some (.int (zI se)), some (.int (zI 25)), some (.int (zI a)), some (.int (zI b)), some (.int (zI 0)), some (.int (zI 0)), some (.int (zI 4))], [.int (zI 4), .int (zI 4)], es)) i_271_86 (by rfl) ?_
                refine x_cmpT i_271_87 (by unfold i32 iLO iHI; omega) (by unfold i32 iLO iHI; omega) rfl (by simp only [zC, cR]; omega) ?_
                refine x0 (r := (135, [some (.ref 143), some (.int (zI fi)), some (.int (zI se)), some (.int (zI 25)), some (.int (zI a)), some (.int (zI b)), some (.int (zI 0)), some (.int (zI 0)), some (.int (zI 4))], [.int (zI 0)], es)) i_271_133 rfl ?_
                refine x_ifT i_271_135 (by unfold i32 iLO iHI; omega) rfl (by simp only [zC, cR]; omega) ?_
                refine x0 (r := (160, [some (.ref 143), some (.int (zI fi)), some (.int (zI se)), some (.int (zI 25)), some (.int (zI a)), some (.int (zI b)), some (.int (zI 0)), some (.int (zI 0)), some (.int (zI 4))], [.ref 143], es)) i_271_159 rfl ?_
                refine x_getr (p := 79) (k := 170) i_271_160 hs_es rfl rfl ?_
                show aW _ _ _ _ _ _ (163, [some (.ref 143), some (.int (zI fi)), some (.int (zI se)), some (.int (zI 25)), some (.int (zI a)), some (.int (zI b)), some (.int (zI 0)), some (.int (zI 0)), some (.int (zI 4))], [.ref 170], es)
                refine x0 (r := (164, [some (.ref 143), some (.int (zI fi)), some (.int (zI se)), some (.int (zI 25)), some (.int (zI a)), some (.int (zI b)), some (.int (zI 0)), some (.int (zI 0)), some (.int (zI 4))], [.int (zI 25), .ref 170], es)) i_271_163 rfl ?_
                refine x0 (r := (166, [some (.ref 143), some (.int (zI fi)), some (.int (zI se)), some (.int (zI 25)), some (.int (zI a)), some (.int (zI b)), some (.int (zI 0)), some (.int (zI 0)), some (.int (zI 4))], [.int (zI a), .int (zI 25), .ref 170], es)) i_271_164 rfl ?_
                refine x0 (r := (167, [some (.ref 143), some (.int (zI fi)), some (.int (zI se)), some (.int (zI 25)), some (.int (zI a)), some (.int (zI b)), some (.int (zI 0)), some (.int (zI 0)), some (.int (zI 4))], [.int (zI 1), .int (zI a), .int (zI 25), .ref 170], es)) i_271_166 (by rfl) ?_
                refine x_isub i_271_167 ?_
                refine x_imul i_271_168 ?_
                refine x0 (r := (171, [some (.ref 143), some (.int (zI fi)), some (.int (zI se)), some (.int (zI 25)), some (.int (zI a)), some (.int (zI b)), some (.int (zI 0)), some (.int (zI 0)), some (.int (zI 4))], [.int (zI b), .int (zI (25 * (a - 1))), .ref 170], es)) i_271_169 rfl ?_
                refine x_iadd i_271_171 ?_
                refine x_iald (p := 106) i_271_172 hs_es rfl (by unfold i32 iLO iHI; omega) (by omega) (by omega) ?_
                obtain ⟨v31, e_v31⟩ : ∃ z : Int, z = (gA es 106 ((25 * (a - 1)) + b).toNat).toInt := ⟨_, rfl⟩
                rw [← e_v31]
                have r_v31 : iLO ≤ v31 ∧ v31 ≤ iHI := by rw [e_v31]; exact i32_rng _
                unfold iLO iHI at r_v31
                refine x0 (r := (174, [some (.ref 143), some (.int (zI fi)), some (.int (zI se)), some (.int (zI 25)), some (.int (zI a)), some (.int (zI b)), some (.int (zI 0)), some (.int (zI 0)), some (.int (zI 4))], [.ref 143, .int (zI v31)], es)) i_271_173 rfl ?_
                refine x_getr (p := 79) (k := 170) i_271_174 hs_es rfl rfl ?_
                show aW _ _ _ _ _ _ (177, [some (.ref 143), some (.int (zI fi)), some (.int (zI se)), some (.int (zI 25)), some (.int (zI a)), some (.int (zI b)), some (.int (zI 0)), some (.int (zI 0)), some (.int (zI 4))], [.ref 170, .int (zI v31)], es)
                refine x0 (r := (178, [some (.ref 143), some (.int (zI fi)), some (.int (zI se)), some (.int (zI 25)), some (.int (zI a)), some (.int (zI b)), some (.int (zI 0)), some (.int (zI 0)), some (.int (zI 4))], [.int (zI 25), .ref 170, .int (zI v31)], es)) i_271_177 rfl ?_
                refine x0 (r := (180, [some (.ref 143), some (.int (zI fi)), some (.int (zI se)), some (.int (zI 25)), some (.int (zI a)), some (.int (zI b)), some (.int (zI 0)), some (.int (zI 0)), some (.int (zI 4))], [.int (zI a), .int (zI 25), .ref 170, .int (zI v31)], es)) i_271_178 rfl ?_
                refine x_imul i_271_180 ?_
                refine x0 (r := (183, [some (.ref 143), some (.int (zI fi)), some (.int (zI se)), some (.int (zI 25)), some (.int (zI a)), some (.int (zI b)), some (.int (zI 0)), some (.int (zI 0)), some (.int (zI 4))], [.int (zI b), .int (zI (25 * a)), .ref 170, .int (zI v31)], es)) i_271_181 rfl ?_
                refine x_iadd i_271_183 ?_
                refine x0 (r := (185, [some (.ref 143), some (.int (zI fi)), some (.int (zI se)), some (.int (zI 25)), some (.int (zI a)), some (.int (zI b)), some (.int (zI 0)), some (.int (zI 0)), some (.int (zI 4))], [.int (zI 1), .int (zI ((25 * a) + b)), .ref 170, .int (zI v31)], es)) i_271_184 (by rfl) ?_
                refine x_isub i_271_185 ?_
                refine x_iald (p := 106) i_271_186 hs_es rfl (by unfold i32 iLO iHI; omega) (by omega) (by omega) ?_
                obtain ⟨v32, e_v32⟩ : ∃ z : Int, z = (gA es 106 (((25 * a) + b) - 1).toNat).toInt := ⟨_, rfl⟩
                rw [← e_v32]
                have r_v32 : iLO ≤ v32 ∧ v32 ≤ iHI := by rw [e_v32]; exact i32_rng _
                unfold iLO iHI at r_v32
                refine x_max i_271_187 (by unfold i32 iLO iHI; omega) (by unfold i32 iLO iHI; omega) (Nat.le_of_ble_eq_true rfl) ?_
                obtain ⟨v33, e_v33⟩ : ∃ z : Int, z = max v31 v32 := ⟨_, rfl⟩
                rw [← e_v33]
                refine x0 (r := (192, [some (.ref 143), some (.int (zI fi)), some (.int (zI se)), some (.int (zI 25)), some (.int (zI a)), some (.int (zI b)), some (.int (zI v33)), some (.int (zI 0)), some (.int (zI 4))], [], es)) i_271_190 rfl ?_
                refine x0 (r := (193, [some (.ref 143), some (.int (zI fi)), some (.int (zI se)), some (.int (zI 25)), some (.int (zI a)), some (.int (zI b)), some (.int (zI v33)), some (.int (zI 0)), some (.int (zI 4))], [.ref 143], es)) i_271_192 rfl ?_
                refine x_getr (p := 79) (k := 170) i_271_193 hs_es rfl rfl ?_
                show aW _ _ _ _ _ _ (196, [some (.ref 143), some (.int (zI fi)), some (.int (zI se)), some (.int (zI 25)), some (.int (zI a)), some (.int (zI b)), some (.int (zI v33)), some (.int (zI 0)), some (.int (zI 4))], [.ref 170], es)
                refine x0 (r := (197, [some (.ref 143), some (.int (zI fi)), some (.int (zI se)), some (.int (zI 25)), some (.int (zI a)), some (.int (zI b)), some (.int (zI v33)), some (.int (zI 0)), some (.int (zI 4))], [.int (zI 25), .ref 170], es)) i_271_196 rfl ?_
                refine x0 (r := (199, [some (.ref 143), some (.int (zI fi)), some (.int (zI se)), some (.int (zI 25)), some (.int (zI a)), some (.int (zI b)), some (.int (zI v33)), some (.int (zI 0)), some (.int (zI 4))], [.int (zI a), .int (zI 25), .ref 170], es)) i_271_197 rfl ?_
                refine x_imul i_271_199 ?_
                refine x0 (r := (202, [some (.ref 143), some (.int (zI fi)), some (.int (zI se)), some (.int (zI 25)), some (.int (zI a)), some (.int (zI b)), some (.int (zI v33)), some (.int (zI 0)), some (.int (zI 4))], [.int (zI b), .int (zI (25 * a)), .ref 170], es)) i_271_200 rfl ?_
                refine x_iadd i_271_202 ?_
                refine x0 (r := (205, [some (.ref 143), some (.int (zI fi)), some (.int (zI se)), some (.int (zI 25)), some (.int (zI a)), some (.int (zI b)), some (.int (zI v33)), some (.int (zI 0)), some (.int (zI 4))], [.int (zI v33), .int (zI ((25 * a) + b)), .ref 170], es)) i_271_203 rfl ?_
                refine x_iast (p := 106) i_271_205 hs_es rfl (by unfold i32 iLO iHI; omega) (by omega) (by omega) ?_
                obtain ⟨es34, e_es34⟩ : ∃ z : PH, z = sA es 106 ((25 * a) + b).toNat (zI v33) := ⟨_, rfl⟩
                have hs_es34 : sh es34 := by rw [e_es34]; exact sh_sA hs_es
                have hT_es34 : hOK tT es34 := by rw [e_es34]; exact hOK_sA hT_es (p := 106) (n := 625) rfl (fun _ => i32_rng _)
                rw [← e_es34]
                refine x_iinc (x := b) i_271_206 rfl (by show 5 < 9; decide) ?_
                show aW _ _ _ _ _ _ (209, [some (.ref 143), some (.int (zI fi)), some (.int (zI se)), some (.int (zI 25)), some (.int (zI a)), some (.int (zI (b + 1))), some (.int (zI v33)), some (.int (zI 0)), some (.int (zI 4))], [], es34)
                refine x0 (r := (55, [some (.ref 143), some (.int (zI fi)), some (.int (zI se)), some (.int (zI 25)), some (.int (zI a)), some (.int (zI (b + 1))), some (.int (zI v33)), some (.int (zI 0)), some (.int (zI 4))], [], es34)) i_271_209 rfl ?_
                exact K7 v1 e_v1 c2 c3 c5 v7 e_v7 v8 e_v8 c9 v14 e_v14 v15 e_v15 c16 v21 e_v21 v22 e_v22 c23 v28 e_v28 v29 e_v29 c30 v31 e_v31 v32 e_v32 v33 e_v33 es34 e_es34
              · refine x_cmpF i_271_117 (by unfold i32 iLO iHI; omega) (by unfold i32 iLO iHI; omega) rfl (by simp only [zC, cR]; omega) ?_
                refine x0 (r := (121, [some (.ref 143), some (.int (zI fi)), some (.int (zI se)), some (.int (zI 25)), some (.int (zI a)), some (.int (zI b)), some (.int (zI 0)), some (.int (zI 1)), some (.int (zI 3))], [.int (zI 1)], es)) i_271_120 (by rfl) ?_
                refine x0 (r := (125, [some (.ref 143), some (.int (zI fi)), some (.int (zI se)), some (.int (zI 25)), some (.int (zI a)), some (.int (zI b)), some (.int (zI 0)), some (.int (zI 1)), some (.int (zI 3))], [.int (zI 1)], es)) i_271_121 rfl ?_
                refine x0 (r := (127, [some (.ref 143), some (.int (zI fi)), some (.int (zI se)), some (.int (zI 25)), some (.int (zI a)), some (.int (zI b)), some (.int (zI 0)), some (.int (zI 1)), some (.int (zI 3))], [], es)) i_271_125 rfl ?_
                refine x_iinc (x := 3) i_271_127 rfl (by show 8 < 9; decide) ?_
                show aW _ _ _ _ _ _ (130, [some (.ref 143), some (.int (zI fi)), some (.int (zI se)), some (.int (zI 25)), some (.int (zI a)), some (.int (zI b)), some (.int (zI 0)), some (.int (zI 1)), some (.int (zI 4))], [], es)
                refine x0 (r := (84, [some (.ref 143), some (.int (zI fi)), some (.int (zI se)), some (.int (zI 25)), some (.int (zI a)), some (.int (zI b)), some (.int (zI 0)), some (.int (zI 1)), some (.int (zI 4))], [], es)) i_271_130 rfl ?_
                refine x0 (r := (86, [some (.ref 143), some (.int (zI fi)), some (.int (zI se)), some (.int (zI 25)), some (.int (zI a)), some (.int (zI b)), some (.int (zI 0)), some (.int (zI 1)), some (.int (zI 4))], [.int (zI 4)], es)) i_271_84 rfl ?_
                refine x0 (r := (87, [some (.ref 143), some (.int (zI fi)), some (.int (zI se)), some (.int (zI 25)), some (.int (zI a)), some (.int (zI b)), some (.int (zI 0)), some (.int (zI 1)), some (.int (zI 4))], [.int (zI 4), .int (zI 4)], es)) i_271_86 (by rfl) ?_
                refine x_cmpT i_271_87 (by unfold i32 iLO iHI; omega) (by unfold i32 iLO iHI; omega) rfl (by simp only [zC, cR]; omega) ?_
                refine x0 (r := (135, [some (.ref 143), some (.int (zI fi)), some (.int (zI se)), some (.int (zI 25)), some (.int (zI a)), some (.int (zI b)), some (.int (zI 0)), some (.int (zI 1)), some (.int (zI 4))], [.int (zI 1)], es)) i_271_133 rfl ?_
                refine x_ifF i_271_135 (by unfold i32 iLO iHI; omega) rfl (by simp only [zC, cR]; omega) ?_
                refine x0 (r := (139, [some (.ref 143), some (.int (zI fi)), some (.int (zI se)), some (.int (zI 25)), some (.int (zI a)), some (.int (zI b)), some (.int (zI 0)), some (.int (zI 1)), some (.int (zI 4))], [.int (zI 1)], es)) i_271_138 (by rfl) ?_
                refine x0 (r := (140, [some (.ref 143), some (.int (zI fi)), some (.int (zI se)), some (.int (zI 25)), some (.int (zI a)), some (.int (zI b)), some (.int (zI 0)), some (.int (zI 1)), some (.int (zI 4))], [.ref 143, .int (zI 1)], es)) i_271_139 rfl ?_
                refine x_getr (p := 79) (k := 170) i_271_140 hs_es rfl rfl ?_
                show aW _ _ _ _ _ _ (143, [some (.ref 143), some (.int (zI fi)), some (.int (zI se)), some (.int (zI 25)), some (.int (zI a)), some (.int (zI b)), some (.int (zI 0)), some (.int (zI 1)), some (.int (zI 4))], [.ref 170, .int (zI 1)], es)
                refine x0 (r := (144, [some (.ref 143), some (.int (zI fi)), some (.int (zI se)), some (.int (zI 25)), some (.int (zI a)), some (.int (zI b)), some (.int (zI 0)), some (.int (zI 1)), some (.int (zI 4))], [.int (zI 25), .ref 170, .int (zI 1)], es)) i_271_143 rfl ?_
                refine x0 (r := (146, [some (.ref 143), some (.int (zI fi)), some (.int (zI se)), some (.int (zI 25)), some (.int (zI a)), some (.int (zI b)), some (.int (zI 0)), some (.int (zI 1)), some (.int (zI 4))], [.int (zI a), .int (zI 25), .ref 170, .int (zI 1)], es)) i_271_144 rfl ?_
                refine x0 (r := (147, [some (.ref 143), some (.int (zI fi)), some (.int (zI se)), some (.int (zI 25)), some (.int (zI a)), some (.int (zI b)), some (.int (zI 0)), some (.int (zI 1)), some (.int (zI 4))], [.int (zI 1), .int (zI a), .int (zI 25), .ref 170, .int (zI 1)], es)) i_271_146 (by rfl) ?_
                refine x_isub i_271_147 ?_
                refine x_imul i_271_148 ?_
                refine x0 (r := (151, [some (.ref 143), some (.int (zI fi)), some (.int (zI se)), some (.int (zI 25)), some (.int (zI a)), some (.int (zI b)), some (.int (zI 0)), some (.int (zI 1)), some (.int (zI 4))], [.int (zI b), .int (zI (25 * (a - 1))), .ref 170, .int (zI 1)], es)) i_271_149 rfl ?_
                refine x_iadd i_271_151 ?_
                refine x0 (r := (153, [some (.ref 143), some (.int (zI fi)), some (.int (zI se)), some (.int (zI 25)), some (.int (zI a)), some (.int (zI b)), some (.int (zI 0)), some (.int (zI 1)), some (.int (zI 4))], [.int (zI 1), .int (zI ((25 * (a - 1)) + b)), .ref 170, .int (zI 1)], es)) i_271_152 (by rfl) ?_
                refine x_isub i_271_153 ?_
                refine x_iald (p := 106) i_271_154 hs_es rfl (by unfold i32 iLO iHI; omega) (by omega) (by omega) ?_
                obtain ⟨v35, e_v35⟩ : ∃ z : Int, z = (gA es 106 (((25 * (a - 1)) + b) - 1).toNat).toInt := ⟨_, rfl⟩
                rw [← e_v35]
                have r_v35 : iLO ≤ v35 ∧ v35 ≤ iHI := by rw [e_v35]; exact i32_rng _
                unfold iLO iHI at r_v35
                refine x_iadd i_271_155 ?_
                refine x0 (r := (190, [some (.ref 143), some (.int (zI fi)), some (.int (zI se)), some (.int (zI 25)), some (.int (zI a)), some (.int (zI b)), some (.int (zI 0)), some (.int (zI 1)), some (.int (zI 4))], [.int (zI (1 + v35))], es)) i_271_156 rfl ?_
                refine x0 (r := (192, [some (.ref 143), some (.int (zI fi)), some (.int (zI se)), some (.int (zI 25)), some (.int (zI a)), some (.int (zI b)), some (.int (zI (1 + v35))), some (.int (zI 1)), some (.int (zI 4))], [], es)) i_271_190 rfl ?_
                refine x0 (r := (193, [some (.ref 143), some (.int (zI fi)), some (.int (zI se)), some (.int (zI 25)), some (.int (zI a)), some (.int (zI b)), some (.int (zI (1 + v35))), some (.int (zI 1)), some (.int (zI 4))], [.ref 143], es)) i_271_192 rfl ?_
                refine x_getr (p := 79) (k := 170) i_271_193 hs_es rfl rfl ?_
                show aW _ _ _ _ _ _ (196, [some (.ref 143), some (.int (zI fi)), some (.int (zI se)), some (.int (zI 25)), some (.int (zI a)), some (.int (zI b)), some (.int (zI (1 + v35))), some (.int (zI 1)), some (.int (zI 4))], [.ref 170], es)
                refine x0 (r := (197, [some (.ref 143), some (.int (zI fi)), some (.int (zI se)), some (.int (zI 25)), some (.int (zI a)), some (.int (zI b)), some (.int (zI (1 + v35))), some (.int (zI 1)), some (.int (zI 4))], [.int (zI 25), .ref 170], es)) i_271_196 rfl ?_
                refine x0 (r := (199, [some (.ref 143), some (.int (zI fi)), some (.int (zI se)), some (.int (zI 25)), some (.int (zI a)), some (.int (zI b)), some (.int (zI (1 + v35))), some (.int (zI 1)), some (.int (zI 4))], [.int (zI a), .int (zI 25), .ref 170], es)) i_271_197 rfl ?_
                refine x_imul i_271_199 ?_
                refine x0 (r := (202, [some (.ref 143), some (.int (zI fi)), some (.int (zI se)), some (.int (zI 25)), some (.int (zI a)), some (.int (zI b)), some (.int (zI (1 + v35))), some (.int (zI 1)), some (.int (zI 4))], [.int (zI b), .int (zI (25 * a)), .ref 170], es)) i_271_200 rfl ?_
                refine x_iadd i_271_202 ?_
                refine x0 (r := (205, [some (.ref 143), some (.int (zI fi)), some (.int (zI se)), some (.int (zI 25)), some (.int (zI a)), some (.int (zI b)), some (.int (zI (1 + v35))), some (.int (zI 1)), some (.int (zI 4))], [.int (zI (1 + v35)), .int (zI ((25 * a) + b)), .ref 170], es)) i_271_203 rfl ?_
                refine x_iast (p := 106) i_271_205 hs_es rfl (by unfold i32 iLO iHI; omega) (by omega) (by omega) ?_
                obtain ⟨es36, e_es36⟩ : ∃ z : PH, z = sA es 106 ((25 * a) + b).toNat (zI (1 + v35)) := ⟨_, rfl⟩
                have hs_es36 : sh es36 := by rw [e_es36]; exact sh_sA hs_es
                have hT_es36 : hOK tT es36 := by rw [e_es36]; exact hOK_sA hT_es (p := 106) (n := 625) rfl (fun _ => i32_rng _)
                rw [← e_es36]
                refine x_iinc (x := b) i_271_206 rfl (by show 5 < 9; decide) ?_
                show aW _ _ _ _ _ _ (209, [some (.ref 143), some (.int (zI fi)), some (.int (zI se)), some (.int (zI 25)), some (.int (zI a)), some (.int (zI (b + 1))), some (.int (zI (1 + v35))), some (.int (zI 1)), some (.int (zI 4))], [], es36)
                refine x0 (r := (55, [some (.ref 143), some (.int (zI fi)), some (.int (zI se)), some (.int (zI 25)), some (.int (zI a)), some (.int (zI (b + 1))), some (.int (zI (1 + v35))), some (.int (zI 1)), some (.int (zI 4))], [], es36)) i_271_209 rfl ?_
                exact K8 v1 e_v1 c2 c3 c5 v7 e_v7 v8 e_v8 c9 v14 e_v14 v15 e_v15 c16 v21 e_v21 v22 e_v22 c23 v28 e_v28 v29 e_v29 c30 v35 e_v35 es36 e_es36
/-! alike of the reference -/
/-- the world as it was; the table's rows before a, and the first b of row a -/
def akJ (w : Nat → Int32) (lk : Nat → Nat → Bool) (nb a b : Nat) (es : PH) : Prop := hOK tT es ∧ gA es 80 = w ∧ (gI es 79 0).toInt = 0 ∧ (∀ i, i < a → ∀ j, j ≤ nb → (gA es 106 (25 * i + j)).toInt = zL lk i j) ∧ ∀ j, j < b → (gA es 106 (25 * a + j)).toInt = zL lk a j
theorem akJ_n {w : Nat → Int32} {lk : Nat → Nat → Bool} {nb a b : Nat} {es : PH} {v : Int} (h : akJ w lk nb a b es) (ha : a ≤ 24) (hnb : nb ≤ 24) (hb : b ≤ nb) (hv : v = zL lk a b) : akJ w lk nb a (b + 1) (sA es 106 (25 * a + b) (zI v)) := by
  obtain ⟨h1, h2, h3, h4, h5⟩ := h
  have hz := zL_bd (lk := lk) a b
  have i1 : i32 v := by unfold i32 iLO iHI; omega
  have g : ∀ j, gA (sA es 106 (25 * a + b) (zI v)) 106 j = if j = 25 * a + b then zI v else gA es 106 j := fun j => by
    rw [gA_sA (sh_of h1) (p := 106) (t := 0) (n := 625) rfl (by decide)]
    rfl
  refine ⟨hOK_sA h1 (p := 106) (t := 0) (n := 625) rfl (fun _ => i32_rng _), by rw [gA_sA_ne (by decide)]; exact h2, by rw [gI_sA]; exact h3, fun i hi j hj => ?_, fun j hj => ?_⟩
  · rw [g, if_neg (by omega)]
    exact h4 i hi j hj
  · rw [g]
    by_cases e : j = b
    · rw [if_pos (by omega), zI_toInt i1, hv, e]
    · rw [if_neg (by omega)]
      exact h5 j (by omega)
section
variable {O : pOut} {d kc ks : Nat} {Q : pRes → Prop} {w : Nat → Int32} {f s na nb : Nat}
theorem akR_in (hf : f ≤ 2) (hs : s ≤ 2) (hna : na ≤ 24) (hnb : nb ≤ 24) (hca : (w (119 + 98 * f + 1)).toInt = (na : Int)) (hcb : (w (119 + 98 * s + 1)).toInt = (nb : Int)) {a : Nat} (ha : a ≤ na) (K : ∀ (es' : PH) (x5 x6 x7 x8 : Option Value), akJ w (lkR w f s) nb (a + 1) 0 es' → aW O (d + 2) 271 kc ks Q (42, [some (.ref 143), some (.int (zI (f : Int))), some (.int (zI (s : Int))), some (.int (zI 25)), some (.int (zI ((a : Int) + 1))), x5, x6, x7, x8], [], es')) : ∀ (k b : Nat) (es : PH) (x6 x7 x8 : Option Value), b + k = nb + 1 → akJ w (lkR w f s) nb a b es → aW O (d + 2) 271 kc ks Q (55, [some (.ref 143), some (.int (zI (f : Int))), some (.int (zI (s : Int))), some (.int (zI 25)), some (.int (zI (a : Int))), some (.int (zI (b : Int))), x6, x7, x8], [], es) := by
  have hf2 : 0 ≤ (f : Int) ∧ (f : Int) ≤ 2 := ⟨by omega, by omega⟩
  have hs2 : 0 ≤ (s : Int) ∧ (s : Int) ≤ 2 := ⟨by omega, by omega⟩
  have ha2 : 0 ≤ (a : Int) ∧ (a : Int) ≤ 24 := ⟨by omega, by omega⟩
  intro k
  induction k with
  | zero =>
    intro b es x6 x7 x8 hk h
    have cb : (gA es 80 ((119 + (98 * (s : Int))) + 1).toNat).toInt = (nb : Int) := by rw [show ((119 + (98 * (s : Int))) + 1).toNat = 119 + 98 * s + 1 by omega, h.2.1]; exact hcb
    have no : ∀ v1 : Int, v1 = (gA es 80 ((119 + (98 * (s : Int))) + 1).toNat).toInt → ¬ (v1 < (b : Int)) → False := fun v1 e1 c => by rw [cb] at e1; omega
    refine s_mak55 (d := d) (sh_of h.1) hf2 hs2 ha2 ⟨by omega, by omega⟩ h.1 (fun v1 e1 c => ?_) (fun v1 e1 c => (no v1 e1 c).elim) (fun v1 e1 c => (no v1 e1 c).elim) (fun v1 e1 c => (no v1 e1 c).elim) (fun v1 e1 c => (no v1 e1 c).elim) (fun v1 e1 c => (no v1 e1 c).elim) (fun v1 e1 c => (no v1 e1 c).elim) (fun v1 e1 c => (no v1 e1 c).elim)
    refine K es _ _ _ _ ⟨h.1, h.2.1, h.2.2.1, fun i hi j hj => ?_, fun j hj => absurd hj (by omega)⟩
    by_cases e : i = a
    · rw [e]; exact h.2.2.2.2 j (by omega)
    · exact h.2.2.2.1 i (by omega) j hj
  | succ k ih =>
    intro b es x6 x7 x8 hk h
    have cb : (gA es 80 ((119 + (98 * (s : Int))) + 1).toNat).toInt = (nb : Int) := by rw [show ((119 + (98 * (s : Int))) + 1).toNat = 119 + 98 * s + 1 by omega, h.2.1]; exact hcb
    have go : ∀ (v : Int) (es' : PH) (y6 y7 y8 : Option Value), v = zL (lkR w f s) a b → es' = sA es 106 ((25 * (a : Int)) + (b : Int)).toNat (zI v) → aW O (d + 2) 271 kc ks Q (55, [some (.ref 143), some (.int (zI (f : Int))), some (.int (zI (s : Int))), some (.int (zI 25)), some (.int (zI (a : Int))), some (.int (zI ((b : Int) + 1))), y6, y7, y8], [], es') := fun v es' y6 y7 y8 hv he => by
      rw [show ((25 * (a : Int)) + (b : Int)).toNat = 25 * a + b by omega] at he
      have h9 := ih (b + 1) es' y6 y7 y8 (by omega) (by rw [he]; exact akJ_n h (by omega) hnb (by omega) hv)
      rw [show ((b + 1 : Nat) : Int) = (b : Int) + 1 by omega] at h9
      exact h9
    have cell : ∀ (F A q : Nat), 1 ≤ A → (((119 + (98 * (F : Int))) + ((2 + (4 * ((A : Int) - 1))) + (q : Int)))).toNat = 119 + 98 * F + 2 + 4 * (A - 1) + q := fun F A q hA => by omega
    have zr : ∀ (A B : Nat), 1 ≤ A → 1 ≤ B → zL (lkR w f s) A B = if lkR w f s (A - 1) (B - 1) = true then 1 + zL (lkR w f s) (A - 1) (B - 1) else max (zL (lkR w f s) (A - 1) B) (zL (lkR w f s) A (B - 1)) := fun A B hA hB => by
      obtain ⟨x, rfl⟩ : ∃ x : Nat, A = x + 1 := ⟨A - 1, by omega⟩
      obtain ⟨y, rfl⟩ : ∃ y : Nat, B = y + 1 := ⟨B - 1, by omega⟩
      rfl
    -- where they differ
    have dif : ∀ (va vb v : Int), 1 ≤ a → 1 ≤ b → ¬ lkR w f s (a - 1) (b - 1) = true → va = (gA es 106 ((25 * ((a : Int) - 1)) + (b : Int)).toNat).toInt → vb = (gA es 106 (((25 * (a : Int)) + (b : Int)) - 1).toNat).toInt → v = max va vb → v = zL (lkR w f s) a b := fun va vb v h1 h2 hl ea eb ev => by
      rw [show ((25 * ((a : Int) - 1)) + (b : Int)).toNat = 25 * (a - 1) + b by omega, h.2.2.2.1 (a - 1) (by omega) b (by omega)] at ea
      rw [show (((25 * (a : Int)) + (b : Int)) - 1).toNat = 25 * a + (b - 1) by omega, h.2.2.2.2 (b - 1) (by omega)] at eb
      rw [zr a b h1 h2, if_neg hl, ev, ea, eb]
    have no : ∀ v1 : Int, v1 = (gA es 80 ((119 + (98 * (s : Int))) + 1).toNat).toInt → v1 < (b : Int) → False := fun v1 e1 c => by rw [cb] at e1; omega
    have rdF : ∀ (q : Nat) (v : Int), 1 ≤ a → v = (gA es 80 ((119 + (98 * (f : Int))) + ((2 + (4 * ((a : Int) - 1))) + (q : Int))).toNat).toInt → v = (w (119 + 98 * f + 2 + 4 * (a - 1) + q)).toInt := fun q v h1 e => by rw [cell f a q h1, h.2.1] at e; exact e
    have rdS : ∀ (q : Nat) (v : Int), 1 ≤ b → v = (gA es 80 ((119 + (98 * (s : Int))) + ((2 + (4 * ((b : Int) - 1))) + (q : Int))).toNat).toInt → v = (w (119 + 98 * s + 2 + 4 * (b - 1) + q)).toInt := fun q v h1 e => by rw [cell s b q h1, h.2.1] at e; exact e
    refine s_mak55 (d := d) (sh_of h.1) hf2 hs2 ha2 ⟨by omega, by omega⟩ h.1 (fun v1 e1 c => (no v1 e1 c).elim) (fun v1 e1 c ca es4 e4 => ?_) (fun v1 e1 c ca cb2 es6 e6 => ?_) (fun v1 e1 c ca cb2 v7 e7 v8 e8 c9 v10 e10 v11 e11 v12 e12 es13 e13 => ?_) (fun v1 e1 c ca cb2 v7 e7 v8 e8 c9 v14 e14 v15 e15 c16 v17 e17 v18 e18 v19 e19 es20 e20 => ?_) (fun v1 e1 c ca cb2 v7 e7 v8 e8 c9 v14 e14 v15 e15 c16 v21 e21 v22 e22 c23 v24 e24 v25 e25 v26 e26 es27 e27 => ?_) (fun v1 e1 c ca cb2 v7 e7 v8 e8 c9 v14 e14 v15 e15 c16 v21 e21 v22 e22 c23 v28 e28 v29 e29 c30 v31 e31 v32 e32 v33 e33 es34 e34 => ?_) (fun v1 e1 c ca cb2 v7 e7 v8 e8 c9 v14 e14 v15 e15 c16 v21 e21 v22 e22 c23 v28 e28 v29 e29 c30 v35 e35 es36 e36 => ?_)
    · refine go 0 es4 _ _ _ ?_ e4
      rw [show a = 0 by omega]
      rfl
    · refine go 0 es6 _ _ _ ?_ e6
      rw [show b = 0 by omega, zL_0]
    · have x7 := rdF 0 v7 (by omega) e7
      have x8 := rdS 0 v8 (by omega) e8
      refine go v12 es13 _ _ _ (dif v10 v11 v12 (by omega) (by omega) ?_ e10 e11 e12) e13
      unfold lkR
      rw [decide_eq_false (p := (w (119 + 98 * f + 2 + 4 * (a - 1) + 0)).toInt = (w (119 + 98 * s + 2 + 4 * (b - 1) + 0)).toInt) (by rw [← x7, ← x8]; exact c9)]
      simp
    · have x7 := rdF 1 v14 (by omega) e14
      have x8 := rdS 1 v15 (by omega) e15
      refine go v19 es20 _ _ _ (dif v17 v18 v19 (by omega) (by omega) ?_ e17 e18 e19) e20
      unfold lkR
      rw [decide_eq_false (p := (w (119 + 98 * f + 2 + 4 * (a - 1) + 1)).toInt = (w (119 + 98 * s + 2 + 4 * (b - 1) + 1)).toInt) (by rw [← x7, ← x8]; exact c16)]
      simp
    · have x7 := rdF 2 v21 (by omega) e21
      have x8 := rdS 2 v22 (by omega) e22
      refine go v26 es27 _ _ _ (dif v24 v25 v26 (by omega) (by omega) ?_ e24 e25 e26) e27
      unfold lkR
      rw [decide_eq_false (p := (w (119 + 98 * f + 2 + 4 * (a - 1) + 2)).toInt = (w (119 + 98 * s + 2 + 4 * (b - 1) + 2)).toInt) (by rw [← x7, ← x8]; exact c23)]
      simp
    · have x7 := rdF 3 v28 (by omega) e28
      have x8 := rdS 3 v29 (by omega) e29
      refine go v33 es34 _ _ _ (dif v31 v32 v33 (by omega) (by omega) ?_ e31 e32 e33) e34
      unfold lkR
      rw [decide_eq_false (p := (w (119 + 98 * f + 2 + 4 * (a - 1) + 3)).toInt = (w (119 + 98 * s + 2 + 4 * (b - 1) + 3)).toInt) (by rw [← x7, ← x8]; exact c30)]
      simp
    · have y0 := rdF 0 v7 (by omega) e7
      have z0 := rdS 0 v8 (by omega) e8
      have y1 := rdF 1 v14 (by omega) e14
      have z1 := rdS 1 v15 (by omega) e15
      have y2 := rdF 2 v21 (by omega) e21
      have z2 := rdS 2 v22 (by omega) e22
      have y3 := rdF 3 v28 (by omega) e28
      have z3 := rdS 3 v29 (by omega) e29
      refine go (1 + v35) es36 _ _ _ ?_ e36
      have hl : lkR w f s (a - 1) (b - 1) = true := by
        unfold lkR
        rw [decide_eq_true (by omega), decide_eq_true (by omega), decide_eq_true (by omega), decide_eq_true (by omega)]
        rfl
      rw [zr a b (by omega) (by omega), if_pos hl, e35, show (((25 * ((a : Int) - 1)) + (b : Int)) - 1).toNat = 25 * (a - 1) + (b - 1) by omega, h.2.2.2.1 (a - 1) (by omega) (b - 1) (by omega)]
theorem akR_out (hf : f ≤ 2) (hs : s ≤ 2) (hna : na ≤ 24) (hnb : nb ≤ 24) (hca : (w (119 + 98 * f + 1)).toInt = (na : Int)) (hcb : (w (119 + 98 * s + 1)).toInt = (nb : Int)) (hQ : ∀ es' : PH, hOK tT es' → gA es' 80 = w → (gI es' 79 0).toInt = 0 → Q (.inl (some (.int (zI (zL (lkR w f s) na nb)))), es', kc, ks)) : ∀ (k a : Nat) (es : PH) (x5 x6 x7 x8 : Option Value), a + k = na + 1 → akJ w (lkR w f s) nb a 0 es → aW O (d + 2) 271 kc ks Q (42, [some (.ref 143), some (.int (zI (f : Int))), some (.int (zI (s : Int))), some (.int (zI 25)), some (.int (zI (a : Int))), x5, x6, x7, x8], [], es) := by
  have hf2 : 0 ≤ (f : Int) ∧ (f : Int) ≤ 2 := ⟨by omega, by omega⟩
  have hs2 : 0 ≤ (s : Int) ∧ (s : Int) ≤ 2 := ⟨by omega, by omega⟩
  intro k
  induction k with
  | zero =>
    intro a es x5 x6 x7 x8 hk h
    have ca : (gA es 80 ((119 + (98 * (f : Int))) + 1).toNat).toInt = (na : Int) := by rw [show ((119 + (98 * (f : Int))) + 1).toNat = 119 + 98 * f + 1 by omega, h.2.1]; exact hca
    have cb : (gA es 80 ((119 + (98 * (s : Int))) + 1).toNat).toInt = (nb : Int) := by rw [show ((119 + (98 * (s : Int))) + 1).toNat = 119 + 98 * s + 1 by omega, h.2.1]; exact hcb
    refine s_mak42 (d := d) (sh_of h.1) hf2 hs2 ⟨by omega, by omega⟩ h.1 (fun v1 e1 c v3 e3 v4 e4 => ?_) (fun v1 e1 c => absurd (show v1 < (a : Int) by omega) c)
    have e : v4 = zL (lkR w f s) na nb := by
      rw [e4, e1, e3, ca, cb, show ((25 * (na : Int)) + (nb : Int)).toNat = 25 * na + nb by omega]
      exact h.2.2.2.1 na (by omega) nb (Nat.le_refl _)
    rw [e]
    exact hQ es h.1 h.2.1 h.2.2.1
  | succ k ih =>
    intro a es x5 x6 x7 x8 hk h
    have ca : (gA es 80 ((119 + (98 * (f : Int))) + 1).toNat).toInt = (na : Int) := by rw [show ((119 + (98 * (f : Int))) + 1).toNat = 119 + 98 * f + 1 by omega, h.2.1]; exact hca
    refine s_mak42 (d := d) (sh_of h.1) hf2 hs2 ⟨by omega, by omega⟩ h.1 (fun v1 e1 c v3 e3 v4 e4 => absurd c (by omega)) (fun v1 e1 c => ?_)
    refine akR_in hf hs hna hnb hca hcb (a := a) (by omega) (fun es' y5 y6 y7 y8 h' => ?_) (nb + 1) 0 es x6 x7 x8 (by omega) h
    have h9 := ih (a + 1) es' y5 y6 y7 y8 (by omega) h'
    rw [show ((a + 1 : Nat) : Int) = (a : Int) + 1 by omega] at h9
    exact h9
end
/-! what both answer -/
def alkxP (fi se : Int) (es : PH) (r : Option Value ⊕ Nat) (es1 : PH) : Prop := sh es1 ∧ True ∧ ((r = .inr 2 ∧ (fi < 0 ∨ (gI es 7 5).toInt ≤ fi ∨ se < 0 ∨ (gI es 7 5).toInt ≤ se) ∧ True) ∨ (r = .inl (some (.int (zI (zL (lkC (gA es 14) fi.toNat se.toNat) (gA es 13 fi.toNat).toInt.toNat (gA es 13 se.toNat).toInt.toNat)))) ∧ (0 ≤ fi ∧ fi < (gI es 7 5).toInt ∧ 0 ≤ se ∧ se < (gI es 7 5).toInt) ∧ True))
theorem fn_alkxK {O : Nat → Int32} {n d : Nat} {es : PH} {fi se : Int} {Q : pRes → Prop} (h_fi : i32 fi) (h_se : i32 se) (hT : hOK tT es) (KQ : ∀ r es1 kc ks, alkxP fi se es r es1 → Q (r, es1, kc, ks)) : aW (pO0 O n) (d + 5) 162 0 0 Q (0, [some (.ref 64), some (.int (zI fi)), some (.int (zI se))], [], es) := by
  have hlen := hOK_len hT
  have hB : 0 ≤ (gI es 7 5).toInt ∧ (gI es 7 5).toInt ≤ 3 := gI_bd hT (p := 7) (b := 5) rfl rfl
  have thr : (fi < 0 ∨ (gI es 7 5).toInt ≤ fi ∨ se < 0 ∨ (gI es 7 5).toInt ≤ se) → Q (.inr 2, es, 0 + 1, 0 + 6) := fun h => KQ _ _ _ _ ⟨sh_of hT, trivial, Or.inl ⟨rfl, h, trivial⟩⟩
  refine s_alike0 (d := d + 4) (kc := 0) (ks := 0) (sh_of hT) h_fi h_se hT (fun _ => thr (by omega)) (fun _ v2 e2 c => thr (by omega)) (fun _ v2 e2 c c2 => thr (by omega)) (fun _ v2 e2 c c2 v5 e5 c3 => thr (by omega)) (fun c0 v2 e2 c c2 v5 e5 c3 => ?_)
  obtain ⟨f, hf⟩ : ∃ f : Nat, fi = (f : Int) := ⟨fi.toNat, by omega⟩
  obtain ⟨s, hs⟩ : ∃ s : Nat, se = (s : Int) := ⟨se.toNat, by omega⟩
  have fn : fi.toNat = f := by omega
  have sn : se.toNat = s := by omega
  have hca := gA_bd hT (p := 13) (t := 0) (n := 3) (k := f) rfl (by omega) (by decide)
  have hcb := gA_bd hT (p := 13) (t := 0) (n := 3) (k := s) rfl (by omega) (by decide)
  have hca1 : 0 ≤ (gA es 13 f).toInt ∧ (gA es 13 f).toInt ≤ 24 := hca
  have hcb1 : 0 ≤ (gA es 13 s).toInt ∧ (gA es 13 s).toInt ≤ 24 := hcb
  have hr0 : rwA es (fun _ => 0) (es ++ [.inl (0, 25, .inl (fun _ => 0))]) := ⟨hOK_push hT _, fun p hp => List.getElem?_append_left hp, by rw [List.getElem?_append_right (Nat.le_refl _), Nat.sub_self]; rfl⟩
  have hP : alkxP fi se es (.inl (some (.int (zI (zL (lkC (gA es 14) f s) (gA es 13 f).toInt.toNat (gA es 13 s).toInt.toNat))))) es := ⟨sh_of hT, trivial, Or.inr ⟨by rw [fn, sn], ⟨by omega, by omega, by omega, by omega⟩, trivial⟩⟩
  rw [hf, hs]
  refine x_new (r := (37, [some (.ref 64), some (.int (zI (f : Int))), some (.int (zI (s : Int)))], [.ref (64 + es.length), .int (zI (s : Int)), .int (zI (f : Int)), .ref 71], es ++ [.inl (0, 25, .inl (fun _ => 0))])) i_162_35 rfl (fun _ => rfl) rfl ?_
  show aW _ _ _ 1 25 _ _
  refine x_call (vs := [.ref 71, .int (zI (f : Int)), .int (zI (s : Int)), .ref (64 + es.length)]) (rs := []) i_162_37 rfl (fun _ => rfl) rfl rfl rfl rfl rfl (pCall_v (p := 7) (sh_of hr0.1) rfl rfl rfl rfl rfl (by decide) rfl rfl rfl rfl rfl) ?_
  show aW _ _ _ _ _ _ (0, [some (.ref 71), some (.int (zI (f : Int))), some (.int (zI (s : Int))), some (.ref (64 + es.length)), none, none, none, none, none], [], es ++ [.inl (0, 25, .inl (fun _ => 0))])
  refine s_mic0 (sh_of hr0.1) (by rw [← hf]; exact h_fi) (by rw [← hs]; exact h_se) ?_
  refine micF_out (d := d + 1) (na := (gA es 13 f).toInt.toNat) (nb := (gA es 13 s).toInt.toNat) hlen (by omega) (by omega) (by omega) (by omega) (by omega) (by omega) (fun g es' hr => ?_) (gA es 13 f).toInt.toNat 0 _ _ none none none none (by omega) hr0 (fun j _ => rfl)
  show aW _ _ _ _ _ _ (40, [some (.ref 64), some (.int (zI (f : Int))), some (.int (zI (s : Int)))], [.int (zI (zL (lkC (gA es 14) f s) (gA es 13 f).toInt.toNat (gA es 13 s).toInt.toNat))], es')
  refine x_ret (v := some (.int (zI (zL (lkC (gA es 14) f s) (gA es 13 f).toInt.toNat (gA es 13 s).toInt.toNat)))) i_162_40 rfl (fun _ => rfl) rfl rfl rfl ?_
  exact KQ _ _ _ _ ⟨sh_of hr.1, hP.2⟩
theorem fn_alkx {O : Nat → Int32} {n d : Nat} {es : PH} {fi se : Int} (h_fi : i32 fi) (h_se : i32 se) (hT : hOK tT es) : aW (pO0 O n) (d + 5) 162 0 0 (fun o => alkxP fi se es o.1 o.2.1) (0, [some (.ref 64), some (.int (zI fi)), some (.int (zI se))], [], es) := fn_alkxK h_fi h_se hT (fun r es1 kc ks h => h)
def alkmP (fi se : Int) (es : PH) (r : Option Value ⊕ Nat) (es1 : PH) : Prop := sh es1 ∧ ∃ v : Int, r = .inl (some (.int (zI v))) ∧ i32 v ∧ (((gI es1 79 0).toInt = 1 ∧ (fi < 0 ∨ (gA es 80 1).toInt ≤ fi ∨ se < 0 ∨ (gA es 80 1).toInt ≤ se)) ∨ ((gI es1 79 0).toInt = 0 ∧ (0 ≤ fi ∧ fi < (gA es 80 1).toInt ∧ 0 ≤ se ∧ se < (gA es 80 1).toInt) ∧ v = zL (lkR (gA es 80) fi.toNat se.toNat) (gA es 80 (119 + 98 * fi.toNat + 1)).toInt.toNat (gA es 80 (119 + 98 * se.toNat + 1)).toInt.toNat))
theorem fn_alkmK {O : pOut} {d : Nat} {es : PH} {fi se : Int} {Q : pRes → Prop} (h_fi : i32 fi) (h_se : i32 se) (hT : hOK tT es) (KQ : ∀ r es1 kc ks, alkmP fi se es r es1 → Q (r, es1, kc, ks)) : aW O (d + 3) 271 0 0 Q (0, [some (.ref 143), some (.int (zI fi)), some (.int (zI se)), none, none, none, none, none, none], [], es) := by
  have hB : (0 : Int) ≤ (gA es 80 1).toInt ∧ (gA es 80 1).toInt ≤ (3 : Int) := gA_bd hT (p := 80) (k := 1) rfl (by omega) (by decide)
  have i0 : i32 0 := by unfold i32 iLO iHI; omega
  have z1 : (zI 1).toInt = 1 := rfl
  have rd : ∀ (es1 : PH) (v : Int), es1 = sI es 79 0 (.int (zI 0)) → v = (gA es1 80 (Int.toNat 1)).toInt → v = (gA es 80 1).toInt := fun es1 v e1 ev => by rw [e1, gA_sI] at ev; exact ev
  have thr : ∀ es1 es3 : PH, es1 = sI es 79 0 (.int (zI 0)) → es3 = sI es1 79 0 (.int (zI 1)) → (fi < 0 ∨ (gA es 80 1).toInt ≤ fi ∨ se < 0 ∨ (gA es 80 1).toInt ≤ se) → Q (.inl (some (.int (zI 0))), es3, 0, 0) := fun es1 es3 e1 e3 h => by
    have hs1 : sh es1 := by rw [e1]; exact sh_sI (sh_of hT) (p := 79) (b := 0) rfl rfl
    exact KQ _ _ _ _ ⟨by rw [e3]; exact sh_sI hs1 (p := 79) (b := 0) rfl rfl, 0, rfl, i0, Or.inl ⟨by rw [e3, gI_sI hs1 (p := 79) (b := 0) rfl (by decide)]; exact z1, h⟩⟩
  refine s_mak0 (d := d) (kc := 0) (ks := 0) (sh_of hT) h_fi h_se hT (fun es1 e1 v2 e2 c es4 e4 => thr es1 es4 e1 e4 (by omega)) (fun es1 e1 v2 e2 c c2 es6 e6 => thr es1 es6 e1 e6 (by have := rd es1 v2 e1 e2; omega)) (fun es1 e1 v2 e2 c c2 c3 es8 e8 => thr es1 es8 e1 e8 (by omega)) (fun es1 e1 v2 e2 c c2 c3 c4 es10 e10 => thr es1 es10 e1 e10 (by have := rd es1 v2 e1 e2; omega)) (fun es1 e1 v2 e2 c c2 c3 c4 => ?_)
  have hv2 := rd es1 v2 e1 e2
  have hT1 : hOK tT es1 := by rw [e1]; exact thr_sI hT _
  have a1 : gA es1 80 = gA es 80 := by rw [e1, gA_sI]
  have i1 : (gI es1 79 0).toInt = 0 := by rw [e1, gI_sI (sh_of hT) (p := 79) (b := 0) rfl (by decide)]; rfl
  obtain ⟨f, hf⟩ : ∃ f : Nat, fi = (f : Int) := ⟨fi.toNat, by omega⟩
  obtain ⟨s, hs⟩ : ∃ s : Nat, se = (s : Int) := ⟨se.toNat, by omega⟩
  have fn : fi.toNat = f := by omega
  have sn : se.toNat = s := by omega
  have hca := cnt_bd hT (bk := (f : Int)) (by omega) (by omega)
  have hcb := cnt_bd hT (bk := (s : Int)) (by omega) (by omega)
  rw [show ((119 + (98 * (f : Int))) + 1).toNat = 119 + 98 * f + 1 by omega] at hca
  rw [show ((119 + (98 * (s : Int))) + 1).toNat = 119 + 98 * s + 1 by omega] at hcb
  have hzb := zL_bd (lk := lkR (gA es 80) f s) (gA es 80 (119 + 98 * f + 1)).toInt.toNat (gA es 80 (119 + 98 * s + 1)).toInt.toNat
  rw [hf, hs]
  refine akR_out (d := d + 1) (w := gA es 80) (f := f) (s := s) (na := (gA es 80 (119 + 98 * f + 1)).toInt.toNat) (nb := (gA es 80 (119 + 98 * s + 1)).toInt.toNat) (by omega) (by omega) (by omega) (by omega) (by omega) (by omega) (fun es' t1 t2 t3 => ?_) ((gA es 80 (119 + 98 * f + 1)).toInt.toNat + 1) 0 es1 none none none none (by omega) ⟨hT1, a1, i1, fun i hi => absurd hi (by omega), fun j hj => absurd hj (by omega)⟩
  exact KQ _ _ _ _ ⟨sh_of t1, _, rfl, by unfold i32 iLO iHI; omega, Or.inr ⟨t3, ⟨by omega, by omega, by omega, by omega⟩, by rw [fn, sn]⟩⟩
theorem fn_alkm {O : pOut} {d : Nat} {es : PH} {fi se : Int} (h_fi : i32 fi) (h_se : i32 se) (hT : hOK tT es) : aW O (d + 3) 271 0 0 (fun o => alkmP fi se es o.1 o.2.1) (0, [some (.ref 143), some (.int (zI fi)), some (.int (zI se)), none, none, none, none, none, none], [], es) := fn_alkmK h_fi h_se hT (fun r es1 kc ks h => h)
theorem s_alky0 {O : pOut} {d kc ks : Nat} {Q : pRes → Prop} {es : PH} {fi se : Int} (hs_es : sh es)
    (K1 : aW O d 298 kc ks Q (5, [some (.ref 64), some (.int (zI fi)), some (.int (zI se)), some (.ref 171), none], [.int (zI se), .int (zI fi), .ref 64, .int (zI 0), .ref 171], es)) :
    aW O d 298 kc ks Q (0, [some (.ref 64), some (.int (zI fi)), some (.int (zI se)), some (.ref 171), none], [], es) := by
  refine x0 (r := (1, [some (.ref 64), some (.int (zI fi)), some (.int (zI se)), some (.ref 171), none], [.ref 171], es)) i_298_0 rfl ?_
  refine x0 (r := (2, [some (.ref 64), some (.int (zI fi)), some (.int (zI se)), some (.ref 171), none], [.int (zI 0), .ref 171], es)) i_298_1 (by rfl) ?_
  refine x0 (r := (3, [some (.ref 64), some (.int (zI fi)), some (.int (zI se)), some (.ref 171), none], [.ref 64, .int (zI 0), .ref 171], es)) i_298_2 rfl ?_
  refine x0 (r := (4, [some (.ref 64), some (.int (zI fi)), some (.int (zI se)), some (.ref 171), none], [.int (zI fi), .ref 64, .int (zI 0), .ref 171], es)) i_298_3 rfl ?_
  refine x0 (r := (5, [some (.ref 64), some (.int (zI fi)), some (.int (zI se)), some (.ref 171), none], [.int (zI se), .int (zI fi), .ref 64, .int (zI 0), .ref 171], es)) i_298_4 rfl ?_
  exact K1
theorem s_alky1 {O : pOut} {d kc ks : Nat} {Q : pRes → Prop} {es : PH} {fi se v : Int} (hs_es : sh es)
    (K1 : ∀ es1 : PH, es1 = sJ es 107 (Int.toNat 0) ((zI v).toInt64) → Q (.inl (some (.int (zI 0))), es1, kc, ks)) :
    aW O d 298 kc ks Q (8, [some (.ref 64), some (.int (zI fi)), some (.int (zI se)), some (.ref 171), none], [.int (zI v), .int (zI 0), .ref 171], es) := by
  refine x0 (r := (9, [some (.ref 64), some (.int (zI fi)), some (.int (zI se)), some (.ref 171), none], [.long ((zI v).toInt64), .int (zI 0), .ref 171], es)) i_298_8 rfl ?_
  refine x_last (p := 107) i_298_9 hs_es rfl (by unfold i32 iLO iHI; omega) (by omega) (by omega) ?_
  obtain ⟨es1, e_es1⟩ : ∃ z : PH, z = sJ es 107 (Int.toNat 0) ((zI v).toInt64) := ⟨_, rfl⟩
  have hs_es1 : sh es1 := by rw [e_es1]; exact sh_sJ hs_es
  rw [← e_es1]
  refine x0 (r := (17, [some (.ref 64), some (.int (zI fi)), some (.int (zI se)), some (.ref 171), none], [], es1)) i_298_10 rfl ?_
  refine x0 (r := (18, [some (.ref 64), some (.int (zI fi)), some (.int (zI se)), some (.ref 171), none], [.int (zI 0)], es1)) i_298_17 (by rfl) ?_
  refine x_ret (v := some (.int (zI 0))) i_298_18 rfl (fun _ => rfl) rfl rfl rfl ?_
  exact K1 es1 e_es1
theorem s_alky15 {O : pOut} {d kc ks : Nat} {Q : pRes → Prop} {es : PH} {fi se : Int} (hs_es : sh es)
    (K1 : Q (.inl (some (.int (zI 1))), es, kc, ks)) :
    aW O d 298 kc ks Q (15, [some (.ref 64), some (.int (zI fi)), some (.int (zI se)), some (.ref 171), none], [], es) := by
  refine x0 (r := (16, [some (.ref 64), some (.int (zI fi)), some (.int (zI se)), some (.ref 171), none], [.int (zI 1)], es)) i_298_15 (by rfl) ?_
  refine x_ret (v := some (.int (zI 1))) i_298_16 rfl (fun _ => rfl) rfl rfl rfl ?_
  exact K1
def alkyP (fi : Int) (se : Int) (es : PH) (r : Option Value ⊕ Nat) (es1 : PH) : Prop := sh es1 ∧ True ∧ ∃ k : Int, r = .inl (some (.int (zI k))) ∧ ((k = 1 ∧ (fi < 0 ∨ (gI es 7 5).toInt ≤ fi ∨ se < 0 ∨ (gI es 7 5).toInt ≤ se) ∧ True) ∨ (k = 0 ∧ (0 ≤ fi ∧ fi < (gI es 7 5).toInt ∧ 0 ≤ se ∧ se < (gI es 7 5).toInt) ∧ (gJ es1 107 (Int.toNat 0)).toInt = (zL (lkC (gA es 14) fi.toNat se.toNat) (gA es 13 fi.toNat).toInt.toNat (gA es 13 se.toNat).toInt.toNat)))
theorem fn_alky {xs : Nat → Int32} {n d : Nat} {es : PH} {fi se : Int} (h_fi : i32 fi) (h_se : i32 se) (hT : hOK tT es) : aW (pO0 xs n) (d + 6) 298 0 0 (fun o => alkyP fi se es o.1 o.2.1) (0, [some (.ref 64), some (.int (zI fi)), some (.int (zI se)), some (.ref 171), none], [], es) := by
  refine s_alky0 (sh_of hT) ?_
  refine x_call (vs := [.ref 64, .int (zI fi), .int (zI se)]) (rs := [.int (zI 0), .ref 171]) i_298_5 rfl (fun _ => rfl) rfl rfl rfl rfl rfl (pCall_v (p := 0) (sh_of hT) rfl rfl rfl rfl rfl (by decide) rfl rfl rfl rfl rfl) ?_
  show aW _ _ _ _ _ _ (0, [some (.ref 64), some (.int (zI fi)), some (.int (zI se))], [], es)
  refine aW_mono (Nat.le_refl _) (fun o ho => ?_) (fn_alkx (O := xs) (n := n) (d := d) h_fi h_se hT)
  obtain ⟨r, es', kc', ks'⟩ := o
  obtain ⟨hs1, hcm, h⟩ : alkxP fi se es r es' := ho
  rcases h with ⟨rfl, hc, -⟩ | ⟨rfl, hc, -⟩
  · refine ⟨_, _, _, _, rfl, rfl, rfl, ?_⟩
    show aW _ _ _ _ _ _ (15, [some (.ref 64), some (.int (zI fi)), some (.int (zI se)), some (.ref 171), none], [], es')
    exact s_alky15 hs1 ⟨hs1, hcm, 1, rfl, Or.inl ⟨rfl, hc, trivial⟩⟩
  · refine aK_inl ?_
    show aW _ _ _ _ _ _ (8, [some (.ref 64), some (.int (zI fi)), some (.int (zI se)), some (.ref 171), none], [.int (zI (zL (lkC (gA es 14) fi.toNat se.toNat) (gA es 13 fi.toNat).toInt.toNat (gA es 13 se.toNat).toInt.toNat)), .int (zI 0), .ref 171], es')
    refine s_alky1 hs1 (fun es1 e_es1 => ?_)
    have g9 : (gJ es1 107 (Int.toNat 0)).toInt = (zL (lkC (gA es 14) fi.toNat se.toNat) (gA es 13 fi.toNat).toInt.toNat (gA es 13 se.toNat).toInt.toNat) := by
      rw [e_es1, gJ_sJ hs1 (p := 107) (n := 1) rfl]
      unfold vp_updL
      rw [if_pos rfl, i2l_int (by have hz := zL_bd (lk := lkC (gA es 14) fi.toNat se.toNat) (gA es 13 fi.toNat).toInt.toNat (gA es 13 se.toNat).toInt.toNat; have h1 : (gA es 13 fi.toNat).toInt ≤ 24 := (gA_bd hT (p := 13) (t := 0) (n := 3) (k := fi.toNat) rfl (by have h5 : (gI es 7 5).toInt ≤ 3 := (gI_bd hT (p := 7) (b := 5) rfl rfl).2; omega) (by decide)).2; unfold i32 iLO iHI; omega)]
    exact ⟨by show sh es1; rw [e_es1]; exact sh_sJ hs1, trivial, 0, rfl, Or.inr (⟨rfl, hc, g9⟩)⟩
