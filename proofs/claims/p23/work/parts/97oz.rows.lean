theorem i_203_0 : iRow 203 0 = some (.aload_n 0, 0, 0, 0, (some (Jvm.ClassFile.FieldType.boolean))) := rfl
theorem i_203_1 : iRow 203 1 = some (.iload_n 1, 0, 0, 0, (some (Jvm.ClassFile.FieldType.boolean))) := rfl
theorem i_203_2 : iRow 203 2 = some (.iconst 1, 0, 0, 0, (some (Jvm.ClassFile.FieldType.boolean))) := rfl
theorem i_203_3 : iRow 203 3 = some (.invokevirtual 110, 288, 199, 1, (some (Jvm.ClassFile.FieldType.boolean))) := rfl
theorem i_203_6 : iRow 203 6 = some (.ireturn, 0, 0, 0, (some (Jvm.ClassFile.FieldType.boolean))) := rfl
theorem i_210_0 : iRow 210 0 = some (.aload_n 0, 0, 0, 0, (some (Jvm.ClassFile.FieldType.boolean))) := rfl
theorem i_210_1 : iRow 210 1 = some (.iload_n 1, 0, 0, 0, (some (Jvm.ClassFile.FieldType.boolean))) := rfl
theorem i_210_2 : iRow 210 2 = some (.invokevirtual 259, 292, 203, 1, (some (Jvm.ClassFile.FieldType.boolean))) := rfl
theorem i_210_5 : iRow 210 5 = some (.ifCond .ne 18, 0, 0, 0, (some (Jvm.ClassFile.FieldType.boolean))) := rfl
theorem i_210_8 : iRow 210 8 = some (.iload_n 2, 0, 0, 0, (some (Jvm.ClassFile.FieldType.boolean))) := rfl
theorem i_210_9 : iRow 210 9 = some (.iconst 0, 0, 0, 0, (some (Jvm.ClassFile.FieldType.boolean))) := rfl
theorem i_210_10 : iRow 210 10 = some (.aload_n 0, 0, 0, 0, (some (Jvm.ClassFile.FieldType.boolean))) := rfl
theorem i_210_11 : iRow 210 11 = some (.iload_n 1, 0, 0, 0, (some (Jvm.ClassFile.FieldType.boolean))) := rfl
theorem i_210_12 : iRow 210 12 = some (.invokevirtual 251, 294, 205, 1, (some (Jvm.ClassFile.FieldType.boolean))) := rfl
theorem i_210_15 : iRow 210 15 = some (.iconst 1, 0, 0, 0, (some (Jvm.ClassFile.FieldType.boolean))) := rfl
theorem i_210_16 : iRow 210 16 = some (.isub, 0, 0, 0, (some (Jvm.ClassFile.FieldType.boolean))) := rfl
theorem i_210_17 : iRow 210 17 = some (.invokestatic 106, 282, 193, 0, (some (Jvm.ClassFile.FieldType.boolean))) := rfl
theorem i_210_20 : iRow 210 20 = some (.ifCond .ne 7, 0, 0, 0, (some (Jvm.ClassFile.FieldType.boolean))) := rfl
theorem i_210_23 : iRow 210 23 = some (.iconst 1, 0, 0, 0, (some (Jvm.ClassFile.FieldType.boolean))) := rfl
theorem i_210_24 : iRow 210 24 = some (.goto 4, 0, 0, 0, (some (Jvm.ClassFile.FieldType.boolean))) := rfl
theorem i_210_27 : iRow 210 27 = some (.iconst 0, 0, 0, 0, (some (Jvm.ClassFile.FieldType.boolean))) := rfl
theorem i_210_28 : iRow 210 28 = some (.ireturn, 0, 0, 0, (some (Jvm.ClassFile.FieldType.boolean))) := rfl
theorem i_230_0 : iRow 230 0 = some (.aload_n 0, 0, 0, 0, (some (Jvm.ClassFile.FieldType.int))) := rfl
theorem i_230_1 : iRow 230 1 = some (.invokevirtual 435, 320, 231, 1, (some (Jvm.ClassFile.FieldType.int))) := rfl
theorem i_230_4 : iRow 230 4 = some (.aload_n 0, 0, 0, 0, (some (Jvm.ClassFile.FieldType.int))) := rfl
theorem i_230_5 : iRow 230 5 = some (.invokevirtual 438, 321, 232, 1, (some (Jvm.ClassFile.FieldType.int))) := rfl
theorem i_230_8 : iRow 230 8 = some (.ireturn, 0, 0, 0, (some (Jvm.ClassFile.FieldType.int))) := rfl
theorem i_231_0 : iRow 231 0 = some (.aload_n 0, 0, 0, 0, none) := rfl
theorem i_231_1 : iRow 231 1 = some (.iconst 1, 0, 0, 0, none) := rfl
theorem i_231_2 : iRow 231 2 = some (.aload_n 0, 0, 0, 0, none) := rfl
theorem i_231_3 : iRow 231 3 = some (.getfield 13, 165, 12, 1, none) := rfl
theorem i_231_6 : iRow 231 6 = some (.iconst 1, 0, 0, 0, none) := rfl
theorem i_231_7 : iRow 231 7 = some (.iaload, 0, 0, 0, none) := rfl
theorem i_231_8 : iRow 231 8 = some (.ishl, 0, 0, 0, none) := rfl
theorem i_231_9 : iRow 231 9 = some (.iconst 1, 0, 0, 0, none) := rfl
theorem i_231_10 : iRow 231 10 = some (.isub, 0, 0, 0, none) := rfl
theorem i_231_11 : iRow 231 11 = some (.putfield 314, 182, 12, 18, none) := rfl
theorem i_231_14 : iRow 231 14 = some (.iconst 0, 0, 0, 0, none) := rfl
theorem i_231_15 : iRow 231 15 = some (.istore_n 1, 0, 0, 0, none) := rfl
theorem i_231_16 : iRow 231 16 = some (.iload_n 1, 0, 0, 0, none) := rfl
theorem i_231_17 : iRow 231 17 = some (.aload_n 0, 0, 0, 0, none) := rfl
theorem i_231_18 : iRow 231 18 = some (.getfield 13, 165, 12, 1, none) := rfl
theorem i_231_21 : iRow 231 21 = some (.iconst 1, 0, 0, 0, none) := rfl
theorem i_231_22 : iRow 231 22 = some (.iaload, 0, 0, 0, none) := rfl
theorem i_231_23 : iRow 231 23 = some (.if_icmp .ge 21, 0, 0, 0, none) := rfl
theorem i_231_26 : iRow 231 26 = some (.aload_n 0, 0, 0, 0, none) := rfl
theorem i_231_27 : iRow 231 27 = some (.getfield 47, 183, 12, 19, none) := rfl
theorem i_231_30 : iRow 231 30 = some (.iload_n 1, 0, 0, 0, none) := rfl
theorem i_231_31 : iRow 231 31 = some (.aload_n 0, 0, 0, 0, none) := rfl
theorem i_231_32 : iRow 231 32 = some (.iload_n 1, 0, 0, 0, none) := rfl
theorem i_231_33 : iRow 231 33 = some (.iconst 0, 0, 0, 0, none) := rfl
theorem i_231_34 : iRow 231 34 = some (.invokevirtual 114, 295, 206, 1, none) := rfl
theorem i_231_37 : iRow 231 37 = some (.iastore, 0, 0, 0, none) := rfl
theorem i_231_38 : iRow 231 38 = some (.iinc 1 1, 0, 0, 0, none) := rfl
theorem i_231_41 : iRow 231 41 = some (.goto (-25), 0, 0, 0, none) := rfl
theorem i_231_44 : iRow 231 44 = some (.iconst 0, 0, 0, 0, none) := rfl
theorem i_231_45 : iRow 231 45 = some (.istore_n 1, 0, 0, 0, none) := rfl
theorem i_231_46 : iRow 231 46 = some (.iload_n 1, 0, 0, 0, none) := rfl
theorem i_231_47 : iRow 231 47 = some (.bipush 8, 0, 0, 0, none) := rfl
theorem i_231_49 : iRow 231 49 = some (.if_icmp .ge 23, 0, 0, 0, none) := rfl
theorem i_231_52 : iRow 231 52 = some (.aload_n 0, 0, 0, 0, none) := rfl
theorem i_231_53 : iRow 231 53 = some (.getfield 50, 184, 12, 20, none) := rfl
theorem i_231_56 : iRow 231 56 = some (.iload_n 1, 0, 0, 0, none) := rfl
theorem i_231_57 : iRow 231 57 = some (.aload_n 0, 0, 0, 0, none) := rfl
theorem i_231_58 : iRow 231 58 = some (.getfield 13, 165, 12, 1, none) := rfl
theorem i_231_61 : iRow 231 61 = some (.iconst 5, 0, 0, 0, none) := rfl
theorem i_231_62 : iRow 231 62 = some (.iload_n 1, 0, 0, 0, none) := rfl
theorem i_231_63 : iRow 231 63 = some (.iadd, 0, 0, 0, none) := rfl
theorem i_231_64 : iRow 231 64 = some (.iaload, 0, 0, 0, none) := rfl
theorem i_231_65 : iRow 231 65 = some (.iastore, 0, 0, 0, none) := rfl
theorem i_231_66 : iRow 231 66 = some (.iinc 1 1, 0, 0, 0, none) := rfl
theorem i_231_69 : iRow 231 69 = some (.goto (-23), 0, 0, 0, none) := rfl
theorem i_231_72 : iRow 231 72 = some (.return_, 0, 0, 0, none) := rfl
theorem i_232_0 : iRow 232 0 = some (.aload_n 0, 0, 0, 0, (some (Jvm.ClassFile.FieldType.int))) := rfl
theorem i_232_1 : iRow 232 1 = some (.iconst 0, 0, 0, 0, (some (Jvm.ClassFile.FieldType.int))) := rfl
theorem i_232_2 : iRow 232 2 = some (.putfield 398, 191, 12, 27, (some (Jvm.ClassFile.FieldType.int))) := rfl
theorem i_232_5 : iRow 232 5 = some (.aload_n 0, 0, 0, 0, (some (Jvm.ClassFile.FieldType.int))) := rfl
theorem i_232_6 : iRow 232 6 = some (.iconst 0, 0, 0, 0, (some (Jvm.ClassFile.FieldType.int))) := rfl
theorem i_232_7 : iRow 232 7 = some (.putfield 401, 193, 12, 29, (some (Jvm.ClassFile.FieldType.int))) := rfl
theorem i_232_10 : iRow 232 10 = some (.aload_n 0, 0, 0, 0, (some (Jvm.ClassFile.FieldType.int))) := rfl
theorem i_232_11 : iRow 232 11 = some (.iconst 0, 0, 0, 0, (some (Jvm.ClassFile.FieldType.int))) := rfl
theorem i_232_12 : iRow 232 12 = some (.putfield 359, 194, 12, 30, (some (Jvm.ClassFile.FieldType.int))) := rfl
theorem i_232_15 : iRow 232 15 = some (.aload_n 0, 0, 0, 0, (some (Jvm.ClassFile.FieldType.int))) := rfl
theorem i_232_16 : iRow 232 16 = some (.bipush 30, 0, 0, 0, (some (Jvm.ClassFile.FieldType.int))) := rfl
theorem i_232_18 : iRow 232 18 = some (.putfield 368, 198, 12, 35, (some (Jvm.ClassFile.FieldType.int))) := rfl
theorem i_232_21 : iRow 232 21 = some (.iconst 0, 0, 0, 0, (some (Jvm.ClassFile.FieldType.int))) := rfl
theorem i_232_22 : iRow 232 22 = some (.istore_n 1, 0, 0, 0, (some (Jvm.ClassFile.FieldType.int))) := rfl
theorem i_232_23 : iRow 232 23 = some (.iload_n 1, 0, 0, 0, (some (Jvm.ClassFile.FieldType.int))) := rfl
theorem i_232_24 : iRow 232 24 = some (.bipush 20, 0, 0, 0, (some (Jvm.ClassFile.FieldType.int))) := rfl
theorem i_232_26 : iRow 232 26 = some (.if_icmp .gt 33, 0, 0, 0, (some (Jvm.ClassFile.FieldType.int))) := rfl
theorem i_232_29 : iRow 232 29 = some (.aload_n 0, 0, 0, 0, (some (Jvm.ClassFile.FieldType.int))) := rfl
theorem i_232_30 : iRow 232 30 = some (.iload_n 1, 0, 0, 0, (some (Jvm.ClassFile.FieldType.int))) := rfl
theorem i_232_31 : iRow 232 31 = some (.invokevirtual 432, 322, 233, 1, (some (Jvm.ClassFile.FieldType.int))) := rfl
theorem i_232_34 : iRow 232 34 = some (.aload_n 0, 0, 0, 0, (some (Jvm.ClassFile.FieldType.int))) := rfl
theorem i_232_35 : iRow 232 35 = some (.getfield 401, 193, 12, 29, (some (Jvm.ClassFile.FieldType.int))) := rfl
theorem i_232_38 : iRow 232 38 = some (.ifCond .eq 6, 0, 0, 0, (some (Jvm.ClassFile.FieldType.int))) := rfl
theorem i_232_41 : iRow 232 41 = some (.bipush (-2), 0, 0, 0, (some (Jvm.ClassFile.FieldType.int))) := rfl
theorem i_232_43 : iRow 232 43 = some (.ireturn, 0, 0, 0, (some (Jvm.ClassFile.FieldType.int))) := rfl
theorem i_232_44 : iRow 232 44 = some (.aload_n 0, 0, 0, 0, (some (Jvm.ClassFile.FieldType.int))) := rfl
theorem i_232_45 : iRow 232 45 = some (.getfield 374, 200, 12, 37, (some (Jvm.ClassFile.FieldType.int))) := rfl
theorem i_232_48 : iRow 232 48 = some (.ifCond .le 5, 0, 0, 0, (some (Jvm.ClassFile.FieldType.int))) := rfl
theorem i_232_51 : iRow 232 51 = some (.iload_n 1, 0, 0, 0, (some (Jvm.ClassFile.FieldType.int))) := rfl
theorem i_232_52 : iRow 232 52 = some (.ireturn, 0, 0, 0, (some (Jvm.ClassFile.FieldType.int))) := rfl
theorem i_232_53 : iRow 232 53 = some (.iinc 1 1, 0, 0, 0, (some (Jvm.ClassFile.FieldType.int))) := rfl
theorem i_232_56 : iRow 232 56 = some (.goto (-33), 0, 0, 0, (some (Jvm.ClassFile.FieldType.int))) := rfl
theorem i_232_59 : iRow 232 59 = some (.iconst (-1), 0, 0, 0, (some (Jvm.ClassFile.FieldType.int))) := rfl
theorem i_232_60 : iRow 232 60 = some (.ireturn, 0, 0, 0, (some (Jvm.ClassFile.FieldType.int))) := rfl
theorem i_260_0 : iRow 260 0 = some (.aload_n 0, 0, 0, 0, (some (Jvm.ClassFile.FieldType.int))) := rfl
theorem i_260_1 : iRow 260 1 = some (.iconst 0, 0, 0, 0, (some (Jvm.ClassFile.FieldType.int))) := rfl
theorem i_260_2 : iRow 260 2 = some (.putfield 3, 164, 12, 0, (some (Jvm.ClassFile.FieldType.int))) := rfl
theorem i_260_5 : iRow 260 5 = some (.aload_n 0, 0, 0, 0, (some (Jvm.ClassFile.FieldType.int))) := rfl
theorem i_260_6 : iRow 260 6 = some (.aload_n 0, 0, 0, 0, (some (Jvm.ClassFile.FieldType.int))) := rfl
theorem i_260_7 : iRow 260 7 = some (.iload_n 1, 0, 0, 0, (some (Jvm.ClassFile.FieldType.int))) := rfl
theorem i_260_8 : iRow 260 8 = some (.iload_n 2, 0, 0, 0, (some (Jvm.ClassFile.FieldType.int))) := rfl
theorem i_260_9 : iRow 260 9 = some (.invokevirtual 269, 299, 210, 1, (some (Jvm.ClassFile.FieldType.int))) := rfl
theorem i_260_12 : iRow 260 12 = some (.iconst 1, 0, 0, 0, (some (Jvm.ClassFile.FieldType.int))) := rfl
theorem i_260_13 : iRow 260 13 = some (.invokevirtual 235, 283, 194, 1, (some (Jvm.ClassFile.FieldType.int))) := rfl
theorem i_260_16 : iRow 260 16 = some (.ifCond .eq 5, 0, 0, 0, (some (Jvm.ClassFile.FieldType.int))) := rfl
theorem i_260_19 : iRow 260 19 = some (.iconst 0, 0, 0, 0, (some (Jvm.ClassFile.FieldType.int))) := rfl
theorem i_260_20 : iRow 260 20 = some (.ireturn, 0, 0, 0, (some (Jvm.ClassFile.FieldType.int))) := rfl
theorem i_260_21 : iRow 260 21 = some (.aload_n 0, 0, 0, 0, (some (Jvm.ClassFile.FieldType.int))) := rfl
theorem i_260_22 : iRow 260 22 = some (.invokevirtual 441, 319, 230, 1, (some (Jvm.ClassFile.FieldType.int))) := rfl
theorem i_260_25 : iRow 260 25 = some (.istore_n 3, 0, 0, 0, (some (Jvm.ClassFile.FieldType.int))) := rfl
theorem i_260_26 : iRow 260 26 = some (.iload_n 3, 0, 0, 0, (some (Jvm.ClassFile.FieldType.int))) := rfl
theorem i_260_27 : iRow 260 27 = some (.ifCond .ge 5, 0, 0, 0, (some (Jvm.ClassFile.FieldType.int))) := rfl
theorem i_260_30 : iRow 260 30 = some (.iload_n 3, 0, 0, 0, (some (Jvm.ClassFile.FieldType.int))) := rfl
theorem i_260_31 : iRow 260 31 = some (.ireturn, 0, 0, 0, (some (Jvm.ClassFile.FieldType.int))) := rfl
theorem i_260_32 : iRow 260 32 = some (.aload_n 0, 0, 0, 0, (some (Jvm.ClassFile.FieldType.int))) := rfl
theorem i_260_33 : iRow 260 33 = some (.iload_n 1, 0, 0, 0, (some (Jvm.ClassFile.FieldType.int))) := rfl
theorem i_260_34 : iRow 260 34 = some (.invokevirtual 444, 352, 261, 1, (some (Jvm.ClassFile.FieldType.int))) := rfl
theorem i_260_37 : iRow 260 37 = some (.aload_n 0, 0, 0, 0, (some (Jvm.ClassFile.FieldType.int))) := rfl
theorem i_260_38 : iRow 260 38 = some (.getfield 87, 209, 12, 46, (some (Jvm.ClassFile.FieldType.int))) := rfl
theorem i_260_41 : iRow 260 41 = some (.iload_n 2, 0, 0, 0, (some (Jvm.ClassFile.FieldType.int))) := rfl
theorem i_260_42 : iRow 260 42 = some (.iaload, 0, 0, 0, (some (Jvm.ClassFile.FieldType.int))) := rfl
theorem i_260_43 : iRow 260 43 = some (.ireturn, 0, 0, 0, (some (Jvm.ClassFile.FieldType.int))) := rfl
theorem i_261_0 : iRow 261 0 = some (.aload_n 0, 0, 0, 0, none) := rfl
theorem i_261_1 : iRow 261 1 = some (.invokevirtual 302, 306, 217, 1, none) := rfl
theorem i_261_4 : iRow 261 4 = some (.aload_n 0, 0, 0, 0, none) := rfl
theorem i_261_5 : iRow 261 5 = some (.iload_n 1, 0, 0, 0, none) := rfl
theorem i_261_6 : iRow 261 6 = some (.iconst 0, 0, 0, 0, none) := rfl
theorem i_261_7 : iRow 261 7 = some (.invokevirtual 356, 325, 236, 1, none) := rfl
theorem i_261_10 : iRow 261 10 = some (.iconst 0, 0, 0, 0, none) := rfl
theorem i_261_11 : iRow 261 11 = some (.istore_n 2, 0, 0, 0, none) := rfl
theorem i_261_12 : iRow 261 12 = some (.iload_n 2, 0, 0, 0, none) := rfl
theorem i_261_13 : iRow 261 13 = some (.aload_n 0, 0, 0, 0, none) := rfl
theorem i_261_14 : iRow 261 14 = some (.getfield 380, 204, 12, 41, none) := rfl
theorem i_261_17 : iRow 261 17 = some (.if_icmp .ge 64, 0, 0, 0, none) := rfl
theorem i_261_20 : iRow 261 20 = some (.aload_n 0, 0, 0, 0, none) := rfl
theorem i_261_21 : iRow 261 21 = some (.getfield 53, 185, 12, 21, none) := rfl
theorem i_261_24 : iRow 261 24 = some (.iload_n 2, 0, 0, 0, none) := rfl
theorem i_261_25 : iRow 261 25 = some (.aload_n 0, 0, 0, 0, none) := rfl
theorem i_261_26 : iRow 261 26 = some (.getfield 75, 201, 12, 38, none) := rfl
theorem i_261_29 : iRow 261 29 = some (.iload_n 2, 0, 0, 0, none) := rfl
theorem i_261_30 : iRow 261 30 = some (.iaload, 0, 0, 0, none) := rfl
theorem i_261_31 : iRow 261 31 = some (.iastore, 0, 0, 0, none) := rfl
theorem i_261_32 : iRow 261 32 = some (.aload_n 0, 0, 0, 0, none) := rfl
theorem i_261_33 : iRow 261 33 = some (.iload_n 2, 0, 0, 0, none) := rfl
theorem i_261_34 : iRow 261 34 = some (.aload_n 0, 0, 0, 0, none) := rfl
theorem i_261_35 : iRow 261 35 = some (.getfield 75, 201, 12, 38, none) := rfl
theorem i_261_38 : iRow 261 38 = some (.iload_n 2, 0, 0, 0, none) := rfl
theorem i_261_39 : iRow 261 39 = some (.iaload, 0, 0, 0, none) := rfl
theorem i_261_40 : iRow 261 40 = some (.invokevirtual 426, 344, 253, 1, none) := rfl
theorem i_261_43 : iRow 261 43 = some (.iconst 0, 0, 0, 0, none) := rfl
theorem i_261_44 : iRow 261 44 = some (.istore_n 3, 0, 0, 0, none) := rfl
theorem i_261_45 : iRow 261 45 = some (.iload_n 3, 0, 0, 0, none) := rfl
theorem i_261_46 : iRow 261 46 = some (.aload_n 0, 0, 0, 0, none) := rfl
theorem i_261_47 : iRow 261 47 = some (.iload_n 1, 0, 0, 0, none) := rfl
theorem i_261_48 : iRow 261 48 = some (.invokevirtual 251, 294, 205, 1, none) := rfl
theorem i_261_51 : iRow 261 51 = some (.if_icmp .ge 16, 0, 0, 0, none) := rfl
theorem i_261_54 : iRow 261 54 = some (.aload_n 0, 0, 0, 0, none) := rfl
theorem i_261_55 : iRow 261 55 = some (.iload_n 2, 0, 0, 0, none) := rfl
theorem i_261_56 : iRow 261 56 = some (.iload_n 1, 0, 0, 0, none) := rfl
theorem i_261_57 : iRow 261 57 = some (.iload_n 3, 0, 0, 0, none) := rfl
theorem i_261_58 : iRow 261 58 = some (.invokevirtual 429, 345, 254, 1, none) := rfl
theorem i_261_61 : iRow 261 61 = some (.iinc 3 1, 0, 0, 0, none) := rfl
theorem i_261_64 : iRow 261 64 = some (.goto (-19), 0, 0, 0, none) := rfl
theorem i_261_67 : iRow 261 67 = some (.aload_n 0, 0, 0, 0, none) := rfl
theorem i_261_68 : iRow 261 68 = some (.iload_n 1, 0, 0, 0, none) := rfl
theorem i_261_69 : iRow 261 69 = some (.iload_n 2, 0, 0, 0, none) := rfl
theorem i_261_70 : iRow 261 70 = some (.iconst 1, 0, 0, 0, none) := rfl
theorem i_261_71 : iRow 261 71 = some (.iadd, 0, 0, 0, none) := rfl
theorem i_261_72 : iRow 261 72 = some (.invokevirtual 356, 325, 236, 1, none) := rfl
theorem i_261_75 : iRow 261 75 = some (.iinc 2 1, 0, 0, 0, none) := rfl
theorem i_261_78 : iRow 261 78 = some (.goto (-66), 0, 0, 0, none) := rfl
theorem i_261_81 : iRow 261 81 = some (.aload_n 0, 0, 0, 0, none) := rfl
theorem i_261_82 : iRow 261 82 = some (.getfield 380, 204, 12, 41, none) := rfl
theorem i_261_85 : iRow 261 85 = some (.istore_n 2, 0, 0, 0, none) := rfl
theorem i_261_86 : iRow 261 86 = some (.aload_n 0, 0, 0, 0, none) := rfl
theorem i_261_87 : iRow 261 87 = some (.iload_n 1, 0, 0, 0, none) := rfl
theorem i_261_88 : iRow 261 88 = some (.invokevirtual 251, 294, 205, 1, none) := rfl
theorem i_261_91 : iRow 261 91 = some (.istore_n 3, 0, 0, 0, none) := rfl
theorem i_261_92 : iRow 261 92 = some (.iload_n 2, 0, 0, 0, none) := rfl
theorem i_261_93 : iRow 261 93 = some (.iload_n 3, 0, 0, 0, none) := rfl
theorem i_261_94 : iRow 261 94 = some (.iadd, 0, 0, 0, none) := rfl
theorem i_261_95 : iRow 261 95 = some (.ifCond .le 100, 0, 0, 0, none) := rfl
theorem i_261_98 : iRow 261 98 = some (.aload_n 0, 0, 0, 0, none) := rfl
theorem i_261_99 : iRow 261 99 = some (.getfield 62, 188, 12, 24, none) := rfl
theorem i_261_102 : iRow 261 102 = some (.iload_n 1, 0, 0, 0, none) := rfl
theorem i_261_103 : iRow 261 103 = some (.iload_n 2, 0, 0, 0, none) := rfl
theorem i_261_104 : iRow 261 104 = some (.iload_n 3, 0, 0, 0, none) := rfl
theorem i_261_105 : iRow 261 105 = some (.invokestatic 332, 327, 238, 0, none) := rfl
theorem i_261_108 : iRow 261 108 = some (.iaload, 0, 0, 0, none) := rfl
theorem i_261_109 : iRow 261 109 = some (.istore 4, 0, 0, 0, none) := rfl
theorem i_261_111 : iRow 261 111 = some (.iload 4, 0, 0, 0, none) := rfl
theorem i_261_113 : iRow 261 113 = some (.aload_n 0, 0, 0, 0, none) := rfl
theorem i_261_114 : iRow 261 114 = some (.iload_n 2, 0, 0, 0, none) := rfl
theorem i_261_115 : iRow 261 115 = some (.iload_n 3, 0, 0, 0, none) := rfl
theorem i_261_116 : iRow 261 116 = some (.iload_n 1, 0, 0, 0, none) := rfl
theorem i_261_117 : iRow 261 117 = some (.invokevirtual 338, 326, 237, 1, none) := rfl
theorem i_261_120 : iRow 261 120 = some (.if_icmp .ne 36, 0, 0, 0, none) := rfl
theorem i_261_123 : iRow 261 123 = some (.iinc 2 (-1), 0, 0, 0, none) := rfl
theorem i_261_126 : iRow 261 126 = some (.iinc 3 (-1), 0, 0, 0, none) := rfl
theorem i_261_129 : iRow 261 129 = some (.aload_n 0, 0, 0, 0, none) := rfl
theorem i_261_130 : iRow 261 130 = some (.getfield 87, 209, 12, 46, none) := rfl
theorem i_261_133 : iRow 261 133 = some (.iload_n 3, 0, 0, 0, none) := rfl
theorem i_261_134 : iRow 261 134 = some (.aload_n 0, 0, 0, 0, none) := rfl
theorem i_261_135 : iRow 261 135 = some (.getfield 59, 187, 12, 23, none) := rfl
theorem i_261_138 : iRow 261 138 = some (.iload_n 2, 0, 0, 0, none) := rfl
theorem i_261_139 : iRow 261 139 = some (.iload_n 1, 0, 0, 0, none) := rfl
theorem i_261_140 : iRow 261 140 = some (.iload_n 3, 0, 0, 0, none) := rfl
theorem i_261_141 : iRow 261 141 = some (.invokestatic 329, 328, 239, 0, none) := rfl
theorem i_261_144 : iRow 261 144 = some (.iaload, 0, 0, 0, none) := rfl
theorem i_261_145 : iRow 261 145 = some (.iastore, 0, 0, 0, none) := rfl
theorem i_261_146 : iRow 261 146 = some (.aload_n 0, 0, 0, 0, none) := rfl
theorem i_261_147 : iRow 261 147 = some (.getfield 90, 210, 12, 47, none) := rfl
theorem i_261_150 : iRow 261 150 = some (.iload_n 2, 0, 0, 0, none) := rfl
theorem i_261_151 : iRow 261 151 = some (.iload_n 3, 0, 0, 0, none) := rfl
theorem i_261_152 : iRow 261 152 = some (.iastore, 0, 0, 0, none) := rfl
theorem i_261_153 : iRow 261 153 = some (.goto 39, 0, 0, 0, none) := rfl
theorem i_261_156 : iRow 261 156 = some (.iload 4, 0, 0, 0, none) := rfl
theorem i_261_158 : iRow 261 158 = some (.aload_n 0, 0, 0, 0, none) := rfl
theorem i_261_159 : iRow 261 159 = some (.iload_n 2, 0, 0, 0, none) := rfl
theorem i_261_160 : iRow 261 160 = some (.iload_n 3, 0, 0, 0, none) := rfl
theorem i_261_161 : iRow 261 161 = some (.iload_n 1, 0, 0, 0, none) := rfl
theorem i_261_162 : iRow 261 162 = some (.invokevirtual 341, 329, 240, 1, none) := rfl
theorem i_261_165 : iRow 261 165 = some (.if_icmp .ne 16, 0, 0, 0, none) := rfl
theorem i_261_168 : iRow 261 168 = some (.iinc 2 (-1), 0, 0, 0, none) := rfl
theorem i_261_171 : iRow 261 171 = some (.aload_n 0, 0, 0, 0, none) := rfl
theorem i_261_172 : iRow 261 172 = some (.getfield 90, 210, 12, 47, none) := rfl
theorem i_261_175 : iRow 261 175 = some (.iload_n 2, 0, 0, 0, none) := rfl
theorem i_261_176 : iRow 261 176 = some (.iconst (-1), 0, 0, 0, none) := rfl
theorem i_261_177 : iRow 261 177 = some (.iastore, 0, 0, 0, none) := rfl
theorem i_261_178 : iRow 261 178 = some (.goto 14, 0, 0, 0, none) := rfl
theorem i_261_181 : iRow 261 181 = some (.iinc 3 (-1), 0, 0, 0, none) := rfl
theorem i_261_184 : iRow 261 184 = some (.aload_n 0, 0, 0, 0, none) := rfl
theorem i_261_185 : iRow 261 185 = some (.getfield 87, 209, 12, 46, none) := rfl
theorem i_261_188 : iRow 261 188 = some (.iload_n 3, 0, 0, 0, none) := rfl
theorem i_261_189 : iRow 261 189 = some (.bipush 7, 0, 0, 0, none) := rfl
theorem i_261_191 : iRow 261 191 = some (.iastore, 0, 0, 0, none) := rfl
theorem i_261_192 : iRow 261 192 = some (.goto (-100), 0, 0, 0, none) := rfl
theorem i_261_195 : iRow 261 195 = some (.return_, 0, 0, 0, none) := rfl
theorem i_262_0 : iRow 262 0 = some (.aload_n 0, 0, 0, 0, (some (Jvm.ClassFile.FieldType.int))) := rfl
theorem i_262_1 : iRow 262 1 = some (.iconst 0, 0, 0, 0, (some (Jvm.ClassFile.FieldType.int))) := rfl
theorem i_262_2 : iRow 262 2 = some (.putfield 3, 164, 12, 0, (some (Jvm.ClassFile.FieldType.int))) := rfl
theorem i_262_5 : iRow 262 5 = some (.aload_n 0, 0, 0, 0, (some (Jvm.ClassFile.FieldType.int))) := rfl
theorem i_262_6 : iRow 262 6 = some (.aload_n 0, 0, 0, 0, (some (Jvm.ClassFile.FieldType.int))) := rfl
theorem i_262_7 : iRow 262 7 = some (.iload_n 1, 0, 0, 0, (some (Jvm.ClassFile.FieldType.int))) := rfl
theorem i_262_8 : iRow 262 8 = some (.invokevirtual 259, 292, 203, 1, (some (Jvm.ClassFile.FieldType.int))) := rfl
theorem i_262_11 : iRow 262 11 = some (.ifCond .ne 13, 0, 0, 0, (some (Jvm.ClassFile.FieldType.int))) := rfl
theorem i_262_14 : iRow 262 14 = some (.iload_n 2, 0, 0, 0, (some (Jvm.ClassFile.FieldType.int))) := rfl
theorem i_262_15 : iRow 262 15 = some (.iconst 1, 0, 0, 0, (some (Jvm.ClassFile.FieldType.int))) := rfl
theorem i_262_16 : iRow 262 16 = some (.bipush 7, 0, 0, 0, (some (Jvm.ClassFile.FieldType.int))) := rfl
theorem i_262_18 : iRow 262 18 = some (.invokestatic 106, 282, 193, 0, (some (Jvm.ClassFile.FieldType.int))) := rfl
theorem i_262_21 : iRow 262 21 = some (.ifCond .ne 7, 0, 0, 0, (some (Jvm.ClassFile.FieldType.int))) := rfl
theorem i_262_24 : iRow 262 24 = some (.iconst 1, 0, 0, 0, (some (Jvm.ClassFile.FieldType.int))) := rfl
theorem i_262_25 : iRow 262 25 = some (.goto 4, 0, 0, 0, (some (Jvm.ClassFile.FieldType.int))) := rfl
theorem i_262_28 : iRow 262 28 = some (.iconst 0, 0, 0, 0, (some (Jvm.ClassFile.FieldType.int))) := rfl
theorem i_262_29 : iRow 262 29 = some (.iconst 1, 0, 0, 0, (some (Jvm.ClassFile.FieldType.int))) := rfl
theorem i_262_30 : iRow 262 30 = some (.invokevirtual 235, 283, 194, 1, (some (Jvm.ClassFile.FieldType.int))) := rfl
theorem i_262_33 : iRow 262 33 = some (.ifCond .eq 5, 0, 0, 0, (some (Jvm.ClassFile.FieldType.int))) := rfl
theorem i_262_36 : iRow 262 36 = some (.iconst 0, 0, 0, 0, (some (Jvm.ClassFile.FieldType.int))) := rfl
theorem i_262_37 : iRow 262 37 = some (.ireturn, 0, 0, 0, (some (Jvm.ClassFile.FieldType.int))) := rfl
theorem i_262_38 : iRow 262 38 = some (.aload_n 0, 0, 0, 0, (some (Jvm.ClassFile.FieldType.int))) := rfl
theorem i_262_39 : iRow 262 39 = some (.invokevirtual 441, 319, 230, 1, (some (Jvm.ClassFile.FieldType.int))) := rfl
theorem i_262_42 : iRow 262 42 = some (.istore_n 3, 0, 0, 0, (some (Jvm.ClassFile.FieldType.int))) := rfl
theorem i_262_43 : iRow 262 43 = some (.iload_n 3, 0, 0, 0, (some (Jvm.ClassFile.FieldType.int))) := rfl
theorem i_262_44 : iRow 262 44 = some (.ifCond .ge 5, 0, 0, 0, (some (Jvm.ClassFile.FieldType.int))) := rfl
theorem i_262_47 : iRow 262 47 = some (.iload_n 3, 0, 0, 0, (some (Jvm.ClassFile.FieldType.int))) := rfl
theorem i_262_48 : iRow 262 48 = some (.ireturn, 0, 0, 0, (some (Jvm.ClassFile.FieldType.int))) := rfl
theorem i_262_49 : iRow 262 49 = some (.aload_n 0, 0, 0, 0, (some (Jvm.ClassFile.FieldType.int))) := rfl
theorem i_262_50 : iRow 262 50 = some (.iload_n 1, 0, 0, 0, (some (Jvm.ClassFile.FieldType.int))) := rfl
theorem i_262_51 : iRow 262 51 = some (.invokevirtual 444, 352, 261, 1, (some (Jvm.ClassFile.FieldType.int))) := rfl
theorem i_262_54 : iRow 262 54 = some (.iconst 0, 0, 0, 0, (some (Jvm.ClassFile.FieldType.int))) := rfl
theorem i_262_55 : iRow 262 55 = some (.istore 4, 0, 0, 0, (some (Jvm.ClassFile.FieldType.int))) := rfl
theorem i_262_57 : iRow 262 57 = some (.iconst 0, 0, 0, 0, (some (Jvm.ClassFile.FieldType.int))) := rfl
theorem i_262_58 : iRow 262 58 = some (.istore 5, 0, 0, 0, (some (Jvm.ClassFile.FieldType.int))) := rfl
theorem i_262_60 : iRow 262 60 = some (.iload 5, 0, 0, 0, (some (Jvm.ClassFile.FieldType.int))) := rfl
theorem i_262_62 : iRow 262 62 = some (.aload_n 0, 0, 0, 0, (some (Jvm.ClassFile.FieldType.int))) := rfl
theorem i_262_63 : iRow 262 63 = some (.iload_n 1, 0, 0, 0, (some (Jvm.ClassFile.FieldType.int))) := rfl
theorem i_262_64 : iRow 262 64 = some (.invokevirtual 251, 294, 205, 1, (some (Jvm.ClassFile.FieldType.int))) := rfl
theorem i_262_67 : iRow 262 67 = some (.if_icmp .ge 30, 0, 0, 0, (some (Jvm.ClassFile.FieldType.int))) := rfl
theorem i_262_70 : iRow 262 70 = some (.iload 4, 0, 0, 0, (some (Jvm.ClassFile.FieldType.int))) := rfl
theorem i_262_72 : iRow 262 72 = some (.aload_n 0, 0, 0, 0, (some (Jvm.ClassFile.FieldType.int))) := rfl
theorem i_262_73 : iRow 262 73 = some (.getfield 87, 209, 12, 46, (some (Jvm.ClassFile.FieldType.int))) := rfl
theorem i_262_76 : iRow 262 76 = some (.iload 5, 0, 0, 0, (some (Jvm.ClassFile.FieldType.int))) := rfl
theorem i_262_78 : iRow 262 78 = some (.iaload, 0, 0, 0, (some (Jvm.ClassFile.FieldType.int))) := rfl
theorem i_262_79 : iRow 262 79 = some (.iload_n 2, 0, 0, 0, (some (Jvm.ClassFile.FieldType.int))) := rfl
theorem i_262_80 : iRow 262 80 = some (.if_icmp .ne 7, 0, 0, 0, (some (Jvm.ClassFile.FieldType.int))) := rfl
theorem i_262_83 : iRow 262 83 = some (.iconst 1, 0, 0, 0, (some (Jvm.ClassFile.FieldType.int))) := rfl
theorem i_262_84 : iRow 262 84 = some (.goto 4, 0, 0, 0, (some (Jvm.ClassFile.FieldType.int))) := rfl
theorem i_262_87 : iRow 262 87 = some (.iconst 0, 0, 0, 0, (some (Jvm.ClassFile.FieldType.int))) := rfl
theorem i_262_88 : iRow 262 88 = some (.iadd, 0, 0, 0, (some (Jvm.ClassFile.FieldType.int))) := rfl
theorem i_262_89 : iRow 262 89 = some (.istore 4, 0, 0, 0, (some (Jvm.ClassFile.FieldType.int))) := rfl
theorem i_262_91 : iRow 262 91 = some (.iinc 5 1, 0, 0, 0, (some (Jvm.ClassFile.FieldType.int))) := rfl
theorem i_262_94 : iRow 262 94 = some (.goto (-34), 0, 0, 0, (some (Jvm.ClassFile.FieldType.int))) := rfl
theorem i_262_97 : iRow 262 97 = some (.iconst 0, 0, 0, 0, (some (Jvm.ClassFile.FieldType.int))) := rfl
theorem i_262_98 : iRow 262 98 = some (.istore 5, 0, 0, 0, (some (Jvm.ClassFile.FieldType.int))) := rfl
theorem i_262_100 : iRow 262 100 = some (.iload 5, 0, 0, 0, (some (Jvm.ClassFile.FieldType.int))) := rfl
theorem i_262_102 : iRow 262 102 = some (.aload_n 0, 0, 0, 0, (some (Jvm.ClassFile.FieldType.int))) := rfl
theorem i_262_103 : iRow 262 103 = some (.getfield 380, 204, 12, 41, (some (Jvm.ClassFile.FieldType.int))) := rfl
theorem i_262_106 : iRow 262 106 = some (.if_icmp .ge 35, 0, 0, 0, (some (Jvm.ClassFile.FieldType.int))) := rfl
theorem i_262_109 : iRow 262 109 = some (.iload_n 2, 0, 0, 0, (some (Jvm.ClassFile.FieldType.int))) := rfl
theorem i_262_110 : iRow 262 110 = some (.bipush 6, 0, 0, 0, (some (Jvm.ClassFile.FieldType.int))) := rfl
theorem i_262_112 : iRow 262 112 = some (.if_icmp .ne 29, 0, 0, 0, (some (Jvm.ClassFile.FieldType.int))) := rfl
theorem i_262_115 : iRow 262 115 = some (.iload 4, 0, 0, 0, (some (Jvm.ClassFile.FieldType.int))) := rfl
theorem i_262_117 : iRow 262 117 = some (.aload_n 0, 0, 0, 0, (some (Jvm.ClassFile.FieldType.int))) := rfl
theorem i_262_118 : iRow 262 118 = some (.getfield 90, 210, 12, 47, (some (Jvm.ClassFile.FieldType.int))) := rfl
theorem i_262_121 : iRow 262 121 = some (.iload 5, 0, 0, 0, (some (Jvm.ClassFile.FieldType.int))) := rfl
theorem i_262_123 : iRow 262 123 = some (.iaload, 0, 0, 0, (some (Jvm.ClassFile.FieldType.int))) := rfl
theorem i_262_124 : iRow 262 124 = some (.ifCond .ge 7, 0, 0, 0, (some (Jvm.ClassFile.FieldType.int))) := rfl
theorem i_262_127 : iRow 262 127 = some (.iconst 1, 0, 0, 0, (some (Jvm.ClassFile.FieldType.int))) := rfl
theorem i_262_128 : iRow 262 128 = some (.goto 4, 0, 0, 0, (some (Jvm.ClassFile.FieldType.int))) := rfl
theorem i_262_131 : iRow 262 131 = some (.iconst 0, 0, 0, 0, (some (Jvm.ClassFile.FieldType.int))) := rfl
theorem i_262_132 : iRow 262 132 = some (.iadd, 0, 0, 0, (some (Jvm.ClassFile.FieldType.int))) := rfl
theorem i_262_133 : iRow 262 133 = some (.istore 4, 0, 0, 0, (some (Jvm.ClassFile.FieldType.int))) := rfl
theorem i_262_135 : iRow 262 135 = some (.iinc 5 1, 0, 0, 0, (some (Jvm.ClassFile.FieldType.int))) := rfl
theorem i_262_138 : iRow 262 138 = some (.goto (-38), 0, 0, 0, (some (Jvm.ClassFile.FieldType.int))) := rfl
theorem i_262_141 : iRow 262 141 = some (.iload 4, 0, 0, 0, (some (Jvm.ClassFile.FieldType.int))) := rfl
theorem i_262_143 : iRow 262 143 = some (.ireturn, 0, 0, 0, (some (Jvm.ClassFile.FieldType.int))) := rfl
theorem i_267_0 : iRow 267 0 = some (.aload_n 0, 0, 0, 0, (some (Jvm.ClassFile.FieldType.long))) := rfl
theorem i_267_1 : iRow 267 1 = some (.iconst 0, 0, 0, 0, (some (Jvm.ClassFile.FieldType.long))) := rfl
theorem i_267_2 : iRow 267 2 = some (.putfield 3, 164, 12, 0, (some (Jvm.ClassFile.FieldType.long))) := rfl
theorem i_267_5 : iRow 267 5 = some (.aload_n 0, 0, 0, 0, (some (Jvm.ClassFile.FieldType.long))) := rfl
theorem i_267_6 : iRow 267 6 = some (.iload_n 1, 0, 0, 0, (some (Jvm.ClassFile.FieldType.long))) := rfl
theorem i_267_7 : iRow 267 7 = some (.ifCond .lt 12, 0, 0, 0, (some (Jvm.ClassFile.FieldType.long))) := rfl
theorem i_267_10 : iRow 267 10 = some (.iload_n 2, 0, 0, 0, (some (Jvm.ClassFile.FieldType.long))) := rfl
theorem i_267_11 : iRow 267 11 = some (.iconst 0, 0, 0, 0, (some (Jvm.ClassFile.FieldType.long))) := rfl
theorem i_267_12 : iRow 267 12 = some (.iconst 2, 0, 0, 0, (some (Jvm.ClassFile.FieldType.long))) := rfl
theorem i_267_13 : iRow 267 13 = some (.invokestatic 106, 282, 193, 0, (some (Jvm.ClassFile.FieldType.long))) := rfl
theorem i_267_16 : iRow 267 16 = some (.ifCond .ne 7, 0, 0, 0, (some (Jvm.ClassFile.FieldType.long))) := rfl
theorem i_267_19 : iRow 267 19 = some (.iconst 1, 0, 0, 0, (some (Jvm.ClassFile.FieldType.long))) := rfl
theorem i_267_20 : iRow 267 20 = some (.goto 4, 0, 0, 0, (some (Jvm.ClassFile.FieldType.long))) := rfl
theorem i_267_23 : iRow 267 23 = some (.iconst 0, 0, 0, 0, (some (Jvm.ClassFile.FieldType.long))) := rfl
theorem i_267_24 : iRow 267 24 = some (.iconst 1, 0, 0, 0, (some (Jvm.ClassFile.FieldType.long))) := rfl
theorem i_267_25 : iRow 267 25 = some (.invokevirtual 235, 283, 194, 1, (some (Jvm.ClassFile.FieldType.long))) := rfl
theorem i_267_28 : iRow 267 28 = some (.ifCond .eq 5, 0, 0, 0, (some (Jvm.ClassFile.FieldType.long))) := rfl
theorem i_267_31 : iRow 267 31 = some (.lconst 0, 0, 0, 0, (some (Jvm.ClassFile.FieldType.long))) := rfl
theorem i_267_32 : iRow 267 32 = some (.lreturn, 0, 0, 0, (some (Jvm.ClassFile.FieldType.long))) := rfl
theorem i_267_33 : iRow 267 33 = some (.aload_n 0, 0, 0, 0, (some (Jvm.ClassFile.FieldType.long))) := rfl
theorem i_267_34 : iRow 267 34 = some (.invokevirtual 441, 319, 230, 1, (some (Jvm.ClassFile.FieldType.long))) := rfl
theorem i_267_37 : iRow 267 37 = some (.istore 4, 0, 0, 0, (some (Jvm.ClassFile.FieldType.long))) := rfl
theorem i_267_39 : iRow 267 39 = some (.iload 4, 0, 0, 0, (some (Jvm.ClassFile.FieldType.long))) := rfl
theorem i_267_41 : iRow 267 41 = some (.ifCond .ge 7, 0, 0, 0, (some (Jvm.ClassFile.FieldType.long))) := rfl
theorem i_267_44 : iRow 267 44 = some (.iload 4, 0, 0, 0, (some (Jvm.ClassFile.FieldType.long))) := rfl
theorem i_267_46 : iRow 267 46 = some (.i2l, 0, 0, 0, (some (Jvm.ClassFile.FieldType.long))) := rfl
theorem i_267_47 : iRow 267 47 = some (.lreturn, 0, 0, 0, (some (Jvm.ClassFile.FieldType.long))) := rfl
theorem i_267_48 : iRow 267 48 = some (.aload_n 0, 0, 0, 0, (some (Jvm.ClassFile.FieldType.long))) := rfl
theorem i_267_49 : iRow 267 49 = some (.iload_n 1, 0, 0, 0, (some (Jvm.ClassFile.FieldType.long))) := rfl
theorem i_267_50 : iRow 267 50 = some (.putfield 368, 198, 12, 35, (some (Jvm.ClassFile.FieldType.long))) := rfl
theorem i_267_53 : iRow 267 53 = some (.aload_n 0, 0, 0, 0, (some (Jvm.ClassFile.FieldType.long))) := rfl
theorem i_267_54 : iRow 267 54 = some (.iload_n 1, 0, 0, 0, (some (Jvm.ClassFile.FieldType.long))) := rfl
theorem i_267_55 : iRow 267 55 = some (.aload_n 0, 0, 0, 0, (some (Jvm.ClassFile.FieldType.long))) := rfl
theorem i_267_56 : iRow 267 56 = some (.getfield 380, 204, 12, 41, (some (Jvm.ClassFile.FieldType.long))) := rfl
theorem i_267_59 : iRow 267 59 = some (.if_icmp .ge 12, 0, 0, 0, (some (Jvm.ClassFile.FieldType.long))) := rfl
theorem i_267_62 : iRow 267 62 = some (.aload_n 0, 0, 0, 0, (some (Jvm.ClassFile.FieldType.long))) := rfl
theorem i_267_63 : iRow 267 63 = some (.getfield 75, 201, 12, 38, (some (Jvm.ClassFile.FieldType.long))) := rfl
theorem i_267_66 : iRow 267 66 = some (.iload_n 1, 0, 0, 0, (some (Jvm.ClassFile.FieldType.long))) := rfl
theorem i_267_67 : iRow 267 67 = some (.iaload, 0, 0, 0, (some (Jvm.ClassFile.FieldType.long))) := rfl
theorem i_267_68 : iRow 267 68 = some (.goto 4, 0, 0, 0, (some (Jvm.ClassFile.FieldType.long))) := rfl
theorem i_267_71 : iRow 267 71 = some (.iconst (-1), 0, 0, 0, (some (Jvm.ClassFile.FieldType.long))) := rfl
theorem i_267_72 : iRow 267 72 = some (.putfield 371, 199, 12, 36, (some (Jvm.ClassFile.FieldType.long))) := rfl
theorem i_267_75 : iRow 267 75 = some (.iload_n 2, 0, 0, 0, (some (Jvm.ClassFile.FieldType.long))) := rfl
theorem i_267_76 : iRow 267 76 = some (.ifCond .ne 8, 0, 0, 0, (some (Jvm.ClassFile.FieldType.long))) := rfl
theorem i_267_79 : iRow 267 79 = some (.aload_n 0, 0, 0, 0, (some (Jvm.ClassFile.FieldType.long))) := rfl
theorem i_267_80 : iRow 267 80 = some (.iconst 0, 0, 0, 0, (some (Jvm.ClassFile.FieldType.long))) := rfl
theorem i_267_81 : iRow 267 81 = some (.putfield 398, 191, 12, 27, (some (Jvm.ClassFile.FieldType.long))) := rfl
theorem i_267_84 : iRow 267 84 = some (.iload_n 2, 0, 0, 0, (some (Jvm.ClassFile.FieldType.long))) := rfl
theorem i_267_85 : iRow 267 85 = some (.ifCond .ne 8, 0, 0, 0, (some (Jvm.ClassFile.FieldType.long))) := rfl
theorem i_267_88 : iRow 267 88 = some (.iload 4, 0, 0, 0, (some (Jvm.ClassFile.FieldType.long))) := rfl
theorem i_267_90 : iRow 267 90 = some (.goto 7, 0, 0, 0, (some (Jvm.ClassFile.FieldType.long))) := rfl
theorem i_267_93 : iRow 267 93 = some (.iload 4, 0, 0, 0, (some (Jvm.ClassFile.FieldType.long))) := rfl
theorem i_267_95 : iRow 267 95 = some (.iconst 1, 0, 0, 0, (some (Jvm.ClassFile.FieldType.long))) := rfl
theorem i_267_96 : iRow 267 96 = some (.iadd, 0, 0, 0, (some (Jvm.ClassFile.FieldType.long))) := rfl
theorem i_267_97 : iRow 267 97 = some (.istore 5, 0, 0, 0, (some (Jvm.ClassFile.FieldType.long))) := rfl
theorem i_267_99 : iRow 267 99 = some (.iload 5, 0, 0, 0, (some (Jvm.ClassFile.FieldType.long))) := rfl
theorem i_267_101 : iRow 267 101 = some (.iload 4, 0, 0, 0, (some (Jvm.ClassFile.FieldType.long))) := rfl
theorem i_267_103 : iRow 267 103 = some (.iload_n 2, 0, 0, 0, (some (Jvm.ClassFile.FieldType.long))) := rfl
theorem i_267_104 : iRow 267 104 = some (.iadd, 0, 0, 0, (some (Jvm.ClassFile.FieldType.long))) := rfl
theorem i_267_105 : iRow 267 105 = some (.if_icmp .gt 26, 0, 0, 0, (some (Jvm.ClassFile.FieldType.long))) := rfl
theorem i_267_108 : iRow 267 108 = some (.aload_n 0, 0, 0, 0, (some (Jvm.ClassFile.FieldType.long))) := rfl
theorem i_267_109 : iRow 267 109 = some (.iload 5, 0, 0, 0, (some (Jvm.ClassFile.FieldType.long))) := rfl
theorem i_267_111 : iRow 267 111 = some (.invokevirtual 432, 322, 233, 1, (some (Jvm.ClassFile.FieldType.long))) := rfl
theorem i_267_114 : iRow 267 114 = some (.aload_n 0, 0, 0, 0, (some (Jvm.ClassFile.FieldType.long))) := rfl
theorem i_267_115 : iRow 267 115 = some (.getfield 401, 193, 12, 29, (some (Jvm.ClassFile.FieldType.long))) := rfl
theorem i_267_118 : iRow 267 118 = some (.ifCond .eq 7, 0, 0, 0, (some (Jvm.ClassFile.FieldType.long))) := rfl
theorem i_267_121 : iRow 267 121 = some (.ldc2_w 447, 6, 0, 0, (some (Jvm.ClassFile.FieldType.long))) := rfl
theorem i_267_124 : iRow 267 124 = some (.lreturn, 0, 0, 0, (some (Jvm.ClassFile.FieldType.long))) := rfl
theorem i_267_125 : iRow 267 125 = some (.iinc 5 1, 0, 0, 0, (some (Jvm.ClassFile.FieldType.long))) := rfl
theorem i_267_128 : iRow 267 128 = some (.goto (-29), 0, 0, 0, (some (Jvm.ClassFile.FieldType.long))) := rfl
theorem i_267_131 : iRow 267 131 = some (.aload_n 0, 0, 0, 0, (some (Jvm.ClassFile.FieldType.long))) := rfl
theorem i_267_132 : iRow 267 132 = some (.getfield 371, 199, 12, 36, (some (Jvm.ClassFile.FieldType.long))) := rfl
theorem i_267_135 : iRow 267 135 = some (.ifCond .ge 7, 0, 0, 0, (some (Jvm.ClassFile.FieldType.long))) := rfl
theorem i_267_138 : iRow 267 138 = some (.ldc2_w 449, 7, 0, 0, (some (Jvm.ClassFile.FieldType.long))) := rfl
theorem i_267_141 : iRow 267 141 = some (.lreturn, 0, 0, 0, (some (Jvm.ClassFile.FieldType.long))) := rfl
theorem i_267_142 : iRow 267 142 = some (.lconst 0, 0, 0, 0, (some (Jvm.ClassFile.FieldType.long))) := rfl
theorem i_267_143 : iRow 267 143 = some (.lstore 5, 0, 0, 0, (some (Jvm.ClassFile.FieldType.long))) := rfl
theorem i_267_145 : iRow 267 145 = some (.lconst 0, 0, 0, 0, (some (Jvm.ClassFile.FieldType.long))) := rfl
theorem i_267_146 : iRow 267 146 = some (.lstore 7, 0, 0, 0, (some (Jvm.ClassFile.FieldType.long))) := rfl
theorem i_267_148 : iRow 267 148 = some (.iload 4, 0, 0, 0, (some (Jvm.ClassFile.FieldType.long))) := rfl
theorem i_267_150 : iRow 267 150 = some (.istore 9, 0, 0, 0, (some (Jvm.ClassFile.FieldType.long))) := rfl
theorem i_267_152 : iRow 267 152 = some (.iload 9, 0, 0, 0, (some (Jvm.ClassFile.FieldType.long))) := rfl
theorem i_267_154 : iRow 267 154 = some (.iload 4, 0, 0, 0, (some (Jvm.ClassFile.FieldType.long))) := rfl
theorem i_267_156 : iRow 267 156 = some (.iload_n 2, 0, 0, 0, (some (Jvm.ClassFile.FieldType.long))) := rfl
theorem i_267_157 : iRow 267 157 = some (.iadd, 0, 0, 0, (some (Jvm.ClassFile.FieldType.long))) := rfl
theorem i_267_158 : iRow 267 158 = some (.if_icmp .gt 52, 0, 0, 0, (some (Jvm.ClassFile.FieldType.long))) := rfl
theorem i_267_161 : iRow 267 161 = some (.lconst 1, 0, 0, 0, (some (Jvm.ClassFile.FieldType.long))) := rfl
theorem i_267_162 : iRow 267 162 = some (.iconst 2, 0, 0, 0, (some (Jvm.ClassFile.FieldType.long))) := rfl
theorem i_267_163 : iRow 267 163 = some (.iload 4, 0, 0, 0, (some (Jvm.ClassFile.FieldType.long))) := rfl
theorem i_267_165 : iRow 267 165 = some (.iload_n 2, 0, 0, 0, (some (Jvm.ClassFile.FieldType.long))) := rfl
theorem i_267_166 : iRow 267 166 = some (.iadd, 0, 0, 0, (some (Jvm.ClassFile.FieldType.long))) := rfl
theorem i_267_167 : iRow 267 167 = some (.iload 9, 0, 0, 0, (some (Jvm.ClassFile.FieldType.long))) := rfl
theorem i_267_169 : iRow 267 169 = some (.isub, 0, 0, 0, (some (Jvm.ClassFile.FieldType.long))) := rfl
theorem i_267_170 : iRow 267 170 = some (.imul, 0, 0, 0, (some (Jvm.ClassFile.FieldType.long))) := rfl
theorem i_267_171 : iRow 267 171 = some (.lshl, 0, 0, 0, (some (Jvm.ClassFile.FieldType.long))) := rfl
theorem i_267_172 : iRow 267 172 = some (.lstore 10, 0, 0, 0, (some (Jvm.ClassFile.FieldType.long))) := rfl
theorem i_267_174 : iRow 267 174 = some (.lload 5, 0, 0, 0, (some (Jvm.ClassFile.FieldType.long))) := rfl
theorem i_267_176 : iRow 267 176 = some (.lload 10, 0, 0, 0, (some (Jvm.ClassFile.FieldType.long))) := rfl
theorem i_267_178 : iRow 267 178 = some (.aload_n 0, 0, 0, 0, (some (Jvm.ClassFile.FieldType.long))) := rfl
theorem i_267_179 : iRow 267 179 = some (.getfield 72, 197, 12, 34, (some (Jvm.ClassFile.FieldType.long))) := rfl
theorem i_267_182 : iRow 267 182 = some (.iload 9, 0, 0, 0, (some (Jvm.ClassFile.FieldType.long))) := rfl
theorem i_267_184 : iRow 267 184 = some (.laload, 0, 0, 0, (some (Jvm.ClassFile.FieldType.long))) := rfl
theorem i_267_185 : iRow 267 185 = some (.lmul, 0, 0, 0, (some (Jvm.ClassFile.FieldType.long))) := rfl
theorem i_267_186 : iRow 267 186 = some (.ladd, 0, 0, 0, (some (Jvm.ClassFile.FieldType.long))) := rfl
theorem i_267_187 : iRow 267 187 = some (.lstore 5, 0, 0, 0, (some (Jvm.ClassFile.FieldType.long))) := rfl
theorem i_267_189 : iRow 267 189 = some (.lload 7, 0, 0, 0, (some (Jvm.ClassFile.FieldType.long))) := rfl
theorem i_267_191 : iRow 267 191 = some (.lload 10, 0, 0, 0, (some (Jvm.ClassFile.FieldType.long))) := rfl
theorem i_267_193 : iRow 267 193 = some (.aload_n 0, 0, 0, 0, (some (Jvm.ClassFile.FieldType.long))) := rfl
theorem i_267_194 : iRow 267 194 = some (.getfield 68, 196, 12, 33, (some (Jvm.ClassFile.FieldType.long))) := rfl
theorem i_267_197 : iRow 267 197 = some (.iload 9, 0, 0, 0, (some (Jvm.ClassFile.FieldType.long))) := rfl
theorem i_267_199 : iRow 267 199 = some (.laload, 0, 0, 0, (some (Jvm.ClassFile.FieldType.long))) := rfl
theorem i_267_200 : iRow 267 200 = some (.lmul, 0, 0, 0, (some (Jvm.ClassFile.FieldType.long))) := rfl
theorem i_267_201 : iRow 267 201 = some (.ladd, 0, 0, 0, (some (Jvm.ClassFile.FieldType.long))) := rfl
theorem i_267_202 : iRow 267 202 = some (.lstore 7, 0, 0, 0, (some (Jvm.ClassFile.FieldType.long))) := rfl
theorem i_267_204 : iRow 267 204 = some (.iinc 9 1, 0, 0, 0, (some (Jvm.ClassFile.FieldType.long))) := rfl
theorem i_267_207 : iRow 267 207 = some (.goto (-55), 0, 0, 0, (some (Jvm.ClassFile.FieldType.long))) := rfl
theorem i_267_210 : iRow 267 210 = some (.lload 5, 0, 0, 0, (some (Jvm.ClassFile.FieldType.long))) := rfl
theorem i_267_212 : iRow 267 212 = some (.lload 7, 0, 0, 0, (some (Jvm.ClassFile.FieldType.long))) := rfl
theorem i_267_214 : iRow 267 214 = some (.invokestatic 451, 359, 268, 0, (some (Jvm.ClassFile.FieldType.long))) := rfl
theorem i_267_217 : iRow 267 217 = some (.lstore 9, 0, 0, 0, (some (Jvm.ClassFile.FieldType.long))) := rfl
theorem i_267_219 : iRow 267 219 = some (.iload_n 3, 0, 0, 0, (some (Jvm.ClassFile.FieldType.long))) := rfl
theorem i_267_220 : iRow 267 220 = some (.ifCond .eq 11, 0, 0, 0, (some (Jvm.ClassFile.FieldType.long))) := rfl
theorem i_267_223 : iRow 267 223 = some (.lload 7, 0, 0, 0, (some (Jvm.ClassFile.FieldType.long))) := rfl
theorem i_267_225 : iRow 267 225 = some (.lload 9, 0, 0, 0, (some (Jvm.ClassFile.FieldType.long))) := rfl
theorem i_267_227 : iRow 267 227 = some (.ldiv, 0, 0, 0, (some (Jvm.ClassFile.FieldType.long))) := rfl
theorem i_267_228 : iRow 267 228 = some (.goto 8, 0, 0, 0, (some (Jvm.ClassFile.FieldType.long))) := rfl
theorem i_267_231 : iRow 267 231 = some (.lload 5, 0, 0, 0, (some (Jvm.ClassFile.FieldType.long))) := rfl
theorem i_267_233 : iRow 267 233 = some (.lload 9, 0, 0, 0, (some (Jvm.ClassFile.FieldType.long))) := rfl
theorem i_267_235 : iRow 267 235 = some (.ldiv, 0, 0, 0, (some (Jvm.ClassFile.FieldType.long))) := rfl
theorem i_267_236 : iRow 267 236 = some (.lreturn, 0, 0, 0, (some (Jvm.ClassFile.FieldType.long))) := rfl
theorem i_268_0 : iRow 268 0 = some (.lload_n 0, 0, 0, 0, (some (Jvm.ClassFile.FieldType.long))) := rfl
theorem i_268_1 : iRow 268 1 = some (.lstore 4, 0, 0, 0, (some (Jvm.ClassFile.FieldType.long))) := rfl
theorem i_268_3 : iRow 268 3 = some (.lload_n 2, 0, 0, 0, (some (Jvm.ClassFile.FieldType.long))) := rfl
theorem i_268_4 : iRow 268 4 = some (.lstore 6, 0, 0, 0, (some (Jvm.ClassFile.FieldType.long))) := rfl
theorem i_268_6 : iRow 268 6 = some (.lload 6, 0, 0, 0, (some (Jvm.ClassFile.FieldType.long))) := rfl
theorem i_268_8 : iRow 268 8 = some (.lconst 0, 0, 0, 0, (some (Jvm.ClassFile.FieldType.long))) := rfl
theorem i_268_9 : iRow 268 9 = some (.lcmp, 0, 0, 0, (some (Jvm.ClassFile.FieldType.long))) := rfl
theorem i_268_10 : iRow 268 10 = some (.ifCond .le 21, 0, 0, 0, (some (Jvm.ClassFile.FieldType.long))) := rfl
theorem i_268_13 : iRow 268 13 = some (.lload 4, 0, 0, 0, (some (Jvm.ClassFile.FieldType.long))) := rfl
theorem i_268_15 : iRow 268 15 = some (.lload 6, 0, 0, 0, (some (Jvm.ClassFile.FieldType.long))) := rfl
theorem i_268_17 : iRow 268 17 = some (.lrem, 0, 0, 0, (some (Jvm.ClassFile.FieldType.long))) := rfl
theorem i_268_18 : iRow 268 18 = some (.lstore 8, 0, 0, 0, (some (Jvm.ClassFile.FieldType.long))) := rfl
theorem i_268_20 : iRow 268 20 = some (.lload 6, 0, 0, 0, (some (Jvm.ClassFile.FieldType.long))) := rfl
theorem i_268_22 : iRow 268 22 = some (.lstore 4, 0, 0, 0, (some (Jvm.ClassFile.FieldType.long))) := rfl
theorem i_268_24 : iRow 268 24 = some (.lload 8, 0, 0, 0, (some (Jvm.ClassFile.FieldType.long))) := rfl
theorem i_268_26 : iRow 268 26 = some (.lstore 6, 0, 0, 0, (some (Jvm.ClassFile.FieldType.long))) := rfl
theorem i_268_28 : iRow 268 28 = some (.goto (-22), 0, 0, 0, (some (Jvm.ClassFile.FieldType.long))) := rfl
theorem i_268_31 : iRow 268 31 = some (.lload 4, 0, 0, 0, (some (Jvm.ClassFile.FieldType.long))) := rfl
theorem i_268_33 : iRow 268 33 = some (.lreturn, 0, 0, 0, (some (Jvm.ClassFile.FieldType.long))) := rfl
theorem i_269_0 : iRow 269 0 = some (.aload_n 0, 0, 0, 0, (some (Jvm.ClassFile.FieldType.int))) := rfl
theorem i_269_1 : iRow 269 1 = some (.iconst 0, 0, 0, 0, (some (Jvm.ClassFile.FieldType.int))) := rfl
theorem i_269_2 : iRow 269 2 = some (.putfield 3, 164, 12, 0, (some (Jvm.ClassFile.FieldType.int))) := rfl
theorem i_269_5 : iRow 269 5 = some (.aload_n 0, 0, 0, 0, (some (Jvm.ClassFile.FieldType.int))) := rfl
theorem i_269_6 : iRow 269 6 = some (.aload_n 0, 0, 0, 0, (some (Jvm.ClassFile.FieldType.int))) := rfl
theorem i_269_7 : iRow 269 7 = some (.iload_n 1, 0, 0, 0, (some (Jvm.ClassFile.FieldType.int))) := rfl
theorem i_269_8 : iRow 269 8 = some (.invokevirtual 259, 292, 203, 1, (some (Jvm.ClassFile.FieldType.int))) := rfl
theorem i_269_11 : iRow 269 11 = some (.ifCond .ne 11, 0, 0, 0, (some (Jvm.ClassFile.FieldType.int))) := rfl
theorem i_269_14 : iRow 269 14 = some (.aload_n 0, 0, 0, 0, (some (Jvm.ClassFile.FieldType.int))) := rfl
theorem i_269_15 : iRow 269 15 = some (.iload_n 2, 0, 0, 0, (some (Jvm.ClassFile.FieldType.int))) := rfl
theorem i_269_16 : iRow 269 16 = some (.invokevirtual 259, 292, 203, 1, (some (Jvm.ClassFile.FieldType.int))) := rfl
theorem i_269_19 : iRow 269 19 = some (.ifCond .eq 7, 0, 0, 0, (some (Jvm.ClassFile.FieldType.int))) := rfl
theorem i_269_22 : iRow 269 22 = some (.iconst 1, 0, 0, 0, (some (Jvm.ClassFile.FieldType.int))) := rfl
theorem i_269_23 : iRow 269 23 = some (.goto 4, 0, 0, 0, (some (Jvm.ClassFile.FieldType.int))) := rfl
theorem i_269_26 : iRow 269 26 = some (.iconst 0, 0, 0, 0, (some (Jvm.ClassFile.FieldType.int))) := rfl
theorem i_269_27 : iRow 269 27 = some (.iconst 1, 0, 0, 0, (some (Jvm.ClassFile.FieldType.int))) := rfl
theorem i_269_28 : iRow 269 28 = some (.invokevirtual 235, 283, 194, 1, (some (Jvm.ClassFile.FieldType.int))) := rfl
theorem i_269_31 : iRow 269 31 = some (.ifCond .eq 5, 0, 0, 0, (some (Jvm.ClassFile.FieldType.int))) := rfl
theorem i_269_34 : iRow 269 34 = some (.iconst 0, 0, 0, 0, (some (Jvm.ClassFile.FieldType.int))) := rfl
theorem i_269_35 : iRow 269 35 = some (.ireturn, 0, 0, 0, (some (Jvm.ClassFile.FieldType.int))) := rfl
theorem i_269_36 : iRow 269 36 = some (.aload_n 0, 0, 0, 0, (some (Jvm.ClassFile.FieldType.int))) := rfl
theorem i_269_37 : iRow 269 37 = some (.invokevirtual 441, 319, 230, 1, (some (Jvm.ClassFile.FieldType.int))) := rfl
theorem i_269_40 : iRow 269 40 = some (.istore 4, 0, 0, 0, (some (Jvm.ClassFile.FieldType.int))) := rfl
theorem i_269_42 : iRow 269 42 = some (.iload 4, 0, 0, 0, (some (Jvm.ClassFile.FieldType.int))) := rfl
theorem i_269_44 : iRow 269 44 = some (.ifCond .ge 6, 0, 0, 0, (some (Jvm.ClassFile.FieldType.int))) := rfl
theorem i_269_47 : iRow 269 47 = some (.iload 4, 0, 0, 0, (some (Jvm.ClassFile.FieldType.int))) := rfl
theorem i_269_49 : iRow 269 49 = some (.ireturn, 0, 0, 0, (some (Jvm.ClassFile.FieldType.int))) := rfl
theorem i_269_50 : iRow 269 50 = some (.aload_n 0, 0, 0, 0, (some (Jvm.ClassFile.FieldType.int))) := rfl
theorem i_269_51 : iRow 269 51 = some (.iload_n 1, 0, 0, 0, (some (Jvm.ClassFile.FieldType.int))) := rfl
theorem i_269_52 : iRow 269 52 = some (.invokevirtual 444, 352, 261, 1, (some (Jvm.ClassFile.FieldType.int))) := rfl
theorem i_269_55 : iRow 269 55 = some (.iconst 0, 0, 0, 0, (some (Jvm.ClassFile.FieldType.int))) := rfl
theorem i_269_56 : iRow 269 56 = some (.istore 5, 0, 0, 0, (some (Jvm.ClassFile.FieldType.int))) := rfl
theorem i_269_58 : iRow 269 58 = some (.iload 5, 0, 0, 0, (some (Jvm.ClassFile.FieldType.int))) := rfl
theorem i_269_60 : iRow 269 60 = some (.aload_n 0, 0, 0, 0, (some (Jvm.ClassFile.FieldType.int))) := rfl
theorem i_269_61 : iRow 269 61 = some (.iload_n 1, 0, 0, 0, (some (Jvm.ClassFile.FieldType.int))) := rfl
theorem i_269_62 : iRow 269 62 = some (.invokevirtual 251, 294, 205, 1, (some (Jvm.ClassFile.FieldType.int))) := rfl
theorem i_269_65 : iRow 269 65 = some (.if_icmp .ge 23, 0, 0, 0, (some (Jvm.ClassFile.FieldType.int))) := rfl
theorem i_269_68 : iRow 269 68 = some (.aload_n 0, 0, 0, 0, (some (Jvm.ClassFile.FieldType.int))) := rfl
theorem i_269_69 : iRow 269 69 = some (.getfield 93, 211, 12, 48, (some (Jvm.ClassFile.FieldType.int))) := rfl
theorem i_269_72 : iRow 269 72 = some (.iload 5, 0, 0, 0, (some (Jvm.ClassFile.FieldType.int))) := rfl
theorem i_269_74 : iRow 269 74 = some (.aload_n 0, 0, 0, 0, (some (Jvm.ClassFile.FieldType.int))) := rfl
theorem i_269_75 : iRow 269 75 = some (.getfield 87, 209, 12, 46, (some (Jvm.ClassFile.FieldType.int))) := rfl
theorem i_269_78 : iRow 269 78 = some (.iload 5, 0, 0, 0, (some (Jvm.ClassFile.FieldType.int))) := rfl
theorem i_269_80 : iRow 269 80 = some (.iaload, 0, 0, 0, (some (Jvm.ClassFile.FieldType.int))) := rfl
theorem i_269_81 : iRow 269 81 = some (.iastore, 0, 0, 0, (some (Jvm.ClassFile.FieldType.int))) := rfl
theorem i_269_82 : iRow 269 82 = some (.iinc 5 1, 0, 0, 0, (some (Jvm.ClassFile.FieldType.int))) := rfl
theorem i_269_85 : iRow 269 85 = some (.goto (-27), 0, 0, 0, (some (Jvm.ClassFile.FieldType.int))) := rfl
theorem i_269_88 : iRow 269 88 = some (.iconst 0, 0, 0, 0, (some (Jvm.ClassFile.FieldType.int))) := rfl
theorem i_269_89 : iRow 269 89 = some (.istore 5, 0, 0, 0, (some (Jvm.ClassFile.FieldType.int))) := rfl
theorem i_269_91 : iRow 269 91 = some (.iload 5, 0, 0, 0, (some (Jvm.ClassFile.FieldType.int))) := rfl
theorem i_269_93 : iRow 269 93 = some (.aload_n 0, 0, 0, 0, (some (Jvm.ClassFile.FieldType.int))) := rfl
theorem i_269_94 : iRow 269 94 = some (.getfield 380, 204, 12, 41, (some (Jvm.ClassFile.FieldType.int))) := rfl
theorem i_269_97 : iRow 269 97 = some (.if_icmp .ge 23, 0, 0, 0, (some (Jvm.ClassFile.FieldType.int))) := rfl
theorem i_269_100 : iRow 269 100 = some (.aload_n 0, 0, 0, 0, (some (Jvm.ClassFile.FieldType.int))) := rfl
theorem i_269_101 : iRow 269 101 = some (.getfield 96, 212, 12, 49, (some (Jvm.ClassFile.FieldType.int))) := rfl
theorem i_269_104 : iRow 269 104 = some (.iload 5, 0, 0, 0, (some (Jvm.ClassFile.FieldType.int))) := rfl
theorem i_269_106 : iRow 269 106 = some (.aload_n 0, 0, 0, 0, (some (Jvm.ClassFile.FieldType.int))) := rfl
theorem i_269_107 : iRow 269 107 = some (.getfield 90, 210, 12, 47, (some (Jvm.ClassFile.FieldType.int))) := rfl
theorem i_269_110 : iRow 269 110 = some (.iload 5, 0, 0, 0, (some (Jvm.ClassFile.FieldType.int))) := rfl
theorem i_269_112 : iRow 269 112 = some (.iaload, 0, 0, 0, (some (Jvm.ClassFile.FieldType.int))) := rfl
theorem i_269_113 : iRow 269 113 = some (.iastore, 0, 0, 0, (some (Jvm.ClassFile.FieldType.int))) := rfl
theorem i_269_114 : iRow 269 114 = some (.iinc 5 1, 0, 0, 0, (some (Jvm.ClassFile.FieldType.int))) := rfl
theorem i_269_117 : iRow 269 117 = some (.goto (-26), 0, 0, 0, (some (Jvm.ClassFile.FieldType.int))) := rfl
theorem i_269_120 : iRow 269 120 = some (.aload_n 0, 0, 0, 0, (some (Jvm.ClassFile.FieldType.int))) := rfl
theorem i_269_121 : iRow 269 121 = some (.iload_n 2, 0, 0, 0, (some (Jvm.ClassFile.FieldType.int))) := rfl
theorem i_269_122 : iRow 269 122 = some (.invokevirtual 444, 352, 261, 1, (some (Jvm.ClassFile.FieldType.int))) := rfl
theorem i_269_125 : iRow 269 125 = some (.iconst 0, 0, 0, 0, (some (Jvm.ClassFile.FieldType.int))) := rfl
theorem i_269_126 : iRow 269 126 = some (.istore 5, 0, 0, 0, (some (Jvm.ClassFile.FieldType.int))) := rfl
theorem i_269_128 : iRow 269 128 = some (.iconst 0, 0, 0, 0, (some (Jvm.ClassFile.FieldType.int))) := rfl
theorem i_269_129 : iRow 269 129 = some (.istore 6, 0, 0, 0, (some (Jvm.ClassFile.FieldType.int))) := rfl
theorem i_269_131 : iRow 269 131 = some (.iconst 0, 0, 0, 0, (some (Jvm.ClassFile.FieldType.int))) := rfl
theorem i_269_132 : iRow 269 132 = some (.istore 7, 0, 0, 0, (some (Jvm.ClassFile.FieldType.int))) := rfl
theorem i_269_134 : iRow 269 134 = some (.iload 7, 0, 0, 0, (some (Jvm.ClassFile.FieldType.int))) := rfl
theorem i_269_136 : iRow 269 136 = some (.aload_n 0, 0, 0, 0, (some (Jvm.ClassFile.FieldType.int))) := rfl
theorem i_269_137 : iRow 269 137 = some (.getfield 380, 204, 12, 41, (some (Jvm.ClassFile.FieldType.int))) := rfl
theorem i_269_140 : iRow 269 140 = some (.if_icmp .ge 162, 0, 0, 0, (some (Jvm.ClassFile.FieldType.int))) := rfl
theorem i_269_143 : iRow 269 143 = some (.aload_n 0, 0, 0, 0, (some (Jvm.ClassFile.FieldType.int))) := rfl
theorem i_269_144 : iRow 269 144 = some (.getfield 96, 212, 12, 49, (some (Jvm.ClassFile.FieldType.int))) := rfl
theorem i_269_147 : iRow 269 147 = some (.iload 7, 0, 0, 0, (some (Jvm.ClassFile.FieldType.int))) := rfl
theorem i_269_149 : iRow 269 149 = some (.iaload, 0, 0, 0, (some (Jvm.ClassFile.FieldType.int))) := rfl
theorem i_269_150 : iRow 269 150 = some (.istore 8, 0, 0, 0, (some (Jvm.ClassFile.FieldType.int))) := rfl
theorem i_269_152 : iRow 269 152 = some (.aload_n 0, 0, 0, 0, (some (Jvm.ClassFile.FieldType.int))) := rfl
theorem i_269_153 : iRow 269 153 = some (.getfield 90, 210, 12, 47, (some (Jvm.ClassFile.FieldType.int))) := rfl
theorem i_269_156 : iRow 269 156 = some (.iload 7, 0, 0, 0, (some (Jvm.ClassFile.FieldType.int))) := rfl
theorem i_269_158 : iRow 269 158 = some (.iaload, 0, 0, 0, (some (Jvm.ClassFile.FieldType.int))) := rfl
theorem i_269_159 : iRow 269 159 = some (.istore 9, 0, 0, 0, (some (Jvm.ClassFile.FieldType.int))) := rfl
theorem i_269_161 : iRow 269 161 = some (.iload 9, 0, 0, 0, (some (Jvm.ClassFile.FieldType.int))) := rfl
theorem i_269_163 : iRow 269 163 = some (.ifCond .lt 133, 0, 0, 0, (some (Jvm.ClassFile.FieldType.int))) := rfl
theorem i_269_166 : iRow 269 166 = some (.aload_n 0, 0, 0, 0, (some (Jvm.ClassFile.FieldType.int))) := rfl
theorem i_269_167 : iRow 269 167 = some (.getfield 87, 209, 12, 46, (some (Jvm.ClassFile.FieldType.int))) := rfl
theorem i_269_170 : iRow 269 170 = some (.iload 9, 0, 0, 0, (some (Jvm.ClassFile.FieldType.int))) := rfl
theorem i_269_172 : iRow 269 172 = some (.iaload, 0, 0, 0, (some (Jvm.ClassFile.FieldType.int))) := rfl
theorem i_269_173 : iRow 269 173 = some (.invokestatic 455, 361, 270, 0, (some (Jvm.ClassFile.FieldType.int))) := rfl
theorem i_269_176 : iRow 269 176 = some (.ifCond .ne 6, 0, 0, 0, (some (Jvm.ClassFile.FieldType.int))) := rfl
theorem i_269_179 : iRow 269 179 = some (.goto 117, 0, 0, 0, (some (Jvm.ClassFile.FieldType.int))) := rfl
theorem i_269_182 : iRow 269 182 = some (.iload 6, 0, 0, 0, (some (Jvm.ClassFile.FieldType.int))) := rfl
theorem i_269_184 : iRow 269 184 = some (.iload 8, 0, 0, 0, (some (Jvm.ClassFile.FieldType.int))) := rfl
theorem i_269_186 : iRow 269 186 = some (.ifCond .lt 13, 0, 0, 0, (some (Jvm.ClassFile.FieldType.int))) := rfl
theorem i_269_189 : iRow 269 189 = some (.aload_n 0, 0, 0, 0, (some (Jvm.ClassFile.FieldType.int))) := rfl
theorem i_269_190 : iRow 269 190 = some (.getfield 93, 211, 12, 48, (some (Jvm.ClassFile.FieldType.int))) := rfl
theorem i_269_193 : iRow 269 193 = some (.iload 8, 0, 0, 0, (some (Jvm.ClassFile.FieldType.int))) := rfl
theorem i_269_195 : iRow 269 195 = some (.iaload, 0, 0, 0, (some (Jvm.ClassFile.FieldType.int))) := rfl
theorem i_269_196 : iRow 269 196 = some (.ifCond .ne 7, 0, 0, 0, (some (Jvm.ClassFile.FieldType.int))) := rfl
theorem i_269_199 : iRow 269 199 = some (.iconst 1, 0, 0, 0, (some (Jvm.ClassFile.FieldType.int))) := rfl
theorem i_269_200 : iRow 269 200 = some (.goto 4, 0, 0, 0, (some (Jvm.ClassFile.FieldType.int))) := rfl
theorem i_269_203 : iRow 269 203 = some (.iconst 0, 0, 0, 0, (some (Jvm.ClassFile.FieldType.int))) := rfl
theorem i_269_204 : iRow 269 204 = some (.iadd, 0, 0, 0, (some (Jvm.ClassFile.FieldType.int))) := rfl
theorem i_269_205 : iRow 269 205 = some (.istore 6, 0, 0, 0, (some (Jvm.ClassFile.FieldType.int))) := rfl
theorem i_269_207 : iRow 269 207 = some (.iload 5, 0, 0, 0, (some (Jvm.ClassFile.FieldType.int))) := rfl
theorem i_269_209 : iRow 269 209 = some (.iload 8, 0, 0, 0, (some (Jvm.ClassFile.FieldType.int))) := rfl
theorem i_269_211 : iRow 269 211 = some (.ifCond .lt 81, 0, 0, 0, (some (Jvm.ClassFile.FieldType.int))) := rfl
theorem i_269_214 : iRow 269 214 = some (.aload_n 0, 0, 0, 0, (some (Jvm.ClassFile.FieldType.int))) := rfl
theorem i_269_215 : iRow 269 215 = some (.getfield 93, 211, 12, 48, (some (Jvm.ClassFile.FieldType.int))) := rfl
theorem i_269_218 : iRow 269 218 = some (.iload 8, 0, 0, 0, (some (Jvm.ClassFile.FieldType.int))) := rfl
theorem i_269_220 : iRow 269 220 = some (.iaload, 0, 0, 0, (some (Jvm.ClassFile.FieldType.int))) := rfl
theorem i_269_221 : iRow 269 221 = some (.aload_n 0, 0, 0, 0, (some (Jvm.ClassFile.FieldType.int))) := rfl
theorem i_269_222 : iRow 269 222 = some (.getfield 87, 209, 12, 46, (some (Jvm.ClassFile.FieldType.int))) := rfl
theorem i_269_225 : iRow 269 225 = some (.iload 9, 0, 0, 0, (some (Jvm.ClassFile.FieldType.int))) := rfl
theorem i_269_227 : iRow 269 227 = some (.iaload, 0, 0, 0, (some (Jvm.ClassFile.FieldType.int))) := rfl
theorem i_269_228 : iRow 269 228 = some (.if_icmp .ne 64, 0, 0, 0, (some (Jvm.ClassFile.FieldType.int))) := rfl
theorem i_269_231 : iRow 269 231 = some (.aload_n 0, 0, 0, 0, (some (Jvm.ClassFile.FieldType.int))) := rfl
theorem i_269_232 : iRow 269 232 = some (.iload_n 1, 0, 0, 0, (some (Jvm.ClassFile.FieldType.int))) := rfl
theorem i_269_233 : iRow 269 233 = some (.iload 8, 0, 0, 0, (some (Jvm.ClassFile.FieldType.int))) := rfl
theorem i_269_235 : iRow 269 235 = some (.iconst 0, 0, 0, 0, (some (Jvm.ClassFile.FieldType.int))) := rfl
theorem i_269_236 : iRow 269 236 = some (.invokevirtual 272, 300, 211, 1, (some (Jvm.ClassFile.FieldType.int))) := rfl
theorem i_269_239 : iRow 269 239 = some (.aload_n 0, 0, 0, 0, (some (Jvm.ClassFile.FieldType.int))) := rfl
theorem i_269_240 : iRow 269 240 = some (.iload_n 2, 0, 0, 0, (some (Jvm.ClassFile.FieldType.int))) := rfl
set_option maxRecDepth 20000 in
theorem i_269_241 : iRow 269 241 = some (.iload 9, 0, 0, 0, (some (Jvm.ClassFile.FieldType.int))) := rfl
set_option maxRecDepth 20000 in
theorem i_269_243 : iRow 269 243 = some (.iconst 0, 0, 0, 0, (some (Jvm.ClassFile.FieldType.int))) := rfl
set_option maxRecDepth 20000 in
theorem i_269_244 : iRow 269 244 = some (.invokevirtual 272, 300, 211, 1, (some (Jvm.ClassFile.FieldType.int))) := rfl
set_option maxRecDepth 20000 in
theorem i_269_247 : iRow 269 247 = some (.if_icmp .ne 45, 0, 0, 0, (some (Jvm.ClassFile.FieldType.int))) := rfl
set_option maxRecDepth 20000 in
theorem i_269_250 : iRow 269 250 = some (.aload_n 0, 0, 0, 0, (some (Jvm.ClassFile.FieldType.int))) := rfl
set_option maxRecDepth 20000 in
theorem i_269_251 : iRow 269 251 = some (.iload_n 1, 0, 0, 0, (some (Jvm.ClassFile.FieldType.int))) := rfl
set_option maxRecDepth 20000 in
theorem i_269_252 : iRow 269 252 = some (.iload 8, 0, 0, 0, (some (Jvm.ClassFile.FieldType.int))) := rfl
set_option maxRecDepth 20000 in
theorem i_269_254 : iRow 269 254 = some (.iconst 2, 0, 0, 0, (some (Jvm.ClassFile.FieldType.int))) := rfl
set_option maxRecDepth 20000 in
theorem i_269_255 : iRow 269 255 = some (.invokevirtual 272, 300, 211, 1, (some (Jvm.ClassFile.FieldType.int))) := rfl
set_option maxRecDepth 20000 in
theorem i_269_258 : iRow 269 258 = some (.aload_n 0, 0, 0, 0, (some (Jvm.ClassFile.FieldType.int))) := rfl
set_option maxRecDepth 20000 in
theorem i_269_259 : iRow 269 259 = some (.iload_n 2, 0, 0, 0, (some (Jvm.ClassFile.FieldType.int))) := rfl
set_option maxRecDepth 20000 in
theorem i_269_260 : iRow 269 260 = some (.iload 9, 0, 0, 0, (some (Jvm.ClassFile.FieldType.int))) := rfl
set_option maxRecDepth 20000 in
theorem i_269_262 : iRow 269 262 = some (.iconst 2, 0, 0, 0, (some (Jvm.ClassFile.FieldType.int))) := rfl
set_option maxRecDepth 20000 in
theorem i_269_263 : iRow 269 263 = some (.invokevirtual 272, 300, 211, 1, (some (Jvm.ClassFile.FieldType.int))) := rfl
set_option maxRecDepth 20000 in
theorem i_269_266 : iRow 269 266 = some (.if_icmp .ne 26, 0, 0, 0, (some (Jvm.ClassFile.FieldType.int))) := rfl
set_option maxRecDepth 20000 in
theorem i_269_269 : iRow 269 269 = some (.aload_n 0, 0, 0, 0, (some (Jvm.ClassFile.FieldType.int))) := rfl
set_option maxRecDepth 20000 in
theorem i_269_270 : iRow 269 270 = some (.iload_n 1, 0, 0, 0, (some (Jvm.ClassFile.FieldType.int))) := rfl
set_option maxRecDepth 20000 in
theorem i_269_271 : iRow 269 271 = some (.iload 8, 0, 0, 0, (some (Jvm.ClassFile.FieldType.int))) := rfl
set_option maxRecDepth 20000 in
theorem i_269_273 : iRow 269 273 = some (.iconst 3, 0, 0, 0, (some (Jvm.ClassFile.FieldType.int))) := rfl
set_option maxRecDepth 20000 in
theorem i_269_274 : iRow 269 274 = some (.invokevirtual 272, 300, 211, 1, (some (Jvm.ClassFile.FieldType.int))) := rfl
set_option maxRecDepth 20000 in
theorem i_269_277 : iRow 269 277 = some (.aload_n 0, 0, 0, 0, (some (Jvm.ClassFile.FieldType.int))) := rfl
set_option maxRecDepth 20000 in
theorem i_269_278 : iRow 269 278 = some (.iload_n 2, 0, 0, 0, (some (Jvm.ClassFile.FieldType.int))) := rfl
set_option maxRecDepth 20000 in
theorem i_269_279 : iRow 269 279 = some (.iload 9, 0, 0, 0, (some (Jvm.ClassFile.FieldType.int))) := rfl
set_option maxRecDepth 20000 in
theorem i_269_281 : iRow 269 281 = some (.iconst 3, 0, 0, 0, (some (Jvm.ClassFile.FieldType.int))) := rfl
set_option maxRecDepth 20000 in
theorem i_269_282 : iRow 269 282 = some (.invokevirtual 272, 300, 211, 1, (some (Jvm.ClassFile.FieldType.int))) := rfl
set_option maxRecDepth 20000 in
theorem i_269_285 : iRow 269 285 = some (.if_icmp .ne 7, 0, 0, 0, (some (Jvm.ClassFile.FieldType.int))) := rfl
set_option maxRecDepth 20000 in
theorem i_269_288 : iRow 269 288 = some (.iconst 1, 0, 0, 0, (some (Jvm.ClassFile.FieldType.int))) := rfl
set_option maxRecDepth 20000 in
theorem i_269_289 : iRow 269 289 = some (.goto 4, 0, 0, 0, (some (Jvm.ClassFile.FieldType.int))) := rfl
set_option maxRecDepth 20000 in
theorem i_269_292 : iRow 269 292 = some (.iconst 0, 0, 0, 0, (some (Jvm.ClassFile.FieldType.int))) := rfl
set_option maxRecDepth 20000 in
theorem i_269_293 : iRow 269 293 = some (.iadd, 0, 0, 0, (some (Jvm.ClassFile.FieldType.int))) := rfl
set_option maxRecDepth 20000 in
theorem i_269_294 : iRow 269 294 = some (.istore 5, 0, 0, 0, (some (Jvm.ClassFile.FieldType.int))) := rfl
set_option maxRecDepth 20000 in
theorem i_269_296 : iRow 269 296 = some (.iinc 7 1, 0, 0, 0, (some (Jvm.ClassFile.FieldType.int))) := rfl
set_option maxRecDepth 20000 in
theorem i_269_299 : iRow 269 299 = some (.goto (-165), 0, 0, 0, (some (Jvm.ClassFile.FieldType.int))) := rfl
set_option maxRecDepth 20000 in
theorem i_269_302 : iRow 269 302 = some (.iload_n 3, 0, 0, 0, (some (Jvm.ClassFile.FieldType.int))) := rfl
set_option maxRecDepth 20000 in
theorem i_269_303 : iRow 269 303 = some (.ifCond .ne 8, 0, 0, 0, (some (Jvm.ClassFile.FieldType.int))) := rfl
set_option maxRecDepth 20000 in
theorem i_269_306 : iRow 269 306 = some (.iload 5, 0, 0, 0, (some (Jvm.ClassFile.FieldType.int))) := rfl
set_option maxRecDepth 20000 in
theorem i_269_308 : iRow 269 308 = some (.goto 15, 0, 0, 0, (some (Jvm.ClassFile.FieldType.int))) := rfl
set_option maxRecDepth 20000 in
theorem i_269_311 : iRow 269 311 = some (.iload 5, 0, 0, 0, (some (Jvm.ClassFile.FieldType.int))) := rfl
set_option maxRecDepth 20000 in
theorem i_269_313 : iRow 269 313 = some (.iload 6, 0, 0, 0, (some (Jvm.ClassFile.FieldType.int))) := rfl
set_option maxRecDepth 20000 in
theorem i_269_315 : iRow 269 315 = some (.if_icmp .le 7, 0, 0, 0, (some (Jvm.ClassFile.FieldType.int))) := rfl
set_option maxRecDepth 20000 in
theorem i_269_318 : iRow 269 318 = some (.iconst 1, 0, 0, 0, (some (Jvm.ClassFile.FieldType.int))) := rfl
set_option maxRecDepth 20000 in
theorem i_269_319 : iRow 269 319 = some (.goto 4, 0, 0, 0, (some (Jvm.ClassFile.FieldType.int))) := rfl
set_option maxRecDepth 20000 in
theorem i_269_322 : iRow 269 322 = some (.iconst 0, 0, 0, 0, (some (Jvm.ClassFile.FieldType.int))) := rfl
set_option maxRecDepth 20000 in
theorem i_269_323 : iRow 269 323 = some (.ireturn, 0, 0, 0, (some (Jvm.ClassFile.FieldType.int))) := rfl
theorem i_270_0 : iRow 270 0 = some (.iload_n 0, 0, 0, 0, (some (Jvm.ClassFile.FieldType.boolean))) := rfl
theorem i_270_1 : iRow 270 1 = some (.iconst 1, 0, 0, 0, (some (Jvm.ClassFile.FieldType.boolean))) := rfl
theorem i_270_2 : iRow 270 2 = some (.iconst 5, 0, 0, 0, (some (Jvm.ClassFile.FieldType.boolean))) := rfl
theorem i_270_3 : iRow 270 3 = some (.invokestatic 106, 282, 193, 0, (some (Jvm.ClassFile.FieldType.boolean))) := rfl
theorem i_270_6 : iRow 270 6 = some (.ireturn, 0, 0, 0, (some (Jvm.ClassFile.FieldType.boolean))) := rfl
