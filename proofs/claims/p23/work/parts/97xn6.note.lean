/-! printed by wip/rel/notes.py -/
theorem i_115_0 : iRow 115 0 = some (.aload_n 0, 0, 0, 0, (some (Jvm.ClassFile.FieldType.int))) := rfl
theorem i_115_1 : iRow 115 1 = some (.iload_n 1, 0, 0, 0, (some (Jvm.ClassFile.FieldType.int))) := rfl
theorem i_115_2 : iRow 115 2 = some (.invokevirtual 172, 155, 116, 1, (some (Jvm.ClassFile.FieldType.int))) := rfl
theorem i_115_5 : iRow 115 5 = some (.ifCond .eq 11, 0, 0, 0, (some (Jvm.ClassFile.FieldType.int))) := rfl
theorem i_115_8 : iRow 115 8 = some (.aload_n 0, 0, 0, 0, (some (Jvm.ClassFile.FieldType.int))) := rfl
theorem i_115_9 : iRow 115 9 = some (.iload_n 2, 0, 0, 0, (some (Jvm.ClassFile.FieldType.int))) := rfl
theorem i_115_10 : iRow 115 10 = some (.invokevirtual 175, 135, 104, 1, (some (Jvm.ClassFile.FieldType.int))) := rfl
theorem i_115_13 : iRow 115 13 = some (.ifCond .ne 13, 0, 0, 0, (some (Jvm.ClassFile.FieldType.int))) := rfl
theorem i_115_16 : iRow 115 16 = some (.new 125, 18, 2, 1, (some (Jvm.ClassFile.FieldType.int))) := rfl
theorem i_115_26 : iRow 115 26 = some (.iload_n 3, 0, 0, 0, (some (Jvm.ClassFile.FieldType.int))) := rfl
theorem i_115_27 : iRow 115 27 = some (.iload 4, 0, 0, 0, (some (Jvm.ClassFile.FieldType.int))) := rfl
theorem i_115_29 : iRow 115 29 = some (.iload 5, 0, 0, 0, (some (Jvm.ClassFile.FieldType.int))) := rfl
theorem i_115_31 : iRow 115 31 = some (.invokestatic 180, 156, 117, 0, (some (Jvm.ClassFile.FieldType.int))) := rfl
theorem i_115_34 : iRow 115 34 = some (.ifCond .ne 13, 0, 0, 0, (some (Jvm.ClassFile.FieldType.int))) := rfl
theorem i_115_37 : iRow 115 37 = some (.new 85, 15, 0, 1, (some (Jvm.ClassFile.FieldType.int))) := rfl
theorem i_115_47 : iRow 115 47 = some (.aload_n 0, 0, 0, 0, (some (Jvm.ClassFile.FieldType.int))) := rfl
theorem i_115_48 : iRow 115 48 = some (.getfield 28, 139, 11, 2, (some (Jvm.ClassFile.FieldType.int))) := rfl
theorem i_115_51 : iRow 115 51 = some (.iload_n 1, 0, 0, 0, (some (Jvm.ClassFile.FieldType.int))) := rfl
theorem i_115_52 : iRow 115 52 = some (.invokevirtual 186, 157, 35, 1, (some (Jvm.ClassFile.FieldType.int))) := rfl
theorem i_115_55 : iRow 115 55 = some (.bipush 24, 0, 0, 0, (some (Jvm.ClassFile.FieldType.int))) := rfl
theorem i_115_57 : iRow 115 57 = some (.if_icmp .lt 13, 0, 0, 0, (some (Jvm.ClassFile.FieldType.int))) := rfl
theorem i_115_60 : iRow 115 60 = some (.new 95, 16, 1, 1, (some (Jvm.ClassFile.FieldType.int))) := rfl
theorem i_115_70 : iRow 115 70 = some (.aload_n 0, 0, 0, 0, (some (Jvm.ClassFile.FieldType.int))) := rfl
theorem i_115_71 : iRow 115 71 = some (.invokevirtual 104, 78, 73, 1, (some (Jvm.ClassFile.FieldType.int))) := rfl
theorem i_115_74 : iRow 115 74 = some (.aload_n 0, 0, 0, 0, (some (Jvm.ClassFile.FieldType.int))) := rfl
theorem i_115_75 : iRow 115 75 = some (.getfield 28, 139, 11, 2, (some (Jvm.ClassFile.FieldType.int))) := rfl
theorem i_115_78 : iRow 115 78 = some (.iload_n 1, 0, 0, 0, (some (Jvm.ClassFile.FieldType.int))) := rfl
theorem i_115_79 : iRow 115 79 = some (.invokevirtual 191, 158, 118, 1, (some (Jvm.ClassFile.FieldType.int))) := rfl
theorem i_115_82 : iRow 115 82 = some (.istore 6, 0, 0, 0, (some (Jvm.ClassFile.FieldType.int))) := rfl
theorem i_115_84 : iRow 115 84 = some (.aload_n 0, 0, 0, 0, (some (Jvm.ClassFile.FieldType.int))) := rfl
theorem i_115_85 : iRow 115 85 = some (.getfield 28, 139, 11, 2, (some (Jvm.ClassFile.FieldType.int))) := rfl
theorem i_115_88 : iRow 115 88 = some (.iload_n 1, 0, 0, 0, (some (Jvm.ClassFile.FieldType.int))) := rfl
theorem i_115_89 : iRow 115 89 = some (.iload 6, 0, 0, 0, (some (Jvm.ClassFile.FieldType.int))) := rfl
theorem i_115_91 : iRow 115 91 = some (.iload_n 2, 0, 0, 0, (some (Jvm.ClassFile.FieldType.int))) := rfl
theorem i_115_92 : iRow 115 92 = some (.iload_n 3, 0, 0, 0, (some (Jvm.ClassFile.FieldType.int))) := rfl
theorem i_115_93 : iRow 115 93 = some (.iload 4, 0, 0, 0, (some (Jvm.ClassFile.FieldType.int))) := rfl
theorem i_115_95 : iRow 115 95 = some (.iload 5, 0, 0, 0, (some (Jvm.ClassFile.FieldType.int))) := rfl
theorem i_115_97 : iRow 115 97 = some (.invokevirtual 194, 159, 119, 1, (some (Jvm.ClassFile.FieldType.int))) := rfl
theorem i_115_100 : iRow 115 100 = some (.iload 6, 0, 0, 0, (some (Jvm.ClassFile.FieldType.int))) := rfl
theorem i_115_102 : iRow 115 102 = some (.ireturn, 0, 0, 0, (some (Jvm.ClassFile.FieldType.int))) := rfl
theorem i_117_0 : iRow 117 0 = some (.iload_n 0, 0, 0, 0, (some (Jvm.ClassFile.FieldType.boolean))) := rfl
theorem i_117_1 : iRow 117 1 = some (.iconst (-1), 0, 0, 0, (some (Jvm.ClassFile.FieldType.boolean))) := rfl
theorem i_117_2 : iRow 117 2 = some (.if_icmp .lt 33, 0, 0, 0, (some (Jvm.ClassFile.FieldType.boolean))) := rfl
theorem i_117_5 : iRow 117 5 = some (.iload_n 0, 0, 0, 0, (some (Jvm.ClassFile.FieldType.boolean))) := rfl
theorem i_117_6 : iRow 117 6 = some (.bipush 6, 0, 0, 0, (some (Jvm.ClassFile.FieldType.boolean))) := rfl
theorem i_117_8 : iRow 117 8 = some (.if_icmp .ge 27, 0, 0, 0, (some (Jvm.ClassFile.FieldType.boolean))) := rfl
theorem i_117_11 : iRow 117 11 = some (.iload_n 1, 0, 0, 0, (some (Jvm.ClassFile.FieldType.boolean))) := rfl
theorem i_117_12 : iRow 117 12 = some (.ifCond .lt 23, 0, 0, 0, (some (Jvm.ClassFile.FieldType.boolean))) := rfl
theorem i_117_15 : iRow 117 15 = some (.iload_n 1, 0, 0, 0, (some (Jvm.ClassFile.FieldType.boolean))) := rfl
theorem i_117_16 : iRow 117 16 = some (.bipush 6, 0, 0, 0, (some (Jvm.ClassFile.FieldType.boolean))) := rfl
theorem i_117_18 : iRow 117 18 = some (.if_icmp .ge 17, 0, 0, 0, (some (Jvm.ClassFile.FieldType.boolean))) := rfl
theorem i_117_21 : iRow 117 21 = some (.iload_n 2, 0, 0, 0, (some (Jvm.ClassFile.FieldType.boolean))) := rfl
theorem i_117_22 : iRow 117 22 = some (.ifCond .lt 13, 0, 0, 0, (some (Jvm.ClassFile.FieldType.boolean))) := rfl
theorem i_117_25 : iRow 117 25 = some (.iload_n 2, 0, 0, 0, (some (Jvm.ClassFile.FieldType.boolean))) := rfl
theorem i_117_26 : iRow 117 26 = some (.bipush 6, 0, 0, 0, (some (Jvm.ClassFile.FieldType.boolean))) := rfl
theorem i_117_28 : iRow 117 28 = some (.if_icmp .ge 7, 0, 0, 0, (some (Jvm.ClassFile.FieldType.boolean))) := rfl
theorem i_117_31 : iRow 117 31 = some (.iconst 1, 0, 0, 0, (some (Jvm.ClassFile.FieldType.boolean))) := rfl
theorem i_117_32 : iRow 117 32 = some (.goto 4, 0, 0, 0, (some (Jvm.ClassFile.FieldType.boolean))) := rfl
theorem i_117_35 : iRow 117 35 = some (.iconst 0, 0, 0, 0, (some (Jvm.ClassFile.FieldType.boolean))) := rfl
theorem i_117_36 : iRow 117 36 = some (.ireturn, 0, 0, 0, (some (Jvm.ClassFile.FieldType.boolean))) := rfl
theorem i_202_0 : iRow 202 0 = some (.aload_n 0, 0, 0, 0, (some (Jvm.ClassFile.FieldType.int))) := rfl
theorem i_202_1 : iRow 202 1 = some (.iconst 0, 0, 0, 0, (some (Jvm.ClassFile.FieldType.int))) := rfl
theorem i_202_2 : iRow 202 2 = some (.putfield 3, 164, 12, 0, (some (Jvm.ClassFile.FieldType.int))) := rfl
theorem i_202_5 : iRow 202 5 = some (.aload_n 0, 0, 0, 0, (some (Jvm.ClassFile.FieldType.int))) := rfl
theorem i_202_6 : iRow 202 6 = some (.aload_n 0, 0, 0, 0, (some (Jvm.ClassFile.FieldType.int))) := rfl
theorem i_202_7 : iRow 202 7 = some (.iload_n 1, 0, 0, 0, (some (Jvm.ClassFile.FieldType.int))) := rfl
theorem i_202_8 : iRow 202 8 = some (.invokevirtual 259, 292, 203, 1, (some (Jvm.ClassFile.FieldType.int))) := rfl
theorem i_202_11 : iRow 202 11 = some (.ifCond .ne 11, 0, 0, 0, (some (Jvm.ClassFile.FieldType.int))) := rfl
theorem i_202_14 : iRow 202 14 = some (.aload_n 0, 0, 0, 0, (some (Jvm.ClassFile.FieldType.int))) := rfl
theorem i_202_15 : iRow 202 15 = some (.iload_n 2, 0, 0, 0, (some (Jvm.ClassFile.FieldType.int))) := rfl
theorem i_202_16 : iRow 202 16 = some (.invokevirtual 245, 287, 198, 1, (some (Jvm.ClassFile.FieldType.int))) := rfl
theorem i_202_19 : iRow 202 19 = some (.ifCond .eq 7, 0, 0, 0, (some (Jvm.ClassFile.FieldType.int))) := rfl
theorem i_202_22 : iRow 202 22 = some (.iconst 1, 0, 0, 0, (some (Jvm.ClassFile.FieldType.int))) := rfl
theorem i_202_23 : iRow 202 23 = some (.goto 4, 0, 0, 0, (some (Jvm.ClassFile.FieldType.int))) := rfl
theorem i_202_26 : iRow 202 26 = some (.iconst 0, 0, 0, 0, (some (Jvm.ClassFile.FieldType.int))) := rfl
theorem i_202_27 : iRow 202 27 = some (.iconst 1, 0, 0, 0, (some (Jvm.ClassFile.FieldType.int))) := rfl
theorem i_202_28 : iRow 202 28 = some (.invokevirtual 235, 283, 194, 1, (some (Jvm.ClassFile.FieldType.int))) := rfl
theorem i_202_31 : iRow 202 31 = some (.ifCond .ne 42, 0, 0, 0, (some (Jvm.ClassFile.FieldType.int))) := rfl
theorem i_202_34 : iRow 202 34 = some (.aload_n 0, 0, 0, 0, (some (Jvm.ClassFile.FieldType.int))) := rfl
theorem i_202_35 : iRow 202 35 = some (.iload_n 3, 0, 0, 0, (some (Jvm.ClassFile.FieldType.int))) := rfl
theorem i_202_36 : iRow 202 36 = some (.iload 4, 0, 0, 0, (some (Jvm.ClassFile.FieldType.int))) := rfl
theorem i_202_38 : iRow 202 38 = some (.iload 5, 0, 0, 0, (some (Jvm.ClassFile.FieldType.int))) := rfl
theorem i_202_40 : iRow 202 40 = some (.invokestatic 262, 293, 204, 0, (some (Jvm.ClassFile.FieldType.int))) := rfl
theorem i_202_43 : iRow 202 43 = some (.iconst 2, 0, 0, 0, (some (Jvm.ClassFile.FieldType.int))) := rfl
theorem i_202_44 : iRow 202 44 = some (.invokevirtual 235, 283, 194, 1, (some (Jvm.ClassFile.FieldType.int))) := rfl
theorem i_202_47 : iRow 202 47 = some (.ifCond .ne 26, 0, 0, 0, (some (Jvm.ClassFile.FieldType.int))) := rfl
theorem i_202_50 : iRow 202 50 = some (.aload_n 0, 0, 0, 0, (some (Jvm.ClassFile.FieldType.int))) := rfl
theorem i_202_51 : iRow 202 51 = some (.aload_n 0, 0, 0, 0, (some (Jvm.ClassFile.FieldType.int))) := rfl
theorem i_202_52 : iRow 202 52 = some (.iload_n 1, 0, 0, 0, (some (Jvm.ClassFile.FieldType.int))) := rfl
theorem i_202_53 : iRow 202 53 = some (.invokevirtual 251, 294, 205, 1, (some (Jvm.ClassFile.FieldType.int))) := rfl
theorem i_202_56 : iRow 202 56 = some (.bipush 24, 0, 0, 0, (some (Jvm.ClassFile.FieldType.int))) := rfl
theorem i_202_58 : iRow 202 58 = some (.if_icmp .ne 7, 0, 0, 0, (some (Jvm.ClassFile.FieldType.int))) := rfl
theorem i_202_61 : iRow 202 61 = some (.iconst 1, 0, 0, 0, (some (Jvm.ClassFile.FieldType.int))) := rfl
theorem i_202_62 : iRow 202 62 = some (.goto 4, 0, 0, 0, (some (Jvm.ClassFile.FieldType.int))) := rfl
theorem i_202_65 : iRow 202 65 = some (.iconst 0, 0, 0, 0, (some (Jvm.ClassFile.FieldType.int))) := rfl
theorem i_202_66 : iRow 202 66 = some (.iconst 3, 0, 0, 0, (some (Jvm.ClassFile.FieldType.int))) := rfl
theorem i_202_67 : iRow 202 67 = some (.invokevirtual 235, 283, 194, 1, (some (Jvm.ClassFile.FieldType.int))) := rfl
theorem i_202_70 : iRow 202 70 = some (.ifCond .eq 5, 0, 0, 0, (some (Jvm.ClassFile.FieldType.int))) := rfl
theorem i_202_73 : iRow 202 73 = some (.iconst 0, 0, 0, 0, (some (Jvm.ClassFile.FieldType.int))) := rfl
theorem i_202_74 : iRow 202 74 = some (.ireturn, 0, 0, 0, (some (Jvm.ClassFile.FieldType.int))) := rfl
theorem i_202_75 : iRow 202 75 = some (.aload_n 0, 0, 0, 0, (some (Jvm.ClassFile.FieldType.int))) := rfl
theorem i_202_76 : iRow 202 76 = some (.iload_n 1, 0, 0, 0, (some (Jvm.ClassFile.FieldType.int))) := rfl
theorem i_202_77 : iRow 202 77 = some (.iload_n 2, 0, 0, 0, (some (Jvm.ClassFile.FieldType.int))) := rfl
theorem i_202_78 : iRow 202 78 = some (.iload_n 3, 0, 0, 0, (some (Jvm.ClassFile.FieldType.int))) := rfl
theorem i_202_79 : iRow 202 79 = some (.iload 4, 0, 0, 0, (some (Jvm.ClassFile.FieldType.int))) := rfl
theorem i_202_81 : iRow 202 81 = some (.iload 5, 0, 0, 0, (some (Jvm.ClassFile.FieldType.int))) := rfl
theorem i_202_83 : iRow 202 83 = some (.invokevirtual 265, 296, 207, 1, (some (Jvm.ClassFile.FieldType.int))) := rfl
theorem i_202_86 : iRow 202 86 = some (.ireturn, 0, 0, 0, (some (Jvm.ClassFile.FieldType.int))) := rfl
theorem i_204_0 : iRow 204 0 = some (.iload_n 0, 0, 0, 0, (some (Jvm.ClassFile.FieldType.boolean))) := rfl
theorem i_204_1 : iRow 204 1 = some (.iconst (-1), 0, 0, 0, (some (Jvm.ClassFile.FieldType.boolean))) := rfl
theorem i_204_2 : iRow 204 2 = some (.iconst 5, 0, 0, 0, (some (Jvm.ClassFile.FieldType.boolean))) := rfl
theorem i_204_3 : iRow 204 3 = some (.invokestatic 106, 282, 193, 0, (some (Jvm.ClassFile.FieldType.boolean))) := rfl
theorem i_204_6 : iRow 204 6 = some (.ifCond .eq 21, 0, 0, 0, (some (Jvm.ClassFile.FieldType.boolean))) := rfl
theorem i_204_9 : iRow 204 9 = some (.iload_n 1, 0, 0, 0, (some (Jvm.ClassFile.FieldType.boolean))) := rfl
theorem i_204_10 : iRow 204 10 = some (.iconst 0, 0, 0, 0, (some (Jvm.ClassFile.FieldType.boolean))) := rfl
theorem i_204_11 : iRow 204 11 = some (.iconst 5, 0, 0, 0, (some (Jvm.ClassFile.FieldType.boolean))) := rfl
theorem i_204_12 : iRow 204 12 = some (.invokestatic 106, 282, 193, 0, (some (Jvm.ClassFile.FieldType.boolean))) := rfl
theorem i_204_15 : iRow 204 15 = some (.ifCond .eq 12, 0, 0, 0, (some (Jvm.ClassFile.FieldType.boolean))) := rfl
theorem i_204_18 : iRow 204 18 = some (.iload_n 2, 0, 0, 0, (some (Jvm.ClassFile.FieldType.boolean))) := rfl
theorem i_204_19 : iRow 204 19 = some (.iconst 0, 0, 0, 0, (some (Jvm.ClassFile.FieldType.boolean))) := rfl
theorem i_204_20 : iRow 204 20 = some (.iconst 5, 0, 0, 0, (some (Jvm.ClassFile.FieldType.boolean))) := rfl
theorem i_204_21 : iRow 204 21 = some (.invokestatic 106, 282, 193, 0, (some (Jvm.ClassFile.FieldType.boolean))) := rfl
theorem i_204_24 : iRow 204 24 = some (.ifCond .ne 7, 0, 0, 0, (some (Jvm.ClassFile.FieldType.boolean))) := rfl
theorem i_204_27 : iRow 204 27 = some (.iconst 1, 0, 0, 0, (some (Jvm.ClassFile.FieldType.boolean))) := rfl
theorem i_204_28 : iRow 204 28 = some (.goto 4, 0, 0, 0, (some (Jvm.ClassFile.FieldType.boolean))) := rfl
theorem i_204_31 : iRow 204 31 = some (.iconst 0, 0, 0, 0, (some (Jvm.ClassFile.FieldType.boolean))) := rfl
theorem i_204_32 : iRow 204 32 = some (.ireturn, 0, 0, 0, (some (Jvm.ClassFile.FieldType.boolean))) := rfl
theorem i_282_0 : iRow 282 0 = some (.aload 6, 0, 0, 0, (some (Jvm.ClassFile.FieldType.int))) := rfl
theorem i_282_2 : iRow 282 2 = some (.iconst 0, 0, 0, 0, (some (Jvm.ClassFile.FieldType.int))) := rfl
theorem i_282_3 : iRow 282 3 = some (.aload_n 0, 0, 0, 0, (some (Jvm.ClassFile.FieldType.int))) := rfl
theorem i_282_4 : iRow 282 4 = some (.iload_n 1, 0, 0, 0, (some (Jvm.ClassFile.FieldType.int))) := rfl
theorem i_282_5 : iRow 282 5 = some (.iload_n 2, 0, 0, 0, (some (Jvm.ClassFile.FieldType.int))) := rfl
theorem i_282_6 : iRow 282 6 = some (.iload_n 3, 0, 0, 0, (some (Jvm.ClassFile.FieldType.int))) := rfl
theorem i_282_7 : iRow 282 7 = some (.iload 4, 0, 0, 0, (some (Jvm.ClassFile.FieldType.int))) := rfl
theorem i_282_9 : iRow 282 9 = some (.iload 5, 0, 0, 0, (some (Jvm.ClassFile.FieldType.int))) := rfl
theorem i_282_11 : iRow 282 11 = some (.invokevirtual 34, 154, 115, 1, (some (Jvm.ClassFile.FieldType.int))) := rfl
theorem i_282_14 : iRow 282 14 = some (.i2l, 0, 0, 0, (some (Jvm.ClassFile.FieldType.int))) := rfl
theorem i_282_15 : iRow 282 15 = some (.lastore, 0, 0, 0, (some (Jvm.ClassFile.FieldType.int))) := rfl
theorem i_282_16 : iRow 282 16 = some (.goto 15, 0, 0, 0, (some (Jvm.ClassFile.FieldType.int))) := rfl
theorem i_282_21 : iRow 282 21 = some (.iconst 1, 0, 0, 0, (some (Jvm.ClassFile.FieldType.int))) := rfl
theorem i_282_22 : iRow 282 22 = some (.ireturn, 0, 0, 0, (some (Jvm.ClassFile.FieldType.int))) := rfl
theorem i_282_25 : iRow 282 25 = some (.iconst 2, 0, 0, 0, (some (Jvm.ClassFile.FieldType.int))) := rfl
theorem i_282_26 : iRow 282 26 = some (.ireturn, 0, 0, 0, (some (Jvm.ClassFile.FieldType.int))) := rfl
theorem i_282_29 : iRow 282 29 = some (.iconst 3, 0, 0, 0, (some (Jvm.ClassFile.FieldType.int))) := rfl
theorem i_282_30 : iRow 282 30 = some (.ireturn, 0, 0, 0, (some (Jvm.ClassFile.FieldType.int))) := rfl
theorem i_282_31 : iRow 282 31 = some (.iconst 0, 0, 0, 0, (some (Jvm.ClassFile.FieldType.int))) := rfl
theorem i_282_32 : iRow 282 32 = some (.ireturn, 0, 0, 0, (some (Jvm.ClassFile.FieldType.int))) := rfl
theorem s_xnote {O : pOut} {d kc ks : Nat} {Q : pRes → Prop} {es : PH} {bk kd fr fi ra : Int} (hs_es : sh es) (h_bk : -2147483648 ≤ bk ∧ bk ≤ 2147483647) (h_kd : -2147483648 ≤ kd ∧ kd ≤ 2147483647) (h_fr : -2147483648 ≤ fr ∧ fr ≤ 2147483647) (h_fi : -2147483648 ≤ fi ∧ fi ≤ 2147483647) (h_ra : -2147483648 ≤ ra ∧ ra ≤ 2147483647) (hT_es : hOK tT es)
    (K1 : bk < 0 → Q (.inr 2, es, kc + 1, ks + 6))
    (K2 : ¬ (bk < 0) → ∀ v2 : Int, v2 = (gI es 7 5).toInt → v2 ≤ bk → Q (.inr 2, es, kc + 1, ks + 6))
    (K3 : ¬ (bk < 0) → ∀ v2 : Int, v2 = (gI es 7 5).toInt → ¬ (v2 ≤ bk) → kd < 0 → Q (.inr 2, es, kc + 1, ks + 6))
    (K4 : ¬ (bk < 0) → ∀ v2 : Int, v2 = (gI es 7 5).toInt → ¬ (v2 ≤ bk) → ¬ (kd < 0) → ∀ v5 : Int, v5 = (gI es 7 0).toInt → v5 ≤ kd → Q (.inr 2, es, kc + 1, ks + 6))
    (K5 : ¬ (bk < 0) → ∀ v2 : Int, v2 = (gI es 7 5).toInt → ¬ (v2 ≤ bk) → ¬ (kd < 0) → ∀ v5 : Int, v5 = (gI es 7 0).toInt → ¬ (v5 ≤ kd) → fr < (-1) → Q (.inr 0, es, kc + 1, ks + 6))
    (K6 : ¬ (bk < 0) → ∀ v2 : Int, v2 = (gI es 7 5).toInt → ¬ (v2 ≤ bk) → ¬ (kd < 0) → ∀ v5 : Int, v5 = (gI es 7 0).toInt → ¬ (v5 ≤ kd) → ¬ (fr < (-1)) → 6 ≤ fr → Q (.inr 0, es, kc + 1, ks + 6))
    (K7 : ¬ (bk < 0) → ∀ v2 : Int, v2 = (gI es 7 5).toInt → ¬ (v2 ≤ bk) → ¬ (kd < 0) → ∀ v5 : Int, v5 = (gI es 7 0).toInt → ¬ (v5 ≤ kd) → ¬ (fr < (-1)) → ¬ (6 ≤ fr) → fi < 0 → Q (.inr 0, es, kc + 1, ks + 6))
    (K8 : ¬ (bk < 0) → ∀ v2 : Int, v2 = (gI es 7 5).toInt → ¬ (v2 ≤ bk) → ¬ (kd < 0) → ∀ v5 : Int, v5 = (gI es 7 0).toInt → ¬ (v5 ≤ kd) → ¬ (fr < (-1)) → ¬ (6 ≤ fr) → ¬ (fi < 0) → 6 ≤ fi → Q (.inr 0, es, kc + 1, ks + 6))
    (K9 : ¬ (bk < 0) → ∀ v2 : Int, v2 = (gI es 7 5).toInt → ¬ (v2 ≤ bk) → ¬ (kd < 0) → ∀ v5 : Int, v5 = (gI es 7 0).toInt → ¬ (v5 ≤ kd) → ¬ (fr < (-1)) → ¬ (6 ≤ fr) → ¬ (fi < 0) → ¬ (6 ≤ fi) → ra < 0 → Q (.inr 0, es, kc + 1, ks + 6))
    (K10 : ¬ (bk < 0) → ∀ v2 : Int, v2 = (gI es 7 5).toInt → ¬ (v2 ≤ bk) → ¬ (kd < 0) → ∀ v5 : Int, v5 = (gI es 7 0).toInt → ¬ (v5 ≤ kd) → ¬ (fr < (-1)) → ¬ (6 ≤ fr) → ¬ (fi < 0) → ¬ (6 ≤ fi) → ¬ (ra < 0) → 6 ≤ ra → Q (.inr 0, es, kc + 1, ks + 6))
    (K11 : ¬ (bk < 0) → ∀ v2 : Int, v2 = (gI es 7 5).toInt → ¬ (v2 ≤ bk) → ¬ (kd < 0) → ∀ v5 : Int, v5 = (gI es 7 0).toInt → ¬ (v5 ≤ kd) → ¬ (fr < (-1)) → ¬ (6 ≤ fr) → ¬ (fi < 0) → ¬ (6 ≤ fi) → ¬ (ra < 0) → ¬ (6 ≤ ra) → ∀ v13 : Int, v13 = (gA es 13 bk.toNat).toInt → v13 < 24 → ∀ es15 : PH, es15 = sI es 0 10 (.int (zI 0)) → ∀ es16 : PH, es16 = sI es15 73 3 (.int (zI 0)) → ∀ es17 : PH, es17 = sA es16 13 bk.toNat (zI (v13 + 1)) → ∀ es18 : PH, es18 = sA es17 14 (((bk * 24) + v13) * 4).toNat (zI kd) → ∀ es19 : PH, es19 = sA es18 14 ((((bk * 24) + v13) * 4) + 1).toNat (zI fr) → ∀ es20 : PH, es20 = sA es19 14 ((((bk * 24) + v13) * 4) + 2).toNat (zI fi) → ∀ es21 : PH, es21 = sA es20 14 ((((bk * 24) + v13) * 4) + 3).toNat (zI ra) → Q (.inl (some (.int (zI v13))), es21, kc, ks))
    (K12 : ¬ (bk < 0) → ∀ v2 : Int, v2 = (gI es 7 5).toInt → ¬ (v2 ≤ bk) → ¬ (kd < 0) → ∀ v5 : Int, v5 = (gI es 7 0).toInt → ¬ (v5 ≤ kd) → ¬ (fr < (-1)) → ¬ (6 ≤ fr) → ¬ (fi < 0) → ¬ (6 ≤ fi) → ¬ (ra < 0) → ¬ (6 ≤ ra) → ∀ v13 : Int, v13 = (gA es 13 bk.toNat).toInt → ¬ (v13 < 24) → Q (.inr 1, es, kc + 1, ks + 6)) :
    aW O (d + 3) 115 kc ks Q (0, [some (.ref 64), some (.int (zI bk)), some (.int (zI kd)), some (.int (zI fr)), some (.int (zI fi)), some (.int (zI ra)), none], [], es) := by
  refine x0 (r := (1, [some (.ref 64), some (.int (zI bk)), some (.int (zI kd)), some (.int (zI fr)), some (.int (zI fi)), some (.int (zI ra)), none], [.ref 64], es)) i_115_0 rfl ?_
  refine x0 (r := (2, [some (.ref 64), some (.int (zI bk)), some (.int (zI kd)), some (.int (zI fr)), some (.int (zI fi)), some (.int (zI ra)), none], [.int (zI bk), .ref 64], es)) i_115_1 rfl ?_
  refine x_call (vs := [.ref 64, .int (zI bk)]) (rs := []) i_115_2 rfl (fun _ => rfl) rfl rfl rfl rfl rfl (pCall_v (p := 0) hs_es rfl rfl rfl rfl rfl (by decide) rfl rfl rfl rfl rfl) ?_
  show aW _ _ _ _ _ _ (0, [some (.ref 64), some (.int (zI bk))], [], es)
  refine x0 (r := (1, [some (.ref 64), some (.int (zI bk))], [.int (zI bk)], es)) i_116_0 rfl ?_
  by_cases c1 : bk < 0
  · refine x_ifT i_116_1 (by unfold i32 iLO iHI; omega) rfl (by simp only [zC, cR]; omega) ?_
    refine x0 (r := (20, [some (.ref 64), some (.int (zI bk))], [.int (zI 0)], es)) i_116_19 (by rfl) ?_
    refine x_ret (v := some (.int (zI 0))) i_116_20 rfl (fun _ => rfl) rfl rfl (pFin_b (by omega)) ?_
    show aW _ _ _ _ _ _ (5, [some (.ref 64), some (.int (zI bk)), some (.int (zI kd)), some (.int (zI fr)), some (.int (zI fi)), some (.int (zI ra)), none], [.int (zI 0)], es)
    refine x_ifT i_115_5 (by unfold i32 iLO iHI; omega) rfl (by simp only [zC, cR]; omega) ?_
    refine x_thr i_115_16 rfl (fun _ => rfl) rfl rfl rfl rfl ?_
    exact K1 c1
  · refine x_ifF i_116_1 (by unfold i32 iLO iHI; omega) rfl (by simp only [zC, cR]; omega) ?_
    refine x0 (r := (5, [some (.ref 64), some (.int (zI bk))], [.int (zI bk)], es)) i_116_4 rfl ?_
    refine x0 (r := (6, [some (.ref 64), some (.int (zI bk))], [.ref 64, .int (zI bk)], es)) i_116_5 rfl ?_
    refine x_getr (p := 0) (k := 71) i_116_6 hs_es rfl rfl ?_
    show aW _ _ _ _ _ _ (9, [some (.ref 64), some (.int (zI bk))], [.ref 71, .int (zI bk)], es)
    refine x_geti (p := 7) i_116_9 hs_es rfl rfl ?_
    obtain ⟨v2, e_v2⟩ : ∃ z : Int, z = (gI es 7 5).toInt := ⟨_, rfl⟩
    rw [← e_v2]
    have r_v2 : iLO ≤ v2 ∧ v2 ≤ iHI := by rw [e_v2]; exact i32_rng _
    unfold iLO iHI at r_v2
    have b_v2 : (0 : Int) ≤ v2 ∧ v2 ≤ (3 : Int) := by rw [e_v2]; exact gI_bd hT_es (p := 7) (b := 5) rfl rfl
    by_cases c3 : v2 ≤ bk
    · refine x_cmpT i_116_12 (by unfold i32 iLO iHI; omega) (by unfold i32 iLO iHI; omega) rfl (by simp only [zC, cR]; omega) ?_
      refine x0 (r := (20, [some (.ref 64), some (.int (zI bk))], [.int (zI 0)], es)) i_116_19 (by rfl) ?_
      refine x_ret (v := some (.int (zI 0))) i_116_20 rfl (fun _ => rfl) rfl rfl (pFin_b (by omega)) ?_
      show aW _ _ _ _ _ _ (5, [some (.ref 64), some (.int (zI bk)), some (.int (zI kd)), some (.int (zI fr)), some (.int (zI fi)), some (.int (zI ra)), none], [.int (zI 0)], es)
      refine x_ifT i_115_5 (by unfold i32 iLO iHI; omega) rfl (by simp only [zC, cR]; omega) ?_
      refine x_thr i_115_16 rfl (fun _ => rfl) rfl rfl rfl rfl ?_
      exact K2 c1 v2 e_v2 c3
    · refine x_cmpF i_116_12 (by unfold i32 iLO iHI; omega) (by unfold i32 iLO iHI; omega) rfl (by simp only [zC, cR]; omega) ?_
      refine x0 (r := (16, [some (.ref 64), some (.int (zI bk))], [.int (zI 1)], es)) i_116_15 (by rfl) ?_
      refine x0 (r := (20, [some (.ref 64), some (.int (zI bk))], [.int (zI 1)], es)) i_116_16 rfl ?_
      refine x_ret (v := some (.int (zI 1))) i_116_20 rfl (fun _ => rfl) rfl rfl (pFin_b (by omega)) ?_
      show aW _ _ _ _ _ _ (5, [some (.ref 64), some (.int (zI bk)), some (.int (zI kd)), some (.int (zI fr)), some (.int (zI fi)), some (.int (zI ra)), none], [.int (zI 1)], es)
      refine x_ifF i_115_5 (by unfold i32 iLO iHI; omega) rfl (by simp only [zC, cR]; omega) ?_
      refine x0 (r := (9, [some (.ref 64), some (.int (zI bk)), some (.int (zI kd)), some (.int (zI fr)), some (.int (zI fi)), some (.int (zI ra)), none], [.ref 64], es)) i_115_8 rfl ?_
      refine x0 (r := (10, [some (.ref 64), some (.int (zI bk)), some (.int (zI kd)), some (.int (zI fr)), some (.int (zI fi)), some (.int (zI ra)), none], [.int (zI kd), .ref 64], es)) i_115_9 rfl ?_
      refine x_call (vs := [.ref 64, .int (zI kd)]) (rs := []) i_115_10 rfl (fun _ => rfl) rfl rfl rfl rfl rfl (pCall_v (p := 0) hs_es rfl rfl rfl rfl rfl (by decide) rfl rfl rfl rfl rfl) ?_
      show aW _ _ _ _ _ _ (0, [some (.ref 64), some (.int (zI kd))], [], es)
      refine x0 (r := (1, [some (.ref 64), some (.int (zI kd))], [.int (zI kd)], es)) i_104_0 rfl ?_
      by_cases c4 : kd < 0
      · refine x_ifT i_104_1 (by unfold i32 iLO iHI; omega) rfl (by simp only [zC, cR]; omega) ?_
        refine x0 (r := (20, [some (.ref 64), some (.int (zI kd))], [.int (zI 0)], es)) i_104_19 (by rfl) ?_
        refine x_ret (v := some (.int (zI 0))) i_104_20 rfl (fun _ => rfl) rfl rfl (pFin_b (by omega)) ?_
        show aW _ _ _ _ _ _ (13, [some (.ref 64), some (.int (zI bk)), some (.int (zI kd)), some (.int (zI fr)), some (.int (zI fi)), some (.int (zI ra)), none], [.int (zI 0)], es)
        refine x_ifF i_115_13 (by unfold i32 iLO iHI; omega) rfl (by simp only [zC, cR]; omega) ?_
        refine x_thr i_115_16 rfl (fun _ => rfl) rfl rfl rfl rfl ?_
        exact K3 c1 v2 e_v2 c3 c4
      · refine x_ifF i_104_1 (by unfold i32 iLO iHI; omega) rfl (by simp only [zC, cR]; omega) ?_
        refine x0 (r := (5, [some (.ref 64), some (.int (zI kd))], [.int (zI kd)], es)) i_104_4 rfl ?_
        refine x0 (r := (6, [some (.ref 64), some (.int (zI kd))], [.ref 64, .int (zI kd)], es)) i_104_5 rfl ?_
        refine x_getr (p := 0) (k := 71) i_104_6 hs_es rfl rfl ?_
        show aW _ _ _ _ _ _ (9, [some (.ref 64), some (.int (zI kd))], [.ref 71, .int (zI kd)], es)
        refine x_geti (p := 7) i_104_9 hs_es rfl rfl ?_
        obtain ⟨v5, e_v5⟩ : ∃ z : Int, z = (gI es 7 0).toInt := ⟨_, rfl⟩
        rw [← e_v5]
        have r_v5 : iLO ≤ v5 ∧ v5 ≤ iHI := by rw [e_v5]; exact i32_rng _
        unfold iLO iHI at r_v5
        by_cases c6 : v5 ≤ kd
        · refine x_cmpT i_104_12 (by unfold i32 iLO iHI; omega) (by unfold i32 iLO iHI; omega) rfl (by simp only [zC, cR]; omega) ?_
          refine x0 (r := (20, [some (.ref 64), some (.int (zI kd))], [.int (zI 0)], es)) i_104_19 (by rfl) ?_
          refine x_ret (v := some (.int (zI 0))) i_104_20 rfl (fun _ => rfl) rfl rfl (pFin_b (by omega)) ?_
          show aW _ _ _ _ _ _ (13, [some (.ref 64), some (.int (zI bk)), some (.int (zI kd)), some (.int (zI fr)), some (.int (zI fi)), some (.int (zI ra)), none], [.int (zI 0)], es)
          refine x_ifF i_115_13 (by unfold i32 iLO iHI; omega) rfl (by simp only [zC, cR]; omega) ?_
          refine x_thr i_115_16 rfl (fun _ => rfl) rfl rfl rfl rfl ?_
          exact K4 c1 v2 e_v2 c3 c4 v5 e_v5 c6
        · refine x_cmpF i_104_12 (by unfold i32 iLO iHI; omega) (by unfold i32 iLO iHI; omega) rfl (by simp only [zC, cR]; omega) ?_
          refine x0 (r := (16, [some (.ref 64), some (.int (zI kd))], [.int (zI 1)], es)) i_104_15 (by rfl) ?_
          refine x0 (r := (20, [some (.ref 64), some (.int (zI kd))], [.int (zI 1)], es)) i_104_16 rfl ?_
          refine x_ret (v := some (.int (zI 1))) i_104_20 rfl (fun _ => rfl) rfl rfl (pFin_b (by omega)) ?_
          show aW _ _ _ _ _ _ (13, [some (.ref 64), some (.int (zI bk)), some (.int (zI kd)), some (.int (zI fr)), some (.int (zI fi)), some (.int (zI ra)), none], [.int (zI 1)], es)
          refine x_ifT i_115_13 (by unfold i32 iLO iHI; omega) rfl (by simp only [zC, cR]; omega) ?_
          refine x0 (r := (27, [some (.ref 64), some (.int (zI bk)), some (.int (zI kd)), some (.int (zI fr)), some (.int (zI fi)), some (.int (zI ra)), none], [.int (zI fr)], es)) i_115_26 rfl ?_
          refine x0 (r := (29, [some (.ref 64), some (.int (zI bk)), some (.int (zI kd)), some (.int (zI fr)), some (.int (zI fi)), some (.int (zI ra)), none], [.int (zI fi), .int (zI fr)], es)) i_115_27 rfl ?_
          refine x0 (r := (31, [some (.ref 64), some (.int (zI bk)), some (.int (zI kd)), some (.int (zI fr)), some (.int (zI fi)), some (.int (zI ra)), none], [.int (zI ra), .int (zI fi), .int (zI fr)], es)) i_115_29 rfl ?_
          refine x_call (vs := [.int (zI fr), .int (zI fi), .int (zI ra)]) (rs := []) i_115_31 rfl (fun _ => rfl) rfl rfl rfl rfl rfl rfl ?_
          show aW _ _ _ _ _ _ (0, [some (.int (zI fr)), some (.int (zI fi)), some (.int (zI ra))], [], es)
          refine x0 (r := (1, [some (.int (zI fr)), some (.int (zI fi)), some (.int (zI ra))], [.int (zI fr)], es)) i_117_0 rfl ?_
          refine x0 (r := (2, [some (.int (zI fr)), some (.int (zI fi)), some (.int (zI ra))], [.int (zI (-1)), .int (zI fr)], es)) i_117_1 (by rfl) ?_
          by_cases c7 : fr < (-1)
          · refine x_cmpT i_117_2 (by unfold i32 iLO iHI; omega) (by unfold i32 iLO iHI; omega) rfl (by simp only [zC, cR]; omega) ?_
            refine x0 (r := (36, [some (.int (zI fr)), some (.int (zI fi)), some (.int (zI ra))], [.int (zI 0)], es)) i_117_35 (by rfl) ?_
            refine x_ret (v := some (.int (zI 0))) i_117_36 rfl (fun _ => rfl) rfl rfl (pFin_b (by omega)) ?_
            show aW _ _ _ _ _ _ (34, [some (.ref 64), some (.int (zI bk)), some (.int (zI kd)), some (.int (zI fr)), some (.int (zI fi)), some (.int (zI ra)), none], [.int (zI 0)], es)
            refine x_ifF i_115_34 (by unfold i32 iLO iHI; omega) rfl (by simp only [zC, cR]; omega) ?_
            refine x_thr i_115_37 rfl (fun _ => rfl) rfl rfl rfl rfl ?_
            exact K5 c1 v2 e_v2 c3 c4 v5 e_v5 c6 c7
          · refine x_cmpF i_117_2 (by unfold i32 iLO iHI; omega) (by unfold i32 iLO iHI; omega) rfl (by simp only [zC, cR]; omega) ?_
            refine x0 (r := (6, [some (.int (zI fr)), some (.int (zI fi)), some (.int (zI ra))], [.int (zI fr)], es)) i_117_5 rfl ?_
            refine x0 (r := (8, [some (.int (zI fr)), some (.int (zI fi)), some (.int (zI ra))], [.int (zI 6), .int (zI fr)], es)) i_117_6 (by rfl) ?_
            by_cases c8 : 6 ≤ fr
            · refine x_cmpT i_117_8 (by unfold i32 iLO iHI; omega) (by unfold i32 iLO iHI; omega) rfl (by simp only [zC, cR]; omega) ?_
              refine x0 (r := (36, [some (.int (zI fr)), some (.int (zI fi)), some (.int (zI ra))], [.int (zI 0)], es)) i_117_35 (by rfl) ?_
              refine x_ret (v := some (.int (zI 0))) i_117_36 rfl (fun _ => rfl) rfl rfl (pFin_b (by omega)) ?_
              show aW _ _ _ _ _ _ (34, [some (.ref 64), some (.int (zI bk)), some (.int (zI kd)), some (.int (zI fr)), some (.int (zI fi)), some (.int (zI ra)), none], [.int (zI 0)], es)
              refine x_ifF i_115_34 (by unfold i32 iLO iHI; omega) rfl (by simp only [zC, cR]; omega) ?_
              refine x_thr i_115_37 rfl (fun _ => rfl) rfl rfl rfl rfl ?_
              exact K6 c1 v2 e_v2 c3 c4 v5 e_v5 c6 c7 c8
            · refine x_cmpF i_117_8 (by unfold i32 iLO iHI; omega) (by unfold i32 iLO iHI; omega) rfl (by simp only [zC, cR]; omega) ?_
              refine x0 (r := (12, [some (.int (zI fr)), some (.int (zI fi)), some (.int (zI ra))], [.int (zI fi)], es)) i_117_11 rfl ?_
              by_cases c9 : fi < 0
              · refine x_ifT i_117_12 (by unfold i32 iLO iHI; omega) rfl (by simp only [zC, cR]; omega) ?_
                refine x0 (r := (36, [some (.int (zI fr)), some (.int (zI fi)), some (.int (zI ra))], [.int (zI 0)], es)) i_117_35 (by rfl) ?_
                refine x_ret (v := some (.int (zI 0))) i_117_36 rfl (fun _ => rfl) rfl rfl (pFin_b (by omega)) ?_
                show aW _ _ _ _ _ _ (34, [some (.ref 64), some (.int (zI bk)), some (.int (zI kd)), some (.int (zI fr)), some (.int (zI fi)), some (.int (zI ra)), none], [.int (zI 0)], es)
                refine x_ifF i_115_34 (by unfold i32 iLO iHI; omega) rfl (by simp only [zC, cR]; omega) ?_
                refine x_thr i_115_37 rfl (fun _ => rfl) rfl rfl rfl rfl ?_
                exact K7 c1 v2 e_v2 c3 c4 v5 e_v5 c6 c7 c8 c9
              · refine x_ifF i_117_12 (by unfold i32 iLO iHI; omega) rfl (by simp only [zC, cR]; omega) ?_
                refine x0 (r := (16, [some (.int (zI fr)), some (.int (zI fi)), some (.int (zI ra))], [.int (zI fi)], es)) i_117_15 rfl ?_
                refine x0 (r := (18, [some (.int (zI fr)), some (.int (zI fi)), some (.int (zI ra))], [.int (zI 6), .int (zI fi)], es)) i_117_16 (by rfl) ?_
                by_cases c10 : 6 ≤ fi
                · refine x_cmpT i_117_18 (by unfold i32 iLO iHI; omega) (by unfold i32 iLO iHI; omega) rfl (by simp only [zC, cR]; omega) ?_
                  refine x0 (r := (36, [some (.int (zI fr)), some (.int (zI fi)), some (.int (zI ra))], [.int (zI 0)], es)) i_117_35 (by rfl) ?_
                  refine x_ret (v := some (.int (zI 0))) i_117_36 rfl (fun _ => rfl) rfl rfl (pFin_b (by omega)) ?_
                  show aW _ _ _ _ _ _ (34, [some (.ref 64), some (.int (zI bk)), some (.int (zI kd)), some (.int (zI fr)), some (.int (zI fi)), some (.int (zI ra)), none], [.int (zI 0)], es)
                  refine x_ifF i_115_34 (by unfold i32 iLO iHI; omega) rfl (by simp only [zC, cR]; omega) ?_
                  refine x_thr i_115_37 rfl (fun _ => rfl) rfl rfl rfl rfl ?_
                  exact K8 c1 v2 e_v2 c3 c4 v5 e_v5 c6 c7 c8 c9 c10
                · refine x_cmpF i_117_18 (by unfold i32 iLO iHI; omega) (by unfold i32 iLO iHI; omega) rfl (by simp only [zC, cR]; omega) ?_
                  refine x0 (r := (22, [some (.int (zI fr)), some (.int (zI fi)), some (.int (zI ra))], [.int (zI ra)], es)) i_117_21 rfl ?_
                  by_cases c11 : ra < 0
                  · refine x_ifT i_117_22 (by unfold i32 iLO iHI; omega) rfl (by simp only [zC, cR]; omega) ?_
                    refine x0 (r := (36, [some (.int (zI fr)), some (.int (zI fi)), some (.int (zI ra))], [.int (zI 0)], es)) i_117_35 (by rfl) ?_
                    refine x_ret (v := some (.int (zI 0))) i_117_36 rfl (fun _ => rfl) rfl rfl (pFin_b (by omega)) ?_
                    show aW _ _ _ _ _ _ (34, [some (.ref 64), some (.int (zI bk)), some (.int (zI kd)), some (.int (zI fr)), some (.int (zI fi)), some (.int (zI ra)), none], [.int (zI 0)], es)
                    refine x_ifF i_115_34 (by unfold i32 iLO iHI; omega) rfl (by simp only [zC, cR]; omega) ?_
                    refine x_thr i_115_37 rfl (fun _ => rfl) rfl rfl rfl rfl ?_
                    exact K9 c1 v2 e_v2 c3 c4 v5 e_v5 c6 c7 c8 c9 c10 c11
                  · refine x_ifF i_117_22 (by unfold i32 iLO iHI; omega) rfl (by simp only [zC, cR]; omega) ?_
                    refine x0 (r := (26, [some (.int (zI fr)), some (.int (zI fi)), some (.int (zI ra))], [.int (zI ra)], es)) i_117_25 rfl ?_
                    refine x0 (r := (28, [some (.int (zI fr)), some (.int (zI fi)), some (.int (zI ra))], [.int (zI 6), .int (zI ra)], es)) i_117_26 (by rfl) ?_
                    by_cases c12 : 6 ≤ ra
                    · refine x_cmpT i_117_28 (by unfold i32 iLO iHI; omega) (by unfold i32 iLO iHI; omega) rfl (by simp only [zC, cR]; omega) ?_
                      refine x0 (r := (36, [some (.int (zI fr)), some (.int (zI fi)), some (.int (zI ra))], [.int (zI 0)], es)) i_117_35 (by rfl) ?_
                      refine x_ret (v := some (.int (zI 0))) i_117_36 rfl (fun _ => rfl) rfl rfl (pFin_b (by omega)) ?_
                      show aW _ _ _ _ _ _ (34, [some (.ref 64), some (.int (zI bk)), some (.int (zI kd)), some (.int (zI fr)), some (.int (zI fi)), some (.int (zI ra)), none], [.int (zI 0)], es)
                      refine x_ifF i_115_34 (by unfold i32 iLO iHI; omega) rfl (by simp only [zC, cR]; omega) ?_
                      refine x_thr i_115_37 rfl (fun _ => rfl) rfl rfl rfl rfl ?_
                      exact K10 c1 v2 e_v2 c3 c4 v5 e_v5 c6 c7 c8 c9 c10 c11 c12
                    · refine x_cmpF i_117_28 (by unfold i32 iLO iHI; omega) (by unfold i32 iLO iHI; omega) rfl (by simp only [zC, cR]; omega) ?_
                      refine x0 (r := (32, [some (.int (zI fr)), some (.int (zI fi)), some (.int (zI ra))], [.int (zI 1)], es)) i_117_31 (by rfl) ?_
                      refine x0 (r := (36, [some (.int (zI fr)), some (.int (zI fi)), some (.int (zI ra))], [.int (zI 1)], es)) i_117_32 rfl ?_
                      refine x_ret (v := some (.int (zI 1))) i_117_36 rfl (fun _ => rfl) rfl rfl (pFin_b (by omega)) ?_
                      show aW _ _ _ _ _ _ (34, [some (.ref 64), some (.int (zI bk)), some (.int (zI kd)), some (.int (zI fr)), some (.int (zI fi)), some (.int (zI ra)), none], [.int (zI 1)], es)
                      refine x_ifT i_115_34 (by unfold i32 iLO iHI; omega) rfl (by simp only [zC, cR]; omega) ?_
                      refine x0 (r := (48, [some (.ref 64), some (.int (zI bk)), some (.int (zI kd)), some (.int (zI fr)), some (.int (zI fi)), some (.int (zI ra)), none], [.ref 64], es)) i_115_47 rfl ?_
                      refine x_getr (p := 0) (k := 71) i_115_48 hs_es rfl rfl ?_
                      show aW _ _ _ _ _ _ (51, [some (.ref 64), some (.int (zI bk)), some (.int (zI kd)), some (.int (zI fr)), some (.int (zI fi)), some (.int (zI ra)), none], [.ref 71], es)
                      refine x0 (r := (52, [some (.ref 64), some (.int (zI bk)), some (.int (zI kd)), some (.int (zI fr)), some (.int (zI fi)), some (.int (zI ra)), none], [.int (zI bk), .ref 71], es)) i_115_51 rfl ?_
                      refine x_call (vs := [.ref 71, .int (zI bk)]) (rs := []) i_115_52 rfl (fun _ => rfl) rfl rfl rfl rfl rfl (pCall_v (p := 7) hs_es rfl rfl rfl rfl rfl (by decide) rfl rfl rfl rfl rfl) ?_
                      show aW _ _ _ _ _ _ (0, [some (.ref 71), some (.int (zI bk))], [], es)
                      refine x0 (r := (1, [some (.ref 71), some (.int (zI bk))], [.ref 71], es)) i_35_0 rfl ?_
                      refine x_getr (p := 7) (k := 77) i_35_1 hs_es rfl rfl ?_
                      show aW _ _ _ _ _ _ (4, [some (.ref 71), some (.int (zI bk))], [.ref 77], es)
                      refine x0 (r := (5, [some (.ref 71), some (.int (zI bk))], [.int (zI bk), .ref 77], es)) i_35_4 rfl ?_
                      refine x_call (vs := [.ref 77, .int (zI bk)]) (rs := []) i_35_5 rfl (fun _ => rfl) rfl rfl rfl rfl rfl rfl ?_
                      show aW _ _ _ _ _ _ (0, [some (.ref 77), some (.int (zI bk))], [], es)
                      refine x0 (r := (1, [some (.ref 77), some (.int (zI bk))], [.int (zI bk)], es)) i_28_0 rfl ?_
                      refine x_ifF i_28_1 (by unfold i32 iLO iHI; omega) rfl (by simp only [zC, cR]; omega) ?_
                      refine x0 (r := (5, [some (.ref 77), some (.int (zI bk))], [.int (zI bk)], es)) i_28_4 rfl ?_
                      refine x0 (r := (6, [some (.ref 77), some (.int (zI bk))], [.ref 77, .int (zI bk)], es)) i_28_5 rfl ?_
                      refine x_alen (p := 13) (n := 3) i_28_6 hs_es rfl ?_
                      refine x_cmpF i_28_7 (by unfold i32 iLO iHI; omega) (by unfold i32 iLO iHI; omega) rfl (by simp only [zC, cR]; omega) ?_
                      refine x0 (r := (11, [some (.ref 77), some (.int (zI bk))], [.ref 77], es)) i_28_10 rfl ?_
                      refine x0 (r := (12, [some (.ref 77), some (.int (zI bk))], [.int (zI bk), .ref 77], es)) i_28_11 rfl ?_
                      refine x_iald (p := 13) i_28_12 hs_es rfl (by unfold i32 iLO iHI; omega) (by omega) (by omega) ?_
                      obtain ⟨v13, e_v13⟩ : ∃ z : Int, z = (gA es 13 bk.toNat).toInt := ⟨_, rfl⟩
                      rw [← e_v13]
                      have r_v13 : iLO ≤ v13 ∧ v13 ≤ iHI := by rw [e_v13]; exact i32_rng _
                      unfold iLO iHI at r_v13
                      have b_v13 : (0 : Int) ≤ v13 ∧ v13 ≤ (24 : Int) := by rw [e_v13]; exact gA_bd hT_es (p := 13) (k := bk.toNat) rfl (by omega) (by decide)
                      refine x0 (r := (17, [some (.ref 77), some (.int (zI bk))], [.int (zI v13)], es)) i_28_13 rfl ?_
                      refine x_ret (v := some (.int (zI v13))) i_28_17 rfl (fun _ => rfl) rfl rfl rfl ?_
                      show aW _ _ _ _ _ _ (8, [some (.ref 71), some (.int (zI bk))], [.int (zI v13)], es)
                      refine x_ret (v := some (.int (zI v13))) i_35_8 rfl (fun _ => rfl) rfl rfl rfl ?_
                      show aW _ _ _ _ _ _ (55, [some (.ref 64), some (.int (zI bk)), some (.int (zI kd)), some (.int (zI fr)), some (.int (zI fi)), some (.int (zI ra)), none], [.int (zI v13)], es)
                      refine x0 (r := (57, [some (.ref 64), some (.int (zI bk)), some (.int (zI kd)), some (.int (zI fr)), some (.int (zI fi)), some (.int (zI ra)), none], [.int (zI 24), .int (zI v13)], es)) i_115_55 (by rfl) ?_
                      by_cases c14 : v13 < 24
                      · refine x_cmpT i_115_57 (by unfold i32 iLO iHI; omega) (by unfold i32 iLO iHI; omega) rfl (by simp only [zC, cR]; omega) ?_
                        refine x0 (r := (71, [some (.ref 64), some (.int (zI bk)), some (.int (zI kd)), some (.int (zI fr)), some (.int (zI fi)), some (.int (zI ra)), none], [.ref 64], es)) i_115_70 rfl ?_
                        refine x_call (vs := [.ref 64]) (rs := []) i_115_71 rfl (fun _ => rfl) rfl rfl rfl rfl rfl (pCall_v (p := 0) hs_es rfl rfl rfl rfl rfl (by decide) rfl rfl rfl rfl rfl) ?_
                        show aW _ _ _ _ _ _ (0, [some (.ref 64)], [], es)
                        refine x0 (r := (1, [some (.ref 64)], [.ref 64], es)) i_73_0 rfl ?_
                        refine x0 (r := (2, [some (.ref 64)], [.int (zI 0), .ref 64], es)) i_73_1 (by rfl) ?_
                        refine x_puti (p := 0) (ty := .boolean) i_73_2 hs_es rfl rfl rfl (Or.inr ⟨rfl, by omega⟩) ?_
                        obtain ⟨es15, e_es15⟩ : ∃ z : PH, z = sI es 0 10 (.int (zI 0)) := ⟨_, rfl⟩
                        have hs_es15 : sh es15 := by rw [e_es15]; exact sh_sI hs_es (p := 0) (b := 10) rfl rfl
                        have hT_es15 : hOK tT es15 := by rw [e_es15]; exact hOK_sI hT_es (p := 0) (b := 10) rfl rfl (by rw [zI_toInt (by unfold i32 iLO iHI; omega)]; exact ⟨by show (0 : Int) ≤ 0; omega, by show 0 ≤ (1 : Int); omega⟩)
                        rw [← e_es15]
                        refine x0 (r := (6, [some (.ref 64)], [.ref 64], es15)) i_73_5 rfl ?_
                        refine x_getr (p := 0) (k := 137) i_73_6 hs_es15 rfl rfl ?_
                        show aW _ _ _ _ _ _ (9, [some (.ref 64)], [.ref 137], es15)
                        refine x0 (r := (10, [some (.ref 64)], [.int (zI 0), .ref 137], es15)) i_73_9 (by rfl) ?_
                        refine x_puti (p := 73) (ty := .boolean) i_73_10 hs_es15 rfl rfl rfl (Or.inr ⟨rfl, by omega⟩) ?_
                        obtain ⟨es16, e_es16⟩ : ∃ z : PH, z = sI es15 73 3 (.int (zI 0)) := ⟨_, rfl⟩
                        have hs_es16 : sh es16 := by rw [e_es16]; exact sh_sI hs_es15 (p := 73) (b := 3) rfl rfl
                        have hT_es16 : hOK tT es16 := by rw [e_es16]; exact hOK_sI hT_es15 (p := 73) (b := 3) rfl rfl (by rw [zI_toInt (by unfold i32 iLO iHI; omega)]; exact ⟨by show (0 : Int) ≤ 0; omega, by show 0 ≤ (1 : Int); omega⟩)
                        rw [← e_es16]
                        refine x_ret (v := none) i_73_13 rfl (fun _ => rfl) rfl rfl rfl ?_
                        show aW _ _ _ _ _ _ (74, [some (.ref 64), some (.int (zI bk)), some (.int (zI kd)), some (.int (zI fr)), some (.int (zI fi)), some (.int (zI ra)), none], [], es16)
                        refine x0 (r := (75, [some (.ref 64), some (.int (zI bk)), some (.int (zI kd)), some (.int (zI fr)), some (.int (zI fi)), some (.int (zI ra)), none], [.ref 64], es16)) i_115_74 rfl ?_
                        refine x_getr (p := 0) (k := 71) i_115_75 hs_es16 rfl rfl ?_
                        show aW _ _ _ _ _ _ (78, [some (.ref 64), some (.int (zI bk)), some (.int (zI kd)), some (.int (zI fr)), some (.int (zI fi)), some (.int (zI ra)), none], [.ref 71], es16)
                        refine x0 (r := (79, [some (.ref 64), some (.int (zI bk)), some (.int (zI kd)), some (.int (zI fr)), some (.int (zI fi)), some (.int (zI ra)), none], [.int (zI bk), .ref 71], es16)) i_115_78 rfl ?_
                        refine x_call (vs := [.ref 71, .int (zI bk)]) (rs := []) i_115_79 rfl (fun _ => rfl) rfl rfl rfl rfl rfl (pCall_v (p := 7) hs_es16 rfl rfl rfl rfl rfl (by decide) rfl rfl rfl rfl rfl) ?_
                        show aW _ _ _ _ _ _ (0, [some (.ref 71), some (.int (zI bk)), none], [], es16)
                        refine x0 (r := (1, [some (.ref 71), some (.int (zI bk)), none], [.ref 71], es16)) i_118_0 rfl ?_
                        refine x0 (r := (2, [some (.ref 71), some (.int (zI bk)), none], [.int (zI bk), .ref 71], es16)) i_118_1 rfl ?_
                        refine x_call (vs := [.ref 71, .int (zI bk)]) (rs := []) i_118_2 rfl (fun _ => rfl) rfl rfl rfl rfl rfl (pCall_v (p := 7) hs_es16 rfl rfl rfl rfl rfl (by decide) rfl rfl rfl rfl rfl) ?_
                        show aW _ _ _ _ _ _ (0, [some (.ref 71), some (.int (zI bk))], [], es16)
                        refine x0 (r := (1, [some (.ref 71), some (.int (zI bk))], [.ref 71], es16)) i_35_0 rfl ?_
                        refine x_getr (p := 7) (k := 77) i_35_1 hs_es16 rfl rfl ?_
                        show aW _ _ _ _ _ _ (4, [some (.ref 71), some (.int (zI bk))], [.ref 77], es16)
                        refine x0 (r := (5, [some (.ref 71), some (.int (zI bk))], [.int (zI bk), .ref 77], es16)) i_35_4 rfl ?_
                        refine x_call (vs := [.ref 77, .int (zI bk)]) (rs := []) i_35_5 rfl (fun _ => rfl) rfl rfl rfl rfl rfl rfl ?_
                        show aW _ _ _ _ _ _ (0, [some (.ref 77), some (.int (zI bk))], [], es16)
                        refine x0 (r := (1, [some (.ref 77), some (.int (zI bk))], [.int (zI bk)], es16)) i_28_0 rfl ?_
                        refine x_ifF i_28_1 (by unfold i32 iLO iHI; omega) rfl (by simp only [zC, cR]; omega) ?_
                        refine x0 (r := (5, [some (.ref 77), some (.int (zI bk))], [.int (zI bk)], es16)) i_28_4 rfl ?_
                        refine x0 (r := (6, [some (.ref 77), some (.int (zI bk))], [.ref 77, .int (zI bk)], es16)) i_28_5 rfl ?_
                        refine x_alen (p := 13) (n := 3) i_28_6 hs_es16 rfl ?_
                        refine x_cmpF i_28_7 (by unfold i32 iLO iHI; omega) (by unfold i32 iLO iHI; omega) rfl (by simp only [zC, cR]; omega) ?_
                        refine x0 (r := (11, [some (.ref 77), some (.int (zI bk))], [.ref 77], es16)) i_28_10 rfl ?_
                        refine x0 (r := (12, [some (.ref 77), some (.int (zI bk))], [.int (zI bk), .ref 77], es16)) i_28_11 rfl ?_
                        refine x_iald (p := 13) i_28_12 hs_es16 rfl (by unfold i32 iLO iHI; omega) (by omega) (by omega) ?_
                        rw [show (gA es16 13 bk.toNat).toInt = v13 from by rw [e_es16, gA_sI, e_es15, gA_sI]; exact e_v13.symm]
                        refine x0 (r := (17, [some (.ref 77), some (.int (zI bk))], [.int (zI v13)], es16)) i_28_13 rfl ?_
                        refine x_ret (v := some (.int (zI v13))) i_28_17 rfl (fun _ => rfl) rfl rfl rfl ?_
                        show aW _ _ _ _ _ _ (8, [some (.ref 71), some (.int (zI bk))], [.int (zI v13)], es16)
                        refine x_ret (v := some (.int (zI v13))) i_35_8 rfl (fun _ => rfl) rfl rfl rfl ?_
                        show aW _ _ _ _ _ _ (5, [some (.ref 71), some (.int (zI bk)), none], [.int (zI v13)], es16)
                        refine x0 (r := (6, [some (.ref 71), some (.int (zI bk)), some (.int (zI v13))], [], es16)) i_118_5 rfl ?_
                        refine x0 (r := (7, [some (.ref 71), some (.int (zI bk)), some (.int (zI v13))], [.ref 71], es16)) i_118_6 rfl ?_
                        refine x_getr (p := 7) (k := 77) i_118_7 hs_es16 rfl rfl ?_
                        show aW _ _ _ _ _ _ (10, [some (.ref 71), some (.int (zI bk)), some (.int (zI v13))], [.ref 77], es16)
                        refine x0 (r := (11, [some (.ref 71), some (.int (zI bk)), some (.int (zI v13))], [.int (zI bk), .ref 77], es16)) i_118_10 rfl ?_
                        refine x0 (r := (12, [some (.ref 71), some (.int (zI bk)), some (.int (zI v13))], [.int (zI v13), .int (zI bk), .ref 77], es16)) i_118_11 rfl ?_
                        refine x0 (r := (13, [some (.ref 71), some (.int (zI bk)), some (.int (zI v13))], [.int (zI 1), .int (zI v13), .int (zI bk), .ref 77], es16)) i_118_12 (by rfl) ?_
                        refine x_iadd i_118_13 ?_
                        refine x_call (vs := [.ref 77, .int (zI bk), .int (zI (v13 + 1))]) (rs := []) i_118_14 rfl (fun _ => rfl) rfl rfl rfl rfl rfl rfl ?_
                        show aW _ _ _ _ _ _ (0, [some (.ref 77), some (.int (zI bk)), some (.int (zI (v13 + 1)))], [], es16)
                        refine x0 (r := (1, [some (.ref 77), some (.int (zI bk)), some (.int (zI (v13 + 1)))], [.int (zI bk)], es16)) i_14_0 rfl ?_
                        refine x_ifF i_14_1 (by unfold i32 iLO iHI; omega) rfl (by simp only [zC, cR]; omega) ?_
                        refine x0 (r := (5, [some (.ref 77), some (.int (zI bk)), some (.int (zI (v13 + 1)))], [.int (zI bk)], es16)) i_14_4 rfl ?_
                        refine x0 (r := (6, [some (.ref 77), some (.int (zI bk)), some (.int (zI (v13 + 1)))], [.ref 77, .int (zI bk)], es16)) i_14_5 rfl ?_
                        refine x_alen (p := 13) (n := 3) i_14_6 hs_es16 rfl ?_
                        refine x_cmpF i_14_7 (by unfold i32 iLO iHI; omega) (by unfold i32 iLO iHI; omega) rfl (by simp only [zC, cR]; omega) ?_
                        refine x0 (r := (11, [some (.ref 77), some (.int (zI bk)), some (.int (zI (v13 + 1)))], [.ref 77], es16)) i_14_10 rfl ?_
                        refine x0 (r := (12, [some (.ref 77), some (.int (zI bk)), some (.int (zI (v13 + 1)))], [.int (zI bk), .ref 77], es16)) i_14_11 rfl ?_
                        refine x0 (r := (13, [some (.ref 77), some (.int (zI bk)), some (.int (zI (v13 + 1)))], [.int (zI (v13 + 1)), .int (zI bk), .ref 77], es16)) i_14_12 rfl ?_
                        refine x_iast (p := 13) i_14_13 hs_es16 rfl (by unfold i32 iLO iHI; omega) (by omega) (by omega) ?_
                        obtain ⟨es17, e_es17⟩ : ∃ z : PH, z = sA es16 13 bk.toNat (zI (v13 + 1)) := ⟨_, rfl⟩
                        have hs_es17 : sh es17 := by rw [e_es17]; exact sh_sA hs_es16
                        have hT_es17 : hOK tT es17 := by rw [e_es17]; exact hOK_sA hT_es16 (p := 13) (n := 3) rfl (fun _ => by rw [zI_toInt (by unfold i32 iLO iHI; omega)]; exact ⟨by show (0 : Int) ≤ (v13 + 1); omega, by show (v13 + 1) ≤ (24 : Int); omega⟩)
                        rw [← e_es17]
                        refine x_ret (v := none) i_14_14 rfl (fun _ => rfl) rfl rfl rfl ?_
                        show aW _ _ _ _ _ _ (17, [some (.ref 71), some (.int (zI bk)), some (.int (zI v13))], [], es17)
                        refine x0 (r := (18, [some (.ref 71), some (.int (zI bk)), some (.int (zI v13))], [.int (zI v13)], es17)) i_118_17 rfl ?_
                        refine x_ret (v := some (.int (zI v13))) i_118_18 rfl (fun _ => rfl) rfl rfl rfl ?_
                        show aW _ _ _ _ _ _ (82, [some (.ref 64), some (.int (zI bk)), some (.int (zI kd)), some (.int (zI fr)), some (.int (zI fi)), some (.int (zI ra)), none], [.int (zI v13)], es17)
                        refine x0 (r := (84, [some (.ref 64), some (.int (zI bk)), some (.int (zI kd)), some (.int (zI fr)), some (.int (zI fi)), some (.int (zI ra)), some (.int (zI v13))], [], es17)) i_115_82 rfl ?_
                        refine x0 (r := (85, [some (.ref 64), some (.int (zI bk)), some (.int (zI kd)), some (.int (zI fr)), some (.int (zI fi)), some (.int (zI ra)), some (.int (zI v13))], [.ref 64], es17)) i_115_84 rfl ?_
                        refine x_getr (p := 0) (k := 71) i_115_85 hs_es17 rfl rfl ?_
                        show aW _ _ _ _ _ _ (88, [some (.ref 64), some (.int (zI bk)), some (.int (zI kd)), some (.int (zI fr)), some (.int (zI fi)), some (.int (zI ra)), some (.int (zI v13))], [.ref 71], es17)
                        refine x0 (r := (89, [some (.ref 64), some (.int (zI bk)), some (.int (zI kd)), some (.int (zI fr)), some (.int (zI fi)), some (.int (zI ra)), some (.int (zI v13))], [.int (zI bk), .ref 71], es17)) i_115_88 rfl ?_
                        refine x0 (r := (91, [some (.ref 64), some (.int (zI bk)), some (.int (zI kd)), some (.int (zI fr)), some (.int (zI fi)), some (.int (zI ra)), some (.int (zI v13))], [.int (zI v13), .int (zI bk), .ref 71], es17)) i_115_89 rfl ?_
                        refine x0 (r := (92, [some (.ref 64), some (.int (zI bk)), some (.int (zI kd)), some (.int (zI fr)), some (.int (zI fi)), some (.int (zI ra)), some (.int (zI v13))], [.int (zI kd), .int (zI v13), .int (zI bk), .ref 71], es17)) i_115_91 rfl ?_
                        refine x0 (r := (93, [some (.ref 64), some (.int (zI bk)), some (.int (zI kd)), some (.int (zI fr)), some (.int (zI fi)), some (.int (zI ra)), some (.int (zI v13))], [.int (zI fr), .int (zI kd), .int (zI v13), .int (zI bk), .ref 71], es17)) i_115_92 rfl ?_
                        refine x0 (r := (95, [some (.ref 64), some (.int (zI bk)), some (.int (zI kd)), some (.int (zI fr)), some (.int (zI fi)), some (.int (zI ra)), some (.int (zI v13))], [.int (zI fi), .int (zI fr), .int (zI kd), .int (zI v13), .int (zI bk), .ref 71], es17)) i_115_93 rfl ?_
                        refine x0 (r := (97, [some (.ref 64), some (.int (zI bk)), some (.int (zI kd)), some (.int (zI fr)), some (.int (zI fi)), some (.int (zI ra)), some (.int (zI v13))], [.int (zI ra), .int (zI fi), .int (zI fr), .int (zI kd), .int (zI v13), .int (zI bk), .ref 71], es17)) i_115_95 rfl ?_
                        refine x_call (vs := [.ref 71, .int (zI bk), .int (zI v13), .int (zI kd), .int (zI fr), .int (zI fi), .int (zI ra)]) (rs := []) i_115_97 rfl (fun _ => rfl) rfl rfl rfl rfl rfl (pCall_v (p := 7) hs_es17 rfl rfl rfl rfl rfl (by decide) rfl rfl rfl rfl rfl) ?_
                        show aW _ _ _ _ _ _ (0, [some (.ref 71), some (.int (zI bk)), some (.int (zI v13)), some (.int (zI kd)), some (.int (zI fr)), some (.int (zI fi)), some (.int (zI ra)), none], [], es17)
                        refine x0 (r := (1, [some (.ref 71), some (.int (zI bk)), some (.int (zI v13)), some (.int (zI kd)), some (.int (zI fr)), some (.int (zI fi)), some (.int (zI ra)), none], [.int (zI bk)], es17)) i_119_0 rfl ?_
                        refine x0 (r := (3, [some (.ref 71), some (.int (zI bk)), some (.int (zI v13)), some (.int (zI kd)), some (.int (zI fr)), some (.int (zI fi)), some (.int (zI ra)), none], [.int (zI 24), .int (zI bk)], es17)) i_119_1 (by rfl) ?_
                        refine x_imul i_119_3 ?_
                        refine x0 (r := (5, [some (.ref 71), some (.int (zI bk)), some (.int (zI v13)), some (.int (zI kd)), some (.int (zI fr)), some (.int (zI fi)), some (.int (zI ra)), none], [.int (zI v13), .int (zI (bk * 24))], es17)) i_119_4 rfl ?_
                        refine x_iadd i_119_5 ?_
                        refine x0 (r := (7, [some (.ref 71), some (.int (zI bk)), some (.int (zI v13)), some (.int (zI kd)), some (.int (zI fr)), some (.int (zI fi)), some (.int (zI ra)), none], [.int (zI 4), .int (zI ((bk * 24) + v13))], es17)) i_119_6 (by rfl) ?_
                        refine x_imul i_119_7 ?_
                        refine x0 (r := (10, [some (.ref 71), some (.int (zI bk)), some (.int (zI v13)), some (.int (zI kd)), some (.int (zI fr)), some (.int (zI fi)), some (.int (zI ra)), some (.int (zI (((bk * 24) + v13) * 4)))], [], es17)) i_119_8 rfl ?_
                        refine x0 (r := (11, [some (.ref 71), some (.int (zI bk)), some (.int (zI v13)), some (.int (zI kd)), some (.int (zI fr)), some (.int (zI fi)), some (.int (zI ra)), some (.int (zI (((bk * 24) + v13) * 4)))], [.ref 71], es17)) i_119_10 rfl ?_
                        refine x_getr (p := 7) (k := 78) i_119_11 hs_es17 rfl rfl ?_
                        show aW _ _ _ _ _ _ (14, [some (.ref 71), some (.int (zI bk)), some (.int (zI v13)), some (.int (zI kd)), some (.int (zI fr)), some (.int (zI fi)), some (.int (zI ra)), some (.int (zI (((bk * 24) + v13) * 4)))], [.ref 78], es17)
                        refine x0 (r := (16, [some (.ref 71), some (.int (zI bk)), some (.int (zI v13)), some (.int (zI kd)), some (.int (zI fr)), some (.int (zI fi)), some (.int (zI ra)), some (.int (zI (((bk * 24) + v13) * 4)))], [.int (zI (((bk * 24) + v13) * 4)), .ref 78], es17)) i_119_14 rfl ?_
                        refine x0 (r := (17, [some (.ref 71), some (.int (zI bk)), some (.int (zI v13)), some (.int (zI kd)), some (.int (zI fr)), some (.int (zI fi)), some (.int (zI ra)), some (.int (zI (((bk * 24) + v13) * 4)))], [.int (zI kd), .int (zI (((bk * 24) + v13) * 4)), .ref 78], es17)) i_119_16 rfl ?_
                        refine x_call (vs := [.ref 78, .int (zI (((bk * 24) + v13) * 4)), .int (zI kd)]) (rs := []) i_119_17 rfl (fun _ => rfl) rfl rfl rfl rfl rfl rfl ?_
                        show aW _ _ _ _ _ _ (0, [some (.ref 78), some (.int (zI (((bk * 24) + v13) * 4))), some (.int (zI kd))], [], es17)
                        refine x0 (r := (1, [some (.ref 78), some (.int (zI (((bk * 24) + v13) * 4))), some (.int (zI kd))], [.int (zI (((bk * 24) + v13) * 4))], es17)) i_14_0 rfl ?_
                        refine x_ifF i_14_1 (by unfold i32 iLO iHI; omega) rfl (by simp only [zC, cR]; omega) ?_
                        refine x0 (r := (5, [some (.ref 78), some (.int (zI (((bk * 24) + v13) * 4))), some (.int (zI kd))], [.int (zI (((bk * 24) + v13) * 4))], es17)) i_14_4 rfl ?_
                        refine x0 (r := (6, [some (.ref 78), some (.int (zI (((bk * 24) + v13) * 4))), some (.int (zI kd))], [.ref 78, .int (zI (((bk * 24) + v13) * 4))], es17)) i_14_5 rfl ?_
                        refine x_alen (p := 14) (n := 288) i_14_6 hs_es17 rfl ?_
                        refine x_cmpF i_14_7 (by unfold i32 iLO iHI; omega) (by unfold i32 iLO iHI; omega) rfl (by simp only [zC, cR]; omega) ?_
                        refine x0 (r := (11, [some (.ref 78), some (.int (zI (((bk * 24) + v13) * 4))), some (.int (zI kd))], [.ref 78], es17)) i_14_10 rfl ?_
                        refine x0 (r := (12, [some (.ref 78), some (.int (zI (((bk * 24) + v13) * 4))), some (.int (zI kd))], [.int (zI (((bk * 24) + v13) * 4)), .ref 78], es17)) i_14_11 rfl ?_
                        refine x0 (r := (13, [some (.ref 78), some (.int (zI (((bk * 24) + v13) * 4))), some (.int (zI kd))], [.int (zI kd), .int (zI (((bk * 24) + v13) * 4)), .ref 78], es17)) i_14_12 rfl ?_
                        refine x_iast (p := 14) i_14_13 hs_es17 rfl (by unfold i32 iLO iHI; omega) (by omega) (by omega) ?_
                        obtain ⟨es18, e_es18⟩ : ∃ z : PH, z = sA es17 14 (((bk * 24) + v13) * 4).toNat (zI kd) := ⟨_, rfl⟩
                        have hs_es18 : sh es18 := by rw [e_es18]; exact sh_sA hs_es17
                        have hT_es18 : hOK tT es18 := by rw [e_es18]; exact hOK_sA hT_es17 (p := 14) (n := 288) rfl (fun _ => i32_rng _)
                        rw [← e_es18]
                        refine x_ret (v := none) i_14_14 rfl (fun _ => rfl) rfl rfl rfl ?_
                        show aW _ _ _ _ _ _ (20, [some (.ref 71), some (.int (zI bk)), some (.int (zI v13)), some (.int (zI kd)), some (.int (zI fr)), some (.int (zI fi)), some (.int (zI ra)), some (.int (zI (((bk * 24) + v13) * 4)))], [], es18)
                        refine x0 (r := (21, [some (.ref 71), some (.int (zI bk)), some (.int (zI v13)), some (.int (zI kd)), some (.int (zI fr)), some (.int (zI fi)), some (.int (zI ra)), some (.int (zI (((bk * 24) + v13) * 4)))], [.ref 71], es18)) i_119_20 rfl ?_
                        refine x_getr (p := 7) (k := 78) i_119_21 hs_es18 rfl rfl ?_
                        show aW _ _ _ _ _ _ (24, [some (.ref 71), some (.int (zI bk)), some (.int (zI v13)), some (.int (zI kd)), some (.int (zI fr)), some (.int (zI fi)), some (.int (zI ra)), some (.int (zI (((bk * 24) + v13) * 4)))], [.ref 78], es18)
                        refine x0 (r := (26, [some (.ref 71), some (.int (zI bk)), some (.int (zI v13)), some (.int (zI kd)), some (.int (zI fr)), some (.int (zI fi)), some (.int (zI ra)), some (.int (zI (((bk * 24) + v13) * 4)))], [.int (zI (((bk * 24) + v13) * 4)), .ref 78], es18)) i_119_24 rfl ?_
                        refine x0 (r := (27, [some (.ref 71), some (.int (zI bk)), some (.int (zI v13)), some (.int (zI kd)), some (.int (zI fr)), some (.int (zI fi)), some (.int (zI ra)), some (.int (zI (((bk * 24) + v13) * 4)))], [.int (zI 1), .int (zI (((bk * 24) + v13) * 4)), .ref 78], es18)) i_119_26 (by rfl) ?_
                        refine x_iadd i_119_27 ?_
                        refine x0 (r := (30, [some (.ref 71), some (.int (zI bk)), some (.int (zI v13)), some (.int (zI kd)), some (.int (zI fr)), some (.int (zI fi)), some (.int (zI ra)), some (.int (zI (((bk * 24) + v13) * 4)))], [.int (zI fr), .int (zI ((((bk * 24) + v13) * 4) + 1)), .ref 78], es18)) i_119_28 rfl ?_
                        refine x_call (vs := [.ref 78, .int (zI ((((bk * 24) + v13) * 4) + 1)), .int (zI fr)]) (rs := []) i_119_30 rfl (fun _ => rfl) rfl rfl rfl rfl rfl rfl ?_
                        show aW _ _ _ _ _ _ (0, [some (.ref 78), some (.int (zI ((((bk * 24) + v13) * 4) + 1))), some (.int (zI fr))], [], es18)
                        refine x0 (r := (1, [some (.ref 78), some (.int (zI ((((bk * 24) + v13) * 4) + 1))), some (.int (zI fr))], [.int (zI ((((bk * 24) + v13) * 4) + 1))], es18)) i_14_0 rfl ?_
                        refine x_ifF i_14_1 (by unfold i32 iLO iHI; omega) rfl (by simp only [zC, cR]; omega) ?_
                        refine x0 (r := (5, [some (.ref 78), some (.int (zI ((((bk * 24) + v13) * 4) + 1))), some (.int (zI fr))], [.int (zI ((((bk * 24) + v13) * 4) + 1))], es18)) i_14_4 rfl ?_
                        refine x0 (r := (6, [some (.ref 78), some (.int (zI ((((bk * 24) + v13) * 4) + 1))), some (.int (zI fr))], [.ref 78, .int (zI ((((bk * 24) + v13) * 4) + 1))], es18)) i_14_5 rfl ?_
                        refine x_alen (p := 14) (n := 288) i_14_6 hs_es18 rfl ?_
                        refine x_cmpF i_14_7 (by unfold i32 iLO iHI; omega) (by unfold i32 iLO iHI; omega) rfl (by simp only [zC, cR]; omega) ?_
                        refine x0 (r := (11, [some (.ref 78), some (.int (zI ((((bk * 24) + v13) * 4) + 1))), some (.int (zI fr))], [.ref 78], es18)) i_14_10 rfl ?_
                        refine x0 (r := (12, [some (.ref 78), some (.int (zI ((((bk * 24) + v13) * 4) + 1))), some (.int (zI fr))], [.int (zI ((((bk * 24) + v13) * 4) + 1)), .ref 78], es18)) i_14_11 rfl ?_
                        refine x0 (r := (13, [some (.ref 78), some (.int (zI ((((bk * 24) + v13) * 4) + 1))), some (.int (zI fr))], [.int (zI fr), .int (zI ((((bk * 24) + v13) * 4) + 1)), .ref 78], es18)) i_14_12 rfl ?_
                        refine x_iast (p := 14) i_14_13 hs_es18 rfl (by unfold i32 iLO iHI; omega) (by omega) (by omega) ?_
                        obtain ⟨es19, e_es19⟩ : ∃ z : PH, z = sA es18 14 ((((bk * 24) + v13) * 4) + 1).toNat (zI fr) := ⟨_, rfl⟩
                        have hs_es19 : sh es19 := by rw [e_es19]; exact sh_sA hs_es18
                        have hT_es19 : hOK tT es19 := by rw [e_es19]; exact hOK_sA hT_es18 (p := 14) (n := 288) rfl (fun _ => i32_rng _)
                        rw [← e_es19]
                        refine x_ret (v := none) i_14_14 rfl (fun _ => rfl) rfl rfl rfl ?_
                        show aW _ _ _ _ _ _ (33, [some (.ref 71), some (.int (zI bk)), some (.int (zI v13)), some (.int (zI kd)), some (.int (zI fr)), some (.int (zI fi)), some (.int (zI ra)), some (.int (zI (((bk * 24) + v13) * 4)))], [], es19)
                        refine x0 (r := (34, [some (.ref 71), some (.int (zI bk)), some (.int (zI v13)), some (.int (zI kd)), some (.int (zI fr)), some (.int (zI fi)), some (.int (zI ra)), some (.int (zI (((bk * 24) + v13) * 4)))], [.ref 71], es19)) i_119_33 rfl ?_
                        refine x_getr (p := 7) (k := 78) i_119_34 hs_es19 rfl rfl ?_
                        show aW _ _ _ _ _ _ (37, [some (.ref 71), some (.int (zI bk)), some (.int (zI v13)), some (.int (zI kd)), some (.int (zI fr)), some (.int (zI fi)), some (.int (zI ra)), some (.int (zI (((bk * 24) + v13) * 4)))], [.ref 78], es19)
                        refine x0 (r := (39, [some (.ref 71), some (.int (zI bk)), some (.int (zI v13)), some (.int (zI kd)), some (.int (zI fr)), some (.int (zI fi)), some (.int (zI ra)), some (.int (zI (((bk * 24) + v13) * 4)))], [.int (zI (((bk * 24) + v13) * 4)), .ref 78], es19)) i_119_37 rfl ?_
                        refine x0 (r := (40, [some (.ref 71), some (.int (zI bk)), some (.int (zI v13)), some (.int (zI kd)), some (.int (zI fr)), some (.int (zI fi)), some (.int (zI ra)), some (.int (zI (((bk * 24) + v13) * 4)))], [.int (zI 2), .int (zI (((bk * 24) + v13) * 4)), .ref 78], es19)) i_119_39 (by rfl) ?_
                        refine x_iadd i_119_40 ?_
                        refine x0 (r := (43, [some (.ref 71), some (.int (zI bk)), some (.int (zI v13)), some (.int (zI kd)), some (.int (zI fr)), some (.int (zI fi)), some (.int (zI ra)), some (.int (zI (((bk * 24) + v13) * 4)))], [.int (zI fi), .int (zI ((((bk * 24) + v13) * 4) + 2)), .ref 78], es19)) i_119_41 rfl ?_
                        refine x_call (vs := [.ref 78, .int (zI ((((bk * 24) + v13) * 4) + 2)), .int (zI fi)]) (rs := []) i_119_43 rfl (fun _ => rfl) rfl rfl rfl rfl rfl rfl ?_
                        show aW _ _ _ _ _ _ (0, [some (.ref 78), some (.int (zI ((((bk * 24) + v13) * 4) + 2))), some (.int (zI fi))], [], es19)
                        refine x0 (r := (1, [some (.ref 78), some (.int (zI ((((bk * 24) + v13) * 4) + 2))), some (.int (zI fi))], [.int (zI ((((bk * 24) + v13) * 4) + 2))], es19)) i_14_0 rfl ?_
                        refine x_ifF i_14_1 (by unfold i32 iLO iHI; omega) rfl (by simp only [zC, cR]; omega) ?_
                        refine x0 (r := (5, [some (.ref 78), some (.int (zI ((((bk * 24) + v13) * 4) + 2))), some (.int (zI fi))], [.int (zI ((((bk * 24) + v13) * 4) + 2))], es19)) i_14_4 rfl ?_
                        refine x0 (r := (6, [some (.ref 78), some (.int (zI ((((bk * 24) + v13) * 4) + 2))), some (.int (zI fi))], [.ref 78, .int (zI ((((bk * 24) + v13) * 4) + 2))], es19)) i_14_5 rfl ?_
                        refine x_alen (p := 14) (n := 288) i_14_6 hs_es19 rfl ?_
                        refine x_cmpF i_14_7 (by unfold i32 iLO iHI; omega) (by unfold i32 iLO iHI; omega) rfl (by simp only [zC, cR]; omega) ?_
                        refine x0 (r := (11, [some (.ref 78), some (.int (zI ((((bk * 24) + v13) * 4) + 2))), some (.int (zI fi))], [.ref 78], es19)) i_14_10 rfl ?_
                        refine x0 (r := (12, [some (.ref 78), some (.int (zI ((((bk * 24) + v13) * 4) + 2))), some (.int (zI fi))], [.int (zI ((((bk * 24) + v13) * 4) + 2)), .ref 78], es19)) i_14_11 rfl ?_
                        refine x0 (r := (13, [some (.ref 78), some (.int (zI ((((bk * 24) + v13) * 4) + 2))), some (.int (zI fi))], [.int (zI fi), .int (zI ((((bk * 24) + v13) * 4) + 2)), .ref 78], es19)) i_14_12 rfl ?_
                        refine x_iast (p := 14) i_14_13 hs_es19 rfl (by unfold i32 iLO iHI; omega) (by omega) (by omega) ?_
                        obtain ⟨es20, e_es20⟩ : ∃ z : PH, z = sA es19 14 ((((bk * 24) + v13) * 4) + 2).toNat (zI fi) := ⟨_, rfl⟩
                        have hs_es20 : sh es20 := by rw [e_es20]; exact sh_sA hs_es19
                        have hT_es20 : hOK tT es20 := by rw [e_es20]; exact hOK_sA hT_es19 (p := 14) (n := 288) rfl (fun _ => i32_rng _)
                        rw [← e_es20]
                        refine x_ret (v := none) i_14_14 rfl (fun _ => rfl) rfl rfl rfl ?_
                        show aW _ _ _ _ _ _ (46, [some (.ref 71), some (.int (zI bk)), some (.int (zI v13)), some (.int (zI kd)), some (.int (zI fr)), some (.int (zI fi)), some (.int (zI ra)), some (.int (zI (((bk * 24) + v13) * 4)))], [], es20)
                        refine x0 (r := (47, [some (.ref 71), some (.int (zI bk)), some (.int (zI v13)), some (.int (zI kd)), some (.int (zI fr)), some (.int (zI fi)), some (.int (zI ra)), some (.int (zI (((bk * 24) + v13) * 4)))], [.ref 71], es20)) i_119_46 rfl ?_
                        refine x_getr (p := 7) (k := 78) i_119_47 hs_es20 rfl rfl ?_
                        show aW _ _ _ _ _ _ (50, [some (.ref 71), some (.int (zI bk)), some (.int (zI v13)), some (.int (zI kd)), some (.int (zI fr)), some (.int (zI fi)), some (.int (zI ra)), some (.int (zI (((bk * 24) + v13) * 4)))], [.ref 78], es20)
                        refine x0 (r := (52, [some (.ref 71), some (.int (zI bk)), some (.int (zI v13)), some (.int (zI kd)), some (.int (zI fr)), some (.int (zI fi)), some (.int (zI ra)), some (.int (zI (((bk * 24) + v13) * 4)))], [.int (zI (((bk * 24) + v13) * 4)), .ref 78], es20)) i_119_50 rfl ?_
                        refine x0 (r := (53, [some (.ref 71), some (.int (zI bk)), some (.int (zI v13)), some (.int (zI kd)), some (.int (zI fr)), some (.int (zI fi)), some (.int (zI ra)), some (.int (zI (((bk * 24) + v13) * 4)))], [.int (zI 3), .int (zI (((bk * 24) + v13) * 4)), .ref 78], es20)) i_119_52 (by rfl) ?_
                        refine x_iadd i_119_53 ?_
                        refine x0 (r := (56, [some (.ref 71), some (.int (zI bk)), some (.int (zI v13)), some (.int (zI kd)), some (.int (zI fr)), some (.int (zI fi)), some (.int (zI ra)), some (.int (zI (((bk * 24) + v13) * 4)))], [.int (zI ra), .int (zI ((((bk * 24) + v13) * 4) + 3)), .ref 78], es20)) i_119_54 rfl ?_
                        refine x_call (vs := [.ref 78, .int (zI ((((bk * 24) + v13) * 4) + 3)), .int (zI ra)]) (rs := []) i_119_56 rfl (fun _ => rfl) rfl rfl rfl rfl rfl rfl ?_
                        show aW _ _ _ _ _ _ (0, [some (.ref 78), some (.int (zI ((((bk * 24) + v13) * 4) + 3))), some (.int (zI ra))], [], es20)
                        refine x0 (r := (1, [some (.ref 78), some (.int (zI ((((bk * 24) + v13) * 4) + 3))), some (.int (zI ra))], [.int (zI ((((bk * 24) + v13) * 4) + 3))], es20)) i_14_0 rfl ?_
                        refine x_ifF i_14_1 (by unfold i32 iLO iHI; omega) rfl (by simp only [zC, cR]; omega) ?_
                        refine x0 (r := (5, [some (.ref 78), some (.int (zI ((((bk * 24) + v13) * 4) + 3))), some (.int (zI ra))], [.int (zI ((((bk * 24) + v13) * 4) + 3))], es20)) i_14_4 rfl ?_
                        refine x0 (r := (6, [some (.ref 78), some (.int (zI ((((bk * 24) + v13) * 4) + 3))), some (.int (zI ra))], [.ref 78, .int (zI ((((bk * 24) + v13) * 4) + 3))], es20)) i_14_5 rfl ?_
                        refine x_alen (p := 14) (n := 288) i_14_6 hs_es20 rfl ?_
                        refine x_cmpF i_14_7 (by unfold i32 iLO iHI; omega) (by unfold i32 iLO iHI; omega) rfl (by simp only [zC, cR]; omega) ?_
                        refine x0 (r := (11, [some (.ref 78), some (.int (zI ((((bk * 24) + v13) * 4) + 3))), some (.int (zI ra))], [.ref 78], es20)) i_14_10 rfl ?_
                        refine x0 (r := (12, [some (.ref 78), some (.int (zI ((((bk * 24) + v13) * 4) + 3))), some (.int (zI ra))], [.int (zI ((((bk * 24) + v13) * 4) + 3)), .ref 78], es20)) i_14_11 rfl ?_
                        refine x0 (r := (13, [some (.ref 78), some (.int (zI ((((bk * 24) + v13) * 4) + 3))), some (.int (zI ra))], [.int (zI ra), .int (zI ((((bk * 24) + v13) * 4) + 3)), .ref 78], es20)) i_14_12 rfl ?_
                        refine x_iast (p := 14) i_14_13 hs_es20 rfl (by unfold i32 iLO iHI; omega) (by omega) (by omega) ?_
                        obtain ⟨es21, e_es21⟩ : ∃ z : PH, z = sA es20 14 ((((bk * 24) + v13) * 4) + 3).toNat (zI ra) := ⟨_, rfl⟩
                        have hs_es21 : sh es21 := by rw [e_es21]; exact sh_sA hs_es20
                        have hT_es21 : hOK tT es21 := by rw [e_es21]; exact hOK_sA hT_es20 (p := 14) (n := 288) rfl (fun _ => i32_rng _)
                        rw [← e_es21]
                        refine x_ret (v := none) i_14_14 rfl (fun _ => rfl) rfl rfl rfl ?_
                        show aW _ _ _ _ _ _ (59, [some (.ref 71), some (.int (zI bk)), some (.int (zI v13)), some (.int (zI kd)), some (.int (zI fr)), some (.int (zI fi)), some (.int (zI ra)), some (.int (zI (((bk * 24) + v13) * 4)))], [], es21)
                        refine x_ret (v := none) i_119_59 rfl (fun _ => rfl) rfl rfl rfl ?_
                        show aW _ _ _ _ _ _ (100, [some (.ref 64), some (.int (zI bk)), some (.int (zI kd)), some (.int (zI fr)), some (.int (zI fi)), some (.int (zI ra)), some (.int (zI v13))], [], es21)
                        refine x0 (r := (102, [some (.ref 64), some (.int (zI bk)), some (.int (zI kd)), some (.int (zI fr)), some (.int (zI fi)), some (.int (zI ra)), some (.int (zI v13))], [.int (zI v13)], es21)) i_115_100 rfl ?_
                        refine x_ret (v := some (.int (zI v13))) i_115_102 rfl (fun _ => rfl) rfl rfl rfl ?_
                        exact K11 c1 v2 e_v2 c3 c4 v5 e_v5 c6 c7 c8 c9 c10 c11 c12 v13 e_v13 c14 es15 e_es15 es16 e_es16 es17 e_es17 es18 e_es18 es19 e_es19 es20 e_es20 es21 e_es21
                      · refine x_cmpF i_115_57 (by unfold i32 iLO iHI; omega) (by unfold i32 iLO iHI; omega) rfl (by simp only [zC, cR]; omega) ?_
                        refine x_thr i_115_60 rfl (fun _ => rfl) rfl rfl rfl rfl ?_
                        exact K12 c1 v2 e_v2 c3 c4 v5 e_v5 c6 c7 c8 c9 c10 c11 c12 v13 e_v13 c14
def notexP (bk : Int) (kd : Int) (fr : Int) (fi : Int) (ra : Int) (es : PH) (r : Option Value ⊕ Nat) (es1 : PH) : Prop := sh es1 ∧ True ∧ ((r = .inr 2 ∧ (bk < 0 ∨ (gI es 7 5).toInt ≤ bk ∨ kd < 0 ∨ (gI es 7 0).toInt ≤ kd) ∧ es1 = es) ∨ (r = .inr 0 ∧ ((0 ≤ bk ∧ bk < (gI es 7 5).toInt ∧ 0 ≤ kd ∧ kd < (gI es 7 0).toInt) ∧ (fr < -1 ∨ 5 < fr ∨ fi < 0 ∨ 5 < fi ∨ ra < 0 ∨ 5 < ra)) ∧ es1 = es) ∨ (r = .inr 1 ∧ (((0 ≤ bk ∧ bk < (gI es 7 5).toInt ∧ 0 ≤ kd ∧ kd < (gI es 7 0).toInt) ∧ (-1 ≤ fr ∧ fr ≤ 5 ∧ 0 ≤ fi ∧ fi ≤ 5 ∧ 0 ≤ ra ∧ ra ≤ 5)) ∧ 24 ≤ (gA es 13 bk.toNat).toInt) ∧ es1 = es) ∨ (r = .inl (some (.int (zI ((gA es 13 bk.toNat).toInt)))) ∧ (((0 ≤ bk ∧ bk < (gI es 7 5).toInt ∧ 0 ≤ kd ∧ kd < (gI es 7 0).toInt) ∧ (-1 ≤ fr ∧ fr ≤ 5 ∧ 0 ≤ fi ∧ fi ≤ 5 ∧ 0 ≤ ra ∧ ra ≤ 5)) ∧ (gA es 13 bk.toNat).toInt < 24) ∧ gA es1 13 = upd (gA es 13) bk.toNat (zI ((gA es 13 bk.toNat).toInt + 1)) ∧ gA es1 14 = upd (upd (upd (upd (gA es 14) (((bk * 24) + (gA es 13 bk.toNat).toInt) * 4).toNat (zI kd)) ((((bk * 24) + (gA es 13 bk.toNat).toInt) * 4) + 1).toNat (zI fr)) ((((bk * 24) + (gA es 13 bk.toNat).toInt) * 4) + 2).toNat (zI fi)) ((((bk * 24) + (gA es 13 bk.toNat).toInt) * 4) + 3).toNat (zI ra)))
theorem fn_notex {O : pOut} {d : Nat} {es : PH} {bk kd fr fi ra : Int} (h_bk : i32 bk) (h_kd : i32 kd) (h_fr : i32 fr) (h_fi : i32 fi) (h_ra : i32 ra) (hT : hOK tT es) : aW O (d + 3) 115 0 0 (fun o => notexP bk kd fr fi ra es o.1 o.2.1) (0, [some (.ref 64), some (.int (zI bk)), some (.int (zI kd)), some (.int (zI fr)), some (.int (zI fi)), some (.int (zI ra)), none], [], es) := by
  have hs_es := sh_of hT
  have hB : 0 ≤ (gI es 7 5).toInt ∧ (gI es 7 5).toInt ≤ 3 := gI_bd hT (p := 7) (b := 5) rfl rfl
  have hC : bk < 0 ∨ 2 < bk ∨ (0 ≤ (gA es 13 bk.toNat).toInt ∧ (gA es 13 bk.toNat).toInt ≤ 24) := by
    by_cases h1 : 0 ≤ bk ∧ bk ≤ 2
    · exact Or.inr (Or.inr (gA_bd hT (p := 13) (t := 0) (n := 3) (k := bk.toNat) rfl (by omega) (by decide)))
    · omega
  refine s_xnote (d := d) (kc := 0) (ks := 0) hs_es h_bk h_kd h_fr h_fi h_ra hT (fun c1 => ?_) (fun c1 v2 e_v2 c3 => ?_) (fun c1 v2 e_v2 c3 c4 => ?_) (fun c1 v2 e_v2 c3 c4 v5 e_v5 c6 => ?_) (fun c1 v2 e_v2 c3 c4 v5 e_v5 c6 c7 => ?_) (fun c1 v2 e_v2 c3 c4 v5 e_v5 c6 c7 c8 => ?_) (fun c1 v2 e_v2 c3 c4 v5 e_v5 c6 c7 c8 c9 => ?_) (fun c1 v2 e_v2 c3 c4 v5 e_v5 c6 c7 c8 c9 c10 => ?_) (fun c1 v2 e_v2 c3 c4 v5 e_v5 c6 c7 c8 c9 c10 c11 => ?_) (fun c1 v2 e_v2 c3 c4 v5 e_v5 c6 c7 c8 c9 c10 c11 c12 => ?_) (fun c1 v2 e_v2 c3 c4 v5 e_v5 c6 c7 c8 c9 c10 c11 c12 v13 e_v13 c14 es15 e_es15 es16 e_es16 es17 e_es17 es18 e_es18 es19 e_es19 es20 e_es20 es21 e_es21 => ?_) (fun c1 v2 e_v2 c3 c4 v5 e_v5 c6 c7 c8 c9 c10 c11 c12 v13 e_v13 c14 => ?_)
  · exact ⟨hs_es, trivial, Or.inl ⟨rfl, by omega, rfl⟩⟩
  · exact ⟨hs_es, trivial, Or.inl ⟨rfl, by omega, rfl⟩⟩
  · exact ⟨hs_es, trivial, Or.inl ⟨rfl, by omega, rfl⟩⟩
  · exact ⟨hs_es, trivial, Or.inl ⟨rfl, by omega, rfl⟩⟩
  · exact ⟨hs_es, trivial, Or.inr (Or.inl ⟨rfl, by omega, rfl⟩)⟩
  · exact ⟨hs_es, trivial, Or.inr (Or.inl ⟨rfl, by omega, rfl⟩)⟩
  · exact ⟨hs_es, trivial, Or.inr (Or.inl ⟨rfl, by omega, rfl⟩)⟩
  · exact ⟨hs_es, trivial, Or.inr (Or.inl ⟨rfl, by omega, rfl⟩)⟩
  · exact ⟨hs_es, trivial, Or.inr (Or.inl ⟨rfl, by omega, rfl⟩)⟩
  · exact ⟨hs_es, trivial, Or.inr (Or.inl ⟨rfl, by omega, rfl⟩)⟩
  · have hs_es15 : sh es15 := by rw [e_es15]; exact sh_sI hs_es (p := 0) (b := 10) rfl rfl
    have hs_es16 : sh es16 := by rw [e_es16]; exact sh_sI hs_es15 (p := 73) (b := 3) rfl rfl
    have hs_es17 : sh es17 := by rw [e_es17]; exact sh_sA hs_es16
    have hs_es18 : sh es18 := by rw [e_es18]; exact sh_sA hs_es17
    have hs_es19 : sh es19 := by rw [e_es19]; exact sh_sA hs_es18
    have hs_es20 : sh es20 := by rw [e_es20]; exact sh_sA hs_es19
    have hs_es21 : sh es21 := by rw [e_es21]; exact sh_sA hs_es20
    exact ⟨hs_es21, trivial, Or.inr (Or.inr (Or.inr (⟨by rw [e_v13], by omega, by show gA es21 13 = _; rw [e_es21, gA_sA_ne (by decide), e_es20, gA_sA_ne (by decide), e_es19, gA_sA_ne (by decide), e_es18, gA_sA_ne (by decide), e_es17, gA_sA hs_es16 (p := 13) (t := 0) (n := 3) rfl (by decide), e_es16, gA_sI, e_es15, gA_sI]; rw [← e_v13], by show gA es21 14 = _; rw [e_es21, gA_sA hs_es20 (p := 14) (t := 0) (n := 288) rfl (by decide), e_es20, gA_sA hs_es19 (p := 14) (t := 0) (n := 288) rfl (by decide), e_es19, gA_sA hs_es18 (p := 14) (t := 0) (n := 288) rfl (by decide), e_es18, gA_sA hs_es17 (p := 14) (t := 0) (n := 288) rfl (by decide), e_es17, gA_sA_ne (by decide), e_es16, gA_sI, e_es15, gA_sI]; rw [← e_v13]⟩)))⟩
  · exact ⟨hs_es, trivial, Or.inr (Or.inr (Or.inl ⟨rfl, by omega, rfl⟩))⟩
theorem s_notey0 {O : pOut} {d kc ks : Nat} {Q : pRes → Prop} {es : PH} {bk kd fr fi ra : Int} (hs_es : sh es)
    (K1 : aW O d 282 kc ks Q (11, [some (.ref 64), some (.int (zI bk)), some (.int (zI kd)), some (.int (zI fr)), some (.int (zI fi)), some (.int (zI ra)), some (.ref 171), none], [.int (zI ra), .int (zI fi), .int (zI fr), .int (zI kd), .int (zI bk), .ref 64, .int (zI 0), .ref 171], es)) :
    aW O d 282 kc ks Q (0, [some (.ref 64), some (.int (zI bk)), some (.int (zI kd)), some (.int (zI fr)), some (.int (zI fi)), some (.int (zI ra)), some (.ref 171), none], [], es) := by
  refine x0 (r := (2, [some (.ref 64), some (.int (zI bk)), some (.int (zI kd)), some (.int (zI fr)), some (.int (zI fi)), some (.int (zI ra)), some (.ref 171), none], [.ref 171], es)) i_282_0 rfl ?_
  refine x0 (r := (3, [some (.ref 64), some (.int (zI bk)), some (.int (zI kd)), some (.int (zI fr)), some (.int (zI fi)), some (.int (zI ra)), some (.ref 171), none], [.int (zI 0), .ref 171], es)) i_282_2 (by rfl) ?_
  refine x0 (r := (4, [some (.ref 64), some (.int (zI bk)), some (.int (zI kd)), some (.int (zI fr)), some (.int (zI fi)), some (.int (zI ra)), some (.ref 171), none], [.ref 64, .int (zI 0), .ref 171], es)) i_282_3 rfl ?_
  refine x0 (r := (5, [some (.ref 64), some (.int (zI bk)), some (.int (zI kd)), some (.int (zI fr)), some (.int (zI fi)), some (.int (zI ra)), some (.ref 171), none], [.int (zI bk), .ref 64, .int (zI 0), .ref 171], es)) i_282_4 rfl ?_
  refine x0 (r := (6, [some (.ref 64), some (.int (zI bk)), some (.int (zI kd)), some (.int (zI fr)), some (.int (zI fi)), some (.int (zI ra)), some (.ref 171), none], [.int (zI kd), .int (zI bk), .ref 64, .int (zI 0), .ref 171], es)) i_282_5 rfl ?_
  refine x0 (r := (7, [some (.ref 64), some (.int (zI bk)), some (.int (zI kd)), some (.int (zI fr)), some (.int (zI fi)), some (.int (zI ra)), some (.ref 171), none], [.int (zI fr), .int (zI kd), .int (zI bk), .ref 64, .int (zI 0), .ref 171], es)) i_282_6 rfl ?_
  refine x0 (r := (9, [some (.ref 64), some (.int (zI bk)), some (.int (zI kd)), some (.int (zI fr)), some (.int (zI fi)), some (.int (zI ra)), some (.ref 171), none], [.int (zI fi), .int (zI fr), .int (zI kd), .int (zI bk), .ref 64, .int (zI 0), .ref 171], es)) i_282_7 rfl ?_
  refine x0 (r := (11, [some (.ref 64), some (.int (zI bk)), some (.int (zI kd)), some (.int (zI fr)), some (.int (zI fi)), some (.int (zI ra)), some (.ref 171), none], [.int (zI ra), .int (zI fi), .int (zI fr), .int (zI kd), .int (zI bk), .ref 64, .int (zI 0), .ref 171], es)) i_282_9 rfl ?_
  exact K1
theorem s_notey1 {O : pOut} {d kc ks : Nat} {Q : pRes → Prop} {es : PH} {bk kd fr fi ra v : Int} (hs_es : sh es)
    (K1 : ∀ es1 : PH, es1 = sJ es 107 (Int.toNat 0) ((zI v).toInt64) → Q (.inl (some (.int (zI 0))), es1, kc, ks)) :
    aW O d 282 kc ks Q (14, [some (.ref 64), some (.int (zI bk)), some (.int (zI kd)), some (.int (zI fr)), some (.int (zI fi)), some (.int (zI ra)), some (.ref 171), none], [.int (zI v), .int (zI 0), .ref 171], es) := by
  refine x0 (r := (15, [some (.ref 64), some (.int (zI bk)), some (.int (zI kd)), some (.int (zI fr)), some (.int (zI fi)), some (.int (zI ra)), some (.ref 171), none], [.long ((zI v).toInt64), .int (zI 0), .ref 171], es)) i_282_14 rfl ?_
  refine x_last (p := 107) i_282_15 hs_es rfl (by unfold i32 iLO iHI; omega) (by omega) (by omega) ?_
  obtain ⟨es1, e_es1⟩ : ∃ z : PH, z = sJ es 107 (Int.toNat 0) ((zI v).toInt64) := ⟨_, rfl⟩
  have hs_es1 : sh es1 := by rw [e_es1]; exact sh_sJ hs_es
  rw [← e_es1]
  refine x0 (r := (31, [some (.ref 64), some (.int (zI bk)), some (.int (zI kd)), some (.int (zI fr)), some (.int (zI fi)), some (.int (zI ra)), some (.ref 171), none], [], es1)) i_282_16 rfl ?_
  refine x0 (r := (32, [some (.ref 64), some (.int (zI bk)), some (.int (zI kd)), some (.int (zI fr)), some (.int (zI fi)), some (.int (zI ra)), some (.ref 171), none], [.int (zI 0)], es1)) i_282_31 (by rfl) ?_
  refine x_ret (v := some (.int (zI 0))) i_282_32 rfl (fun _ => rfl) rfl rfl rfl ?_
  exact K1 es1 e_es1
theorem s_notey21 {O : pOut} {d kc ks : Nat} {Q : pRes → Prop} {es : PH} {bk kd fr fi ra : Int} (hs_es : sh es)
    (K1 : Q (.inl (some (.int (zI 1))), es, kc, ks)) :
    aW O d 282 kc ks Q (21, [some (.ref 64), some (.int (zI bk)), some (.int (zI kd)), some (.int (zI fr)), some (.int (zI fi)), some (.int (zI ra)), some (.ref 171), none], [], es) := by
  refine x0 (r := (22, [some (.ref 64), some (.int (zI bk)), some (.int (zI kd)), some (.int (zI fr)), some (.int (zI fi)), some (.int (zI ra)), some (.ref 171), none], [.int (zI 1)], es)) i_282_21 (by rfl) ?_
  refine x_ret (v := some (.int (zI 1))) i_282_22 rfl (fun _ => rfl) rfl rfl rfl ?_
  exact K1
theorem s_notey25 {O : pOut} {d kc ks : Nat} {Q : pRes → Prop} {es : PH} {bk kd fr fi ra : Int} (hs_es : sh es)
    (K1 : Q (.inl (some (.int (zI 2))), es, kc, ks)) :
    aW O d 282 kc ks Q (25, [some (.ref 64), some (.int (zI bk)), some (.int (zI kd)), some (.int (zI fr)), some (.int (zI fi)), some (.int (zI ra)), some (.ref 171), none], [], es) := by
  refine x0 (r := (26, [some (.ref 64), some (.int (zI bk)), some (.int (zI kd)), some (.int (zI fr)), some (.int (zI fi)), some (.int (zI ra)), some (.ref 171), none], [.int (zI 2)], es)) i_282_25 (by rfl) ?_
  refine x_ret (v := some (.int (zI 2))) i_282_26 rfl (fun _ => rfl) rfl rfl rfl ?_
  exact K1
theorem s_notey29 {O : pOut} {d kc ks : Nat} {Q : pRes → Prop} {es : PH} {bk kd fr fi ra : Int} (hs_es : sh es)
    (K1 : Q (.inl (some (.int (zI 3))), es, kc, ks)) :
    aW O d 282 kc ks Q (29, [some (.ref 64), some (.int (zI bk)), some (.int (zI kd)), some (.int (zI fr)), some (.int (zI fi)), some (.int (zI ra)), some (.ref 171), none], [], es) := by
  refine x0 (r := (30, [some (.ref 64), some (.int (zI bk)), some (.int (zI kd)), some (.int (zI fr)), some (.int (zI fi)), some (.int (zI ra)), some (.ref 171), none], [.int (zI 3)], es)) i_282_29 (by rfl) ?_
  refine x_ret (v := some (.int (zI 3))) i_282_30 rfl (fun _ => rfl) rfl rfl rfl ?_
  exact K1
def noteyP (bk : Int) (kd : Int) (fr : Int) (fi : Int) (ra : Int) (es : PH) (r : Option Value ⊕ Nat) (es1 : PH) : Prop := sh es1 ∧ True ∧ ∃ k : Int, r = .inl (some (.int (zI k))) ∧ ((k = 1 ∧ (bk < 0 ∨ (gI es 7 5).toInt ≤ bk ∨ kd < 0 ∨ (gI es 7 0).toInt ≤ kd) ∧ es1 = es) ∨ (k = 2 ∧ ((0 ≤ bk ∧ bk < (gI es 7 5).toInt ∧ 0 ≤ kd ∧ kd < (gI es 7 0).toInt) ∧ (fr < -1 ∨ 5 < fr ∨ fi < 0 ∨ 5 < fi ∨ ra < 0 ∨ 5 < ra)) ∧ es1 = es) ∨ (k = 3 ∧ (((0 ≤ bk ∧ bk < (gI es 7 5).toInt ∧ 0 ≤ kd ∧ kd < (gI es 7 0).toInt) ∧ (-1 ≤ fr ∧ fr ≤ 5 ∧ 0 ≤ fi ∧ fi ≤ 5 ∧ 0 ≤ ra ∧ ra ≤ 5)) ∧ 24 ≤ (gA es 13 bk.toNat).toInt) ∧ es1 = es) ∨ (k = 0 ∧ (((0 ≤ bk ∧ bk < (gI es 7 5).toInt ∧ 0 ≤ kd ∧ kd < (gI es 7 0).toInt) ∧ (-1 ≤ fr ∧ fr ≤ 5 ∧ 0 ≤ fi ∧ fi ≤ 5 ∧ 0 ≤ ra ∧ ra ≤ 5)) ∧ (gA es 13 bk.toNat).toInt < 24) ∧ gA es1 13 = upd (gA es 13) bk.toNat (zI ((gA es 13 bk.toNat).toInt + 1)) ∧ gA es1 14 = upd (upd (upd (upd (gA es 14) (((bk * 24) + (gA es 13 bk.toNat).toInt) * 4).toNat (zI kd)) ((((bk * 24) + (gA es 13 bk.toNat).toInt) * 4) + 1).toNat (zI fr)) ((((bk * 24) + (gA es 13 bk.toNat).toInt) * 4) + 2).toNat (zI fi)) ((((bk * 24) + (gA es 13 bk.toNat).toInt) * 4) + 3).toNat (zI ra) ∧ (gJ es1 107 (Int.toNat 0)).toInt = (gA es 13 bk.toNat).toInt))
theorem fn_notey {O : pOut} {d : Nat} {es : PH} {bk kd fr fi ra : Int} (h_bk : i32 bk) (h_kd : i32 kd) (h_fr : i32 fr) (h_fi : i32 fi) (h_ra : i32 ra) (hT : hOK tT es) : aW O (d + 4) 282 0 0 (fun o => noteyP bk kd fr fi ra es o.1 o.2.1) (0, [some (.ref 64), some (.int (zI bk)), some (.int (zI kd)), some (.int (zI fr)), some (.int (zI fi)), some (.int (zI ra)), some (.ref 171), none], [], es) := by
  refine s_notey0 (sh_of hT) ?_
  refine x_call (vs := [.ref 64, .int (zI bk), .int (zI kd), .int (zI fr), .int (zI fi), .int (zI ra)]) (rs := [.int (zI 0), .ref 171]) i_282_11 rfl (fun _ => rfl) rfl rfl rfl rfl rfl (pCall_v (p := 0) (sh_of hT) rfl rfl rfl rfl rfl (by decide) rfl rfl rfl rfl rfl) ?_
  show aW _ _ _ _ _ _ (0, [some (.ref 64), some (.int (zI bk)), some (.int (zI kd)), some (.int (zI fr)), some (.int (zI fi)), some (.int (zI ra)), none], [], es)
  refine aW_mono (Nat.le_refl _) (fun o ho => ?_) (fn_notex (O := O) (d := d) h_bk h_kd h_fr h_fi h_ra hT)
  obtain ⟨r, es', kc', ks'⟩ := o
  obtain ⟨hs1, hcm, h⟩ : notexP bk kd fr fi ra es r es' := ho
  rcases h with ⟨rfl, hc, g0⟩ | ⟨rfl, hc, g0⟩ | ⟨rfl, hc, g0⟩ | ⟨rfl, hc, g0, g1⟩
  · refine ⟨_, _, _, _, rfl, rfl, rfl, ?_⟩
    show aW _ _ _ _ _ _ (21, [some (.ref 64), some (.int (zI bk)), some (.int (zI kd)), some (.int (zI fr)), some (.int (zI fi)), some (.int (zI ra)), some (.ref 171), none], [], es')
    exact s_notey21 hs1 ⟨hs1, hcm, 1, rfl, Or.inl ⟨rfl, hc, g0⟩⟩
  · refine ⟨_, _, _, _, rfl, rfl, rfl, ?_⟩
    show aW _ _ _ _ _ _ (25, [some (.ref 64), some (.int (zI bk)), some (.int (zI kd)), some (.int (zI fr)), some (.int (zI fi)), some (.int (zI ra)), some (.ref 171), none], [], es')
    exact s_notey25 hs1 ⟨hs1, hcm, 2, rfl, Or.inr (Or.inl ⟨rfl, hc, g0⟩)⟩
  · refine ⟨_, _, _, _, rfl, rfl, rfl, ?_⟩
    show aW _ _ _ _ _ _ (29, [some (.ref 64), some (.int (zI bk)), some (.int (zI kd)), some (.int (zI fr)), some (.int (zI fi)), some (.int (zI ra)), some (.ref 171), none], [], es')
    exact s_notey29 hs1 ⟨hs1, hcm, 3, rfl, Or.inr (Or.inr (Or.inl ⟨rfl, hc, g0⟩))⟩
  · refine aK_inl ?_
    show aW _ _ _ _ _ _ (14, [some (.ref 64), some (.int (zI bk)), some (.int (zI kd)), some (.int (zI fr)), some (.int (zI fi)), some (.int (zI ra)), some (.ref 171), none], [.int (zI ((gA es 13 bk.toNat).toInt)), .int (zI 0), .ref 171], es')
    refine s_notey1 hs1 (fun es1 e_es1 => ?_)
    have g9 : (gJ es1 107 (Int.toNat 0)).toInt = (gA es 13 bk.toNat).toInt := by
      rw [e_es1, gJ_sJ hs1 (p := 107) (n := 1) rfl]
      unfold vp_updL
      rw [if_pos rfl, i2l_int (i32_rng _)]
    exact ⟨by show sh es1; rw [e_es1]; exact sh_sJ hs1, trivial, 0, rfl, Or.inr (Or.inr (Or.inr (⟨rfl, hc, by rw [e_es1, gA_sJ]; exact g0, by rw [e_es1, gA_sJ]; exact g1, g9⟩)))⟩
theorem s_mnote {O : pOut} {d kc ks : Nat} {Q : pRes → Prop} {es : PH} {bk kd fr fi ra : Int} (hs_es : sh es) (h_bk : -2147483648 ≤ bk ∧ bk ≤ 2147483647) (h_kd : -2147483648 ≤ kd ∧ kd ≤ 2147483647) (h_fr : -2147483648 ≤ fr ∧ fr ≤ 2147483647) (h_fi : -2147483648 ≤ fi ∧ fi ≤ 2147483647) (h_ra : -2147483648 ≤ ra ∧ ra ≤ 2147483647) (hT_es : hOK tT es)
    (K1 : ∀ es1 : PH, es1 = sI es 79 0 (.int (zI 0)) → ∀ v2 : Int, v2 = (gA es1 80 (Int.toNat 1)).toInt → bk < 0 → ∀ es4 : PH, es4 = sI es1 79 0 (.int (zI 1)) → Q (.inl (some (.int (zI 0))), es4, kc, ks))
    (K2 : ∀ es1 : PH, es1 = sI es 79 0 (.int (zI 0)) → ∀ v2 : Int, v2 = (gA es1 80 (Int.toNat 1)).toInt → ¬ (bk < 0) → (v2 - 1) < bk → ∀ es6 : PH, es6 = sI es1 79 0 (.int (zI 1)) → Q (.inl (some (.int (zI 0))), es6, kc, ks))
    (K3 : ∀ es1 : PH, es1 = sI es 79 0 (.int (zI 0)) → ∀ v2 : Int, v2 = (gA es1 80 (Int.toNat 1)).toInt → ¬ (bk < 0) → ¬ ((v2 - 1) < bk) → ∀ v7 : Int, v7 = (gA es1 80 (Int.toNat 0)).toInt → kd < 0 → ∀ es9 : PH, es9 = sI es1 79 0 (.int (zI 1)) → Q (.inl (some (.int (zI 0))), es9, kc, ks))
    (K4 : ∀ es1 : PH, es1 = sI es 79 0 (.int (zI 0)) → ∀ v2 : Int, v2 = (gA es1 80 (Int.toNat 1)).toInt → ¬ (bk < 0) → ¬ ((v2 - 1) < bk) → ∀ v7 : Int, v7 = (gA es1 80 (Int.toNat 0)).toInt → ¬ (kd < 0) → (v7 - 1) < kd → ∀ es11 : PH, es11 = sI es1 79 0 (.int (zI 1)) → Q (.inl (some (.int (zI 0))), es11, kc, ks))
    (K5 : ∀ es1 : PH, es1 = sI es 79 0 (.int (zI 0)) → ∀ v2 : Int, v2 = (gA es1 80 (Int.toNat 1)).toInt → ¬ (bk < 0) → ¬ ((v2 - 1) < bk) → ∀ v7 : Int, v7 = (gA es1 80 (Int.toNat 0)).toInt → ¬ (kd < 0) → ¬ ((v7 - 1) < kd) → fr < (-1) → ∀ es13 : PH, es13 = sI es1 79 0 (.int (zI 2)) → Q (.inl (some (.int (zI 0))), es13, kc, ks))
    (K6 : ∀ es1 : PH, es1 = sI es 79 0 (.int (zI 0)) → ∀ v2 : Int, v2 = (gA es1 80 (Int.toNat 1)).toInt → ¬ (bk < 0) → ¬ ((v2 - 1) < bk) → ∀ v7 : Int, v7 = (gA es1 80 (Int.toNat 0)).toInt → ¬ (kd < 0) → ¬ ((v7 - 1) < kd) → ¬ (fr < (-1)) → 5 < fr → ∀ es15 : PH, es15 = sI es1 79 0 (.int (zI 2)) → Q (.inl (some (.int (zI 0))), es15, kc, ks))
    (K7 : ∀ es1 : PH, es1 = sI es 79 0 (.int (zI 0)) → ∀ v2 : Int, v2 = (gA es1 80 (Int.toNat 1)).toInt → ¬ (bk < 0) → ¬ ((v2 - 1) < bk) → ∀ v7 : Int, v7 = (gA es1 80 (Int.toNat 0)).toInt → ¬ (kd < 0) → ¬ ((v7 - 1) < kd) → ¬ (fr < (-1)) → ¬ (5 < fr) → fi < 0 → ∀ es17 : PH, es17 = sI es1 79 0 (.int (zI 2)) → Q (.inl (some (.int (zI 0))), es17, kc, ks))
    (K8 : ∀ es1 : PH, es1 = sI es 79 0 (.int (zI 0)) → ∀ v2 : Int, v2 = (gA es1 80 (Int.toNat 1)).toInt → ¬ (bk < 0) → ¬ ((v2 - 1) < bk) → ∀ v7 : Int, v7 = (gA es1 80 (Int.toNat 0)).toInt → ¬ (kd < 0) → ¬ ((v7 - 1) < kd) → ¬ (fr < (-1)) → ¬ (5 < fr) → ¬ (fi < 0) → 5 < fi → ∀ es19 : PH, es19 = sI es1 79 0 (.int (zI 2)) → Q (.inl (some (.int (zI 0))), es19, kc, ks))
    (K9 : ∀ es1 : PH, es1 = sI es 79 0 (.int (zI 0)) → ∀ v2 : Int, v2 = (gA es1 80 (Int.toNat 1)).toInt → ¬ (bk < 0) → ¬ ((v2 - 1) < bk) → ∀ v7 : Int, v7 = (gA es1 80 (Int.toNat 0)).toInt → ¬ (kd < 0) → ¬ ((v7 - 1) < kd) → ¬ (fr < (-1)) → ¬ (5 < fr) → ¬ (fi < 0) → ¬ (5 < fi) → ra < 0 → ∀ es21 : PH, es21 = sI es1 79 0 (.int (zI 2)) → Q (.inl (some (.int (zI 0))), es21, kc, ks))
    (K10 : ∀ es1 : PH, es1 = sI es 79 0 (.int (zI 0)) → ∀ v2 : Int, v2 = (gA es1 80 (Int.toNat 1)).toInt → ¬ (bk < 0) → ¬ ((v2 - 1) < bk) → ∀ v7 : Int, v7 = (gA es1 80 (Int.toNat 0)).toInt → ¬ (kd < 0) → ¬ ((v7 - 1) < kd) → ¬ (fr < (-1)) → ¬ (5 < fr) → ¬ (fi < 0) → ¬ (5 < fi) → ¬ (ra < 0) → 5 < ra → ∀ es23 : PH, es23 = sI es1 79 0 (.int (zI 2)) → Q (.inl (some (.int (zI 0))), es23, kc, ks))
    (K11 : ∀ es1 : PH, es1 = sI es 79 0 (.int (zI 0)) → ∀ v2 : Int, v2 = (gA es1 80 (Int.toNat 1)).toInt → ¬ (bk < 0) → ¬ ((v2 - 1) < bk) → ∀ v7 : Int, v7 = (gA es1 80 (Int.toNat 0)).toInt → ¬ (kd < 0) → ¬ ((v7 - 1) < kd) → ¬ (fr < (-1)) → ¬ (5 < fr) → ¬ (fi < 0) → ¬ (5 < fi) → ¬ (ra < 0) → ¬ (5 < ra) → ∀ v24 : Int, v24 = (gA es1 80 ((119 + (98 * bk)) + 1).toNat).toInt → v24 ≠ 24 → ∀ es26 : PH, es26 = sA es1 80 (((119 + (98 * bk)) + 2) + (4 * v24)).toNat (zI kd) → ∀ es27 : PH, es27 = sA es26 80 ((((119 + (98 * bk)) + 2) + (4 * v24)) + 1).toNat (zI fr) → ∀ es28 : PH, es28 = sA es27 80 ((((119 + (98 * bk)) + 2) + (4 * v24)) + 2).toNat (zI fi) → ∀ es29 : PH, es29 = sA es28 80 ((((119 + (98 * bk)) + 2) + (4 * v24)) + 3).toNat (zI ra) → ∀ v30 : Int, v30 = (gA es29 80 ((119 + (98 * bk)) + 1).toNat).toInt → ∀ es31 : PH, es31 = sA es29 80 ((119 + (98 * bk)) + 1).toNat (zI (v30 + 1)) → ∀ v32 : Int, v32 = (gA es31 80 ((119 + (98 * bk)) + 1).toNat).toInt → Q (.inl (some (.int (zI (v32 - 1)))), es31, kc, ks))
    (K12 : ∀ es1 : PH, es1 = sI es 79 0 (.int (zI 0)) → ∀ v2 : Int, v2 = (gA es1 80 (Int.toNat 1)).toInt → ¬ (bk < 0) → ¬ ((v2 - 1) < bk) → ∀ v7 : Int, v7 = (gA es1 80 (Int.toNat 0)).toInt → ¬ (kd < 0) → ¬ ((v7 - 1) < kd) → ¬ (fr < (-1)) → ¬ (5 < fr) → ¬ (fi < 0) → ¬ (5 < fi) → ¬ (ra < 0) → ¬ (5 < ra) → ∀ v24 : Int, v24 = (gA es1 80 ((119 + (98 * bk)) + 1).toNat).toInt → ¬ (v24 ≠ 24) → ∀ es33 : PH, es33 = sI es1 79 0 (.int (zI 3)) → Q (.inl (some (.int (zI 0))), es33, kc, ks)) :
    aW O (d + 3) 202 kc ks Q (0, [some (.ref 143), some (.int (zI bk)), some (.int (zI kd)), some (.int (zI fr)), some (.int (zI fi)), some (.int (zI ra))], [], es) := by
  refine x0 (r := (1, [some (.ref 143), some (.int (zI bk)), some (.int (zI kd)), some (.int (zI fr)), some (.int (zI fi)), some (.int (zI ra))], [.ref 143], es)) i_202_0 rfl ?_
  refine x0 (r := (2, [some (.ref 143), some (.int (zI bk)), some (.int (zI kd)), some (.int (zI fr)), some (.int (zI fi)), some (.int (zI ra))], [.int (zI 0), .ref 143], es)) i_202_1 (by rfl) ?_
  refine x_puti (p := 79) (ty := .int) i_202_2 hs_es rfl rfl rfl (Or.inl rfl) ?_
  obtain ⟨es1, e_es1⟩ : ∃ z : PH, z = sI es 79 0 (.int (zI 0)) := ⟨_, rfl⟩
  have hs_es1 : sh es1 := by rw [e_es1]; exact sh_sI hs_es (p := 79) (b := 0) rfl rfl
  have hT_es1 : hOK tT es1 := by rw [e_es1]; exact hOK_sI hT_es (p := 79) (b := 0) (lo := iLO) (hi := iHI) rfl rfl (i32_rng _)
  rw [← e_es1]
  refine x0 (r := (6, [some (.ref 143), some (.int (zI bk)), some (.int (zI kd)), some (.int (zI fr)), some (.int (zI fi)), some (.int (zI ra))], [.ref 143], es1)) i_202_5 rfl ?_
  refine x0 (r := (7, [some (.ref 143), some (.int (zI bk)), some (.int (zI kd)), some (.int (zI fr)), some (.int (zI fi)), some (.int (zI ra))], [.ref 143, .ref 143], es1)) i_202_6 rfl ?_
  refine x0 (r := (8, [some (.ref 143), some (.int (zI bk)), some (.int (zI kd)), some (.int (zI fr)), some (.int (zI fi)), some (.int (zI ra))], [.int (zI bk), .ref 143, .ref 143], es1)) i_202_7 rfl ?_
  refine x_call (vs := [.ref 143, .int (zI bk)]) (rs := [.ref 143]) i_202_8 rfl (fun _ => rfl) rfl rfl rfl rfl rfl (pCall_v (p := 79) hs_es1 rfl rfl rfl rfl rfl (by decide) rfl rfl rfl rfl rfl) ?_
  show aW _ _ _ _ _ _ (0, [some (.ref 143), some (.int (zI bk))], [], es1)
  refine x0 (r := (1, [some (.ref 143), some (.int (zI bk))], [.ref 143], es1)) i_203_0 rfl ?_
  refine x0 (r := (2, [some (.ref 143), some (.int (zI bk))], [.int (zI bk), .ref 143], es1)) i_203_1 rfl ?_
  refine x0 (r := (3, [some (.ref 143), some (.int (zI bk))], [.int (zI 1), .int (zI bk), .ref 143], es1)) i_203_2 (by rfl) ?_
  refine x_call (vs := [.ref 143, .int (zI bk), .int (zI 1)]) (rs := []) i_203_3 rfl (fun _ => rfl) rfl rfl rfl rfl rfl (pCall_v (p := 79) hs_es1 rfl rfl rfl rfl rfl (by decide) rfl rfl rfl rfl rfl) ?_
  show aW _ _ _ _ _ _ (0, [some (.ref 143), some (.int (zI bk)), some (.int (zI 1))], [], es1)
  refine x0 (r := (1, [some (.ref 143), some (.int (zI bk)), some (.int (zI 1))], [.int (zI bk)], es1)) i_199_0 rfl ?_
  refine x0 (r := (2, [some (.ref 143), some (.int (zI bk)), some (.int (zI 1))], [.int (zI 0), .int (zI bk)], es1)) i_199_1 (by rfl) ?_
  refine x0 (r := (3, [some (.ref 143), some (.int (zI bk)), some (.int (zI 1))], [.ref 143, .int (zI 0), .int (zI bk)], es1)) i_199_2 rfl ?_
  refine x_getr (p := 79) (k := 144) i_199_3 hs_es1 rfl rfl ?_
  show aW _ _ _ _ _ _ (6, [some (.ref 143), some (.int (zI bk)), some (.int (zI 1))], [.ref 144, .int (zI 0), .int (zI bk)], es1)
  refine x0 (r := (7, [some (.ref 143), some (.int (zI bk)), some (.int (zI 1))], [.int (zI 1), .ref 144, .int (zI 0), .int (zI bk)], es1)) i_199_6 rfl ?_
  refine x_iald (p := 80) i_199_7 hs_es1 rfl (by unfold i32 iLO iHI; omega) (by omega) (by omega) ?_
  obtain ⟨v2, e_v2⟩ : ∃ z : Int, z = (gA es1 80 (Int.toNat 1)).toInt := ⟨_, rfl⟩
  rw [← e_v2]
  have r_v2 : iLO ≤ v2 ∧ v2 ≤ iHI := by rw [e_v2]; exact i32_rng _
  unfold iLO iHI at r_v2
  have b_v2 : (0 : Int) ≤ v2 ∧ v2 ≤ (3 : Int) := by rw [e_v2]; exact gA_bd hT_es1 (p := 80) (k := (Int.toNat 1)) rfl (by omega) (by decide)
  refine x0 (r := (9, [some (.ref 143), some (.int (zI bk)), some (.int (zI 1))], [.int (zI 1), .int (zI v2), .int (zI 0), .int (zI bk)], es1)) i_199_8 (by rfl) ?_
  refine x_isub i_199_9 ?_
  refine x_call (vs := [.int (zI bk), .int (zI 0), .int (zI (v2 - 1))]) (rs := []) i_199_10 rfl (fun _ => rfl) rfl rfl rfl rfl rfl rfl ?_
  show aW _ _ _ _ _ _ (0, [some (.int (zI bk)), some (.int (zI 0)), some (.int (zI (v2 - 1)))], [], es1)
  refine x0 (r := (1, [some (.int (zI bk)), some (.int (zI 0)), some (.int (zI (v2 - 1)))], [.int (zI bk)], es1)) i_193_0 rfl ?_
  refine x0 (r := (2, [some (.int (zI bk)), some (.int (zI 0)), some (.int (zI (v2 - 1)))], [.int (zI 0), .int (zI bk)], es1)) i_193_1 rfl ?_
  by_cases c3 : bk < 0
  · refine x_cmpT i_193_2 (by unfold i32 iLO iHI; omega) (by unfold i32 iLO iHI; omega) rfl (by simp only [zC, cR]; omega) ?_
    refine x0 (r := (15, [some (.int (zI bk)), some (.int (zI 0)), some (.int (zI (v2 - 1)))], [.int (zI 0)], es1)) i_193_14 (by rfl) ?_
    refine x_ret (v := some (.int (zI 0))) i_193_15 rfl (fun _ => rfl) rfl rfl (pFin_b (by omega)) ?_
    show aW _ _ _ _ _ _ (13, [some (.ref 143), some (.int (zI bk)), some (.int (zI 1))], [.int (zI 0)], es1)
    refine x_ifF i_199_13 (by unfold i32 iLO iHI; omega) rfl (by simp only [zC, cR]; omega) ?_
    refine x0 (r := (17, [some (.ref 143), some (.int (zI bk)), some (.int (zI 1))], [.int (zI 1)], es1)) i_199_16 (by rfl) ?_
    refine x0 (r := (21, [some (.ref 143), some (.int (zI bk)), some (.int (zI 1))], [.int (zI 1)], es1)) i_199_17 rfl ?_
    refine x_ret (v := some (.int (zI 1))) i_199_21 rfl (fun _ => rfl) rfl rfl (pFin_b (by omega)) ?_
    show aW _ _ _ _ _ _ (6, [some (.ref 143), some (.int (zI bk))], [.int (zI 1)], es1)
    refine x_ret (v := some (.int (zI 1))) i_203_6 rfl (fun _ => rfl) rfl rfl (pFin_b (by omega)) ?_
    show aW _ _ _ _ _ _ (11, [some (.ref 143), some (.int (zI bk)), some (.int (zI kd)), some (.int (zI fr)), some (.int (zI fi)), some (.int (zI ra))], [.int (zI 1), .ref 143], es1)
    refine x_ifT i_202_11 (by unfold i32 iLO iHI; omega) rfl (by simp only [zC, cR]; omega) ?_
    refine x0 (r := (23, [some (.ref 143), some (.int (zI bk)), some (.int (zI kd)), some (.int (zI fr)), some (.int (zI fi)), some (.int (zI ra))], [.int (zI 1), .ref 143], es1)) i_202_22 (by rfl) ?_
    refine x0 (r := (27, [some (.ref 143), some (.int (zI bk)), some (.int (zI kd)), some (.int (zI fr)), some (.int (zI fi)), some (.int (zI ra))], [.int (zI 1), .ref 143], es1)) i_202_23 rfl ?_
    refine x0 (r := (28, [some (.ref 143), some (.int (zI bk)), some (.int (zI kd)), some (.int (zI fr)), some (.int (zI fi)), some (.int (zI ra))], [.int (zI 1), .int (zI 1), .ref 143], es1)) i_202_27 (by rfl) ?_
    refine x_call (vs := [.ref 143, .int (zI 1), .int (zI 1)]) (rs := []) i_202_28 rfl (fun _ => rfl) rfl rfl rfl rfl rfl (pCall_v (p := 79) hs_es1 rfl rfl rfl rfl rfl (by decide) rfl rfl rfl rfl rfl) ?_
    show aW _ _ _ _ _ _ (0, [some (.ref 143), some (.int (zI 1)), some (.int (zI 1))], [], es1)
    refine x0 (r := (1, [some (.ref 143), some (.int (zI 1)), some (.int (zI 1))], [.int (zI 1)], es1)) i_194_0 rfl ?_
    refine x_ifF i_194_1 (by unfold i32 iLO iHI; omega) rfl (by simp only [zC, cR]; omega) ?_
    refine x0 (r := (5, [some (.ref 143), some (.int (zI 1)), some (.int (zI 1))], [.ref 143], es1)) i_194_4 rfl ?_
    refine x0 (r := (6, [some (.ref 143), some (.int (zI 1)), some (.int (zI 1))], [.int (zI 1), .ref 143], es1)) i_194_5 rfl ?_
    refine x_puti (p := 79) (ty := .int) i_194_6 hs_es1 rfl rfl rfl (Or.inl rfl) ?_
    obtain ⟨es4, e_es4⟩ : ∃ z : PH, z = sI es1 79 0 (.int (zI 1)) := ⟨_, rfl⟩
    have hs_es4 : sh es4 := by rw [e_es4]; exact sh_sI hs_es1 (p := 79) (b := 0) rfl rfl
    have hT_es4 : hOK tT es4 := by rw [e_es4]; exact hOK_sI hT_es1 (p := 79) (b := 0) (lo := iLO) (hi := iHI) rfl rfl (i32_rng _)
    rw [← e_es4]
    refine x0 (r := (10, [some (.ref 143), some (.int (zI 1)), some (.int (zI 1))], [.int (zI 1)], es4)) i_194_9 rfl ?_
    refine x_ret (v := some (.int (zI 1))) i_194_10 rfl (fun _ => rfl) rfl rfl (pFin_b (by omega)) ?_
    show aW _ _ _ _ _ _ (31, [some (.ref 143), some (.int (zI bk)), some (.int (zI kd)), some (.int (zI fr)), some (.int (zI fi)), some (.int (zI ra))], [.int (zI 1)], es4)
    refine x_ifT i_202_31 (by unfold i32 iLO iHI; omega) rfl (by simp only [zC, cR]; omega) ?_
    refine x0 (r := (74, [some (.ref 143), some (.int (zI bk)), some (.int (zI kd)), some (.int (zI fr)), some (.int (zI fi)), some (.int (zI ra))], [.int (zI 0)], es4)) i_202_73 (by rfl) ?_
    refine x_ret (v := some (.int (zI 0))) i_202_74 rfl (fun _ => rfl) rfl rfl rfl ?_
    exact K1 es1 e_es1 v2 e_v2 c3 es4 e_es4
  · refine x_cmpF i_193_2 (by unfold i32 iLO iHI; omega) (by unfold i32 iLO iHI; omega) rfl (by simp only [zC, cR]; omega) ?_
    refine x0 (r := (6, [some (.int (zI bk)), some (.int (zI 0)), some (.int (zI (v2 - 1)))], [.int (zI bk)], es1)) i_193_5 rfl ?_
    refine x0 (r := (7, [some (.int (zI bk)), some (.int (zI 0)), some (.int (zI (v2 - 1)))], [.int (zI (v2 - 1)), .int (zI bk)], es1)) i_193_6 rfl ?_
    by_cases c5 : (v2 - 1) < bk
    · refine x_cmpT i_193_7 (by unfold i32 iLO iHI; omega) (by unfold i32 iLO iHI; omega) rfl (by simp only [zC, cR]; omega) ?_
      refine x0 (r := (15, [some (.int (zI bk)), some (.int (zI 0)), some (.int (zI (v2 - 1)))], [.int (zI 0)], es1)) i_193_14 (by rfl) ?_
      refine x_ret (v := some (.int (zI 0))) i_193_15 rfl (fun _ => rfl) rfl rfl (pFin_b (by omega)) ?_
      show aW _ _ _ _ _ _ (13, [some (.ref 143), some (.int (zI bk)), some (.int (zI 1))], [.int (zI 0)], es1)
      refine x_ifF i_199_13 (by unfold i32 iLO iHI; omega) rfl (by simp only [zC, cR]; omega) ?_
      refine x0 (r := (17, [some (.ref 143), some (.int (zI bk)), some (.int (zI 1))], [.int (zI 1)], es1)) i_199_16 (by rfl) ?_
      refine x0 (r := (21, [some (.ref 143), some (.int (zI bk)), some (.int (zI 1))], [.int (zI 1)], es1)) i_199_17 rfl ?_
      refine x_ret (v := some (.int (zI 1))) i_199_21 rfl (fun _ => rfl) rfl rfl (pFin_b (by omega)) ?_
      show aW _ _ _ _ _ _ (6, [some (.ref 143), some (.int (zI bk))], [.int (zI 1)], es1)
      refine x_ret (v := some (.int (zI 1))) i_203_6 rfl (fun _ => rfl) rfl rfl (pFin_b (by omega)) ?_
      show aW _ _ _ _ _ _ (11, [some (.ref 143), some (.int (zI bk)), some (.int (zI kd)), some (.int (zI fr)), some (.int (zI fi)), some (.int (zI ra))], [.int (zI 1), .ref 143], es1)
      refine x_ifT i_202_11 (by unfold i32 iLO iHI; omega) rfl (by simp only [zC, cR]; omega) ?_
      refine x0 (r := (23, [some (.ref 143), some (.int (zI bk)), some (.int (zI kd)), some (.int (zI fr)), some (.int (zI fi)), some (.int (zI ra))], [.int (zI 1), .ref 143], es1)) i_202_22 (by rfl) ?_
      refine x0 (r := (27, [some (.ref 143), some (.int (zI bk)), some (.int (zI kd)), some (.int (zI fr)), some (.int (zI fi)), some (.int (zI ra))], [.int (zI 1), .ref 143], es1)) i_202_23 rfl ?_
      refine x0 (r := (28, [some (.ref 143), some (.int (zI bk)), some (.int (zI kd)), some (.int (zI fr)), some (.int (zI fi)), some (.int (zI ra))], [.int (zI 1), .int (zI 1), .ref 143], es1)) i_202_27 (by rfl) ?_
      refine x_call (vs := [.ref 143, .int (zI 1), .int (zI 1)]) (rs := []) i_202_28 rfl (fun _ => rfl) rfl rfl rfl rfl rfl (pCall_v (p := 79) hs_es1 rfl rfl rfl rfl rfl (by decide) rfl rfl rfl rfl rfl) ?_
      show aW _ _ _ _ _ _ (0, [some (.ref 143), some (.int (zI 1)), some (.int (zI 1))], [], es1)
      refine x0 (r := (1, [some (.ref 143), some (.int (zI 1)), some (.int (zI 1))], [.int (zI 1)], es1)) i_194_0 rfl ?_
      refine x_ifF i_194_1 (by unfold i32 iLO iHI; omega) rfl (by simp only [zC, cR]; omega) ?_
      refine x0 (r := (5, [some (.ref 143), some (.int (zI 1)), some (.int (zI 1))], [.ref 143], es1)) i_194_4 rfl ?_
      refine x0 (r := (6, [some (.ref 143), some (.int (zI 1)), some (.int (zI 1))], [.int (zI 1), .ref 143], es1)) i_194_5 rfl ?_
      refine x_puti (p := 79) (ty := .int) i_194_6 hs_es1 rfl rfl rfl (Or.inl rfl) ?_
      obtain ⟨es6, e_es6⟩ : ∃ z : PH, z = sI es1 79 0 (.int (zI 1)) := ⟨_, rfl⟩
      have hs_es6 : sh es6 := by rw [e_es6]; exact sh_sI hs_es1 (p := 79) (b := 0) rfl rfl
      have hT_es6 : hOK tT es6 := by rw [e_es6]; exact hOK_sI hT_es1 (p := 79) (b := 0) (lo := iLO) (hi := iHI) rfl rfl (i32_rng _)
      rw [← e_es6]
      refine x0 (r := (10, [some (.ref 143), some (.int (zI 1)), some (.int (zI 1))], [.int (zI 1)], es6)) i_194_9 rfl ?_
      refine x_ret (v := some (.int (zI 1))) i_194_10 rfl (fun _ => rfl) rfl rfl (pFin_b (by omega)) ?_
      show aW _ _ _ _ _ _ (31, [some (.ref 143), some (.int (zI bk)), some (.int (zI kd)), some (.int (zI fr)), some (.int (zI fi)), some (.int (zI ra))], [.int (zI 1)], es6)
      refine x_ifT i_202_31 (by unfold i32 iLO iHI; omega) rfl (by simp only [zC, cR]; omega) ?_
      refine x0 (r := (74, [some (.ref 143), some (.int (zI bk)), some (.int (zI kd)), some (.int (zI fr)), some (.int (zI fi)), some (.int (zI ra))], [.int (zI 0)], es6)) i_202_73 (by rfl) ?_
      refine x_ret (v := some (.int (zI 0))) i_202_74 rfl (fun _ => rfl) rfl rfl rfl ?_
      exact K2 es1 e_es1 v2 e_v2 c3 c5 es6 e_es6
    · refine x_cmpF i_193_7 (by unfold i32 iLO iHI; omega) (by unfold i32 iLO iHI; omega) rfl (by simp only [zC, cR]; omega) ?_
      refine x0 (r := (11, [some (.int (zI bk)), some (.int (zI 0)), some (.int (zI (v2 - 1)))], [.int (zI 1)], es1)) i_193_10 (by rfl) ?_
      refine x0 (r := (15, [some (.int (zI bk)), some (.int (zI 0)), some (.int (zI (v2 - 1)))], [.int (zI 1)], es1)) i_193_11 rfl ?_
      refine x_ret (v := some (.int (zI 1))) i_193_15 rfl (fun _ => rfl) rfl rfl (pFin_b (by omega)) ?_
      show aW _ _ _ _ _ _ (13, [some (.ref 143), some (.int (zI bk)), some (.int (zI 1))], [.int (zI 1)], es1)
      refine x_ifT i_199_13 (by unfold i32 iLO iHI; omega) rfl (by simp only [zC, cR]; omega) ?_
      refine x0 (r := (21, [some (.ref 143), some (.int (zI bk)), some (.int (zI 1))], [.int (zI 0)], es1)) i_199_20 (by rfl) ?_
      refine x_ret (v := some (.int (zI 0))) i_199_21 rfl (fun _ => rfl) rfl rfl (pFin_b (by omega)) ?_
      show aW _ _ _ _ _ _ (6, [some (.ref 143), some (.int (zI bk))], [.int (zI 0)], es1)
      refine x_ret (v := some (.int (zI 0))) i_203_6 rfl (fun _ => rfl) rfl rfl (pFin_b (by omega)) ?_
      show aW _ _ _ _ _ _ (11, [some (.ref 143), some (.int (zI bk)), some (.int (zI kd)), some (.int (zI fr)), some (.int (zI fi)), some (.int (zI ra))], [.int (zI 0), .ref 143], es1)
      refine x_ifF i_202_11 (by unfold i32 iLO iHI; omega) rfl (by simp only [zC, cR]; omega) ?_
      refine x0 (r := (15, [some (.ref 143), some (.int (zI bk)), some (.int (zI kd)), some (.int (zI fr)), some (.int (zI fi)), some (.int (zI ra))], [.ref 143, .ref 143], es1)) i_202_14 rfl ?_
      refine x0 (r := (16, [some (.ref 143), some (.int (zI bk)), some (.int (zI kd)), some (.int (zI fr)), some (.int (zI fi)), some (.int (zI ra))], [.int (zI kd), .ref 143, .ref 143], es1)) i_202_15 rfl ?_
      refine x_call (vs := [.ref 143, .int (zI kd)]) (rs := [.ref 143]) i_202_16 rfl (fun _ => rfl) rfl rfl rfl rfl rfl (pCall_v (p := 79) hs_es1 rfl rfl rfl rfl rfl (by decide) rfl rfl rfl rfl rfl) ?_
      show aW _ _ _ _ _ _ (0, [some (.ref 143), some (.int (zI kd))], [], es1)
      refine x0 (r := (1, [some (.ref 143), some (.int (zI kd))], [.ref 143], es1)) i_198_0 rfl ?_
      refine x0 (r := (2, [some (.ref 143), some (.int (zI kd))], [.int (zI kd), .ref 143], es1)) i_198_1 rfl ?_
      refine x0 (r := (3, [some (.ref 143), some (.int (zI kd))], [.int (zI 0), .int (zI kd), .ref 143], es1)) i_198_2 (by rfl) ?_
      refine x_call (vs := [.ref 143, .int (zI kd), .int (zI 0)]) (rs := []) i_198_3 rfl (fun _ => rfl) rfl rfl rfl rfl rfl (pCall_v (p := 79) hs_es1 rfl rfl rfl rfl rfl (by decide) rfl rfl rfl rfl rfl) ?_
      show aW _ _ _ _ _ _ (0, [some (.ref 143), some (.int (zI kd)), some (.int (zI 0))], [], es1)
      refine x0 (r := (1, [some (.ref 143), some (.int (zI kd)), some (.int (zI 0))], [.int (zI kd)], es1)) i_199_0 rfl ?_
      refine x0 (r := (2, [some (.ref 143), some (.int (zI kd)), some (.int (zI 0))], [.int (zI 0), .int (zI kd)], es1)) i_199_1 (by rfl) ?_
      refine x0 (r := (3, [some (.ref 143), some (.int (zI kd)), some (.int (zI 0))], [.ref 143, .int (zI 0), .int (zI kd)], es1)) i_199_2 rfl ?_
      refine x_getr (p := 79) (k := 144) i_199_3 hs_es1 rfl rfl ?_
      show aW _ _ _ _ _ _ (6, [some (.ref 143), some (.int (zI kd)), some (.int (zI 0))], [.ref 144, .int (zI 0), .int (zI kd)], es1)
      refine x0 (r := (7, [some (.ref 143), some (.int (zI kd)), some (.int (zI 0))], [.int (zI 0), .ref 144, .int (zI 0), .int (zI kd)], es1)) i_199_6 rfl ?_
      refine x_iald (p := 80) i_199_7 hs_es1 rfl (by unfold i32 iLO iHI; omega) (by omega) (by omega) ?_
      obtain ⟨v7, e_v7⟩ : ∃ z : Int, z = (gA es1 80 (Int.toNat 0)).toInt := ⟨_, rfl⟩
      rw [← e_v7]
      have r_v7 : iLO ≤ v7 ∧ v7 ≤ iHI := by rw [e_v7]; exact i32_rng _
      unfold iLO iHI at r_v7
      have b_v7 : (0 : Int) ≤ v7 ∧ v7 ≤ (5 : Int) := by rw [e_v7]; exact gA_bd hT_es1 (p := 80) (k := (Int.toNat 0)) rfl (by omega) (by decide)
      refine x0 (r := (9, [some (.ref 143), some (.int (zI kd)), some (.int (zI 0))], [.int (zI 1), .int (zI v7), .int (zI 0), .int (zI kd)], es1)) i_199_8 (by rfl) ?_
      refine x_isub i_199_9 ?_
      refine x_call (vs := [.int (zI kd), .int (zI 0), .int (zI (v7 - 1))]) (rs := []) i_199_10 rfl (fun _ => rfl) rfl rfl rfl rfl rfl rfl ?_
      show aW _ _ _ _ _ _ (0, [some (.int (zI kd)), some (.int (zI 0)), some (.int (zI (v7 - 1)))], [], es1)
      refine x0 (r := (1, [some (.int (zI kd)), some (.int (zI 0)), some (.int (zI (v7 - 1)))], [.int (zI kd)], es1)) i_193_0 rfl ?_
      refine x0 (r := (2, [some (.int (zI kd)), some (.int (zI 0)), some (.int (zI (v7 - 1)))], [.int (zI 0), .int (zI kd)], es1)) i_193_1 rfl ?_
      by_cases c8 : kd < 0
      · refine x_cmpT i_193_2 (by unfold i32 iLO iHI; omega) (by unfold i32 iLO iHI; omega) rfl (by simp only [zC, cR]; omega) ?_
        refine x0 (r := (15, [some (.int (zI kd)), some (.int (zI 0)), some (.int (zI (v7 - 1)))], [.int (zI 0)], es1)) i_193_14 (by rfl) ?_
        refine x_ret (v := some (.int (zI 0))) i_193_15 rfl (fun _ => rfl) rfl rfl (pFin_b (by omega)) ?_
        show aW _ _ _ _ _ _ (13, [some (.ref 143), some (.int (zI kd)), some (.int (zI 0))], [.int (zI 0)], es1)
        refine x_ifF i_199_13 (by unfold i32 iLO iHI; omega) rfl (by simp only [zC, cR]; omega) ?_
        refine x0 (r := (17, [some (.ref 143), some (.int (zI kd)), some (.int (zI 0))], [.int (zI 1)], es1)) i_199_16 (by rfl) ?_
        refine x0 (r := (21, [some (.ref 143), some (.int (zI kd)), some (.int (zI 0))], [.int (zI 1)], es1)) i_199_17 rfl ?_
        refine x_ret (v := some (.int (zI 1))) i_199_21 rfl (fun _ => rfl) rfl rfl (pFin_b (by omega)) ?_
        show aW _ _ _ _ _ _ (6, [some (.ref 143), some (.int (zI kd))], [.int (zI 1)], es1)
        refine x_ret (v := some (.int (zI 1))) i_198_6 rfl (fun _ => rfl) rfl rfl (pFin_b (by omega)) ?_
        show aW _ _ _ _ _ _ (19, [some (.ref 143), some (.int (zI bk)), some (.int (zI kd)), some (.int (zI fr)), some (.int (zI fi)), some (.int (zI ra))], [.int (zI 1), .ref 143], es1)
        refine x_ifF i_202_19 (by unfold i32 iLO iHI; omega) rfl (by simp only [zC, cR]; omega) ?_
        refine x0 (r := (23, [some (.ref 143), some (.int (zI bk)), some (.int (zI kd)), some (.int (zI fr)), some (.int (zI fi)), some (.int (zI ra))], [.int (zI 1), .ref 143], es1)) i_202_22 (by rfl) ?_
        refine x0 (r := (27, [some (.ref 143), some (.int (zI bk)), some (.int (zI kd)), some (.int (zI fr)), some (.int (zI fi)), some (.int (zI ra))], [.int (zI 1), .ref 143], es1)) i_202_23 rfl ?_
        refine x0 (r := (28, [some (.ref 143), some (.int (zI bk)), some (.int (zI kd)), some (.int (zI fr)), some (.int (zI fi)), some (.int (zI ra))], [.int (zI 1), .int (zI 1), .ref 143], es1)) i_202_27 (by rfl) ?_
        refine x_call (vs := [.ref 143, .int (zI 1), .int (zI 1)]) (rs := []) i_202_28 rfl (fun _ => rfl) rfl rfl rfl rfl rfl (pCall_v (p := 79) hs_es1 rfl rfl rfl rfl rfl (by decide) rfl rfl rfl rfl rfl) ?_
        show aW _ _ _ _ _ _ (0, [some (.ref 143), some (.int (zI 1)), some (.int (zI 1))], [], es1)
        refine x0 (r := (1, [some (.ref 143), some (.int (zI 1)), some (.int (zI 1))], [.int (zI 1)], es1)) i_194_0 rfl ?_
        refine x_ifF i_194_1 (by unfold i32 iLO iHI; omega) rfl (by simp only [zC, cR]; omega) ?_
        refine x0 (r := (5, [some (.ref 143), some (.int (zI 1)), some (.int (zI 1))], [.ref 143], es1)) i_194_4 rfl ?_
        refine x0 (r := (6, [some (.ref 143), some (.int (zI 1)), some (.int (zI 1))], [.int (zI 1), .ref 143], es1)) i_194_5 rfl ?_
        refine x_puti (p := 79) (ty := .int) i_194_6 hs_es1 rfl rfl rfl (Or.inl rfl) ?_
        obtain ⟨es9, e_es9⟩ : ∃ z : PH, z = sI es1 79 0 (.int (zI 1)) := ⟨_, rfl⟩
        have hs_es9 : sh es9 := by rw [e_es9]; exact sh_sI hs_es1 (p := 79) (b := 0) rfl rfl
        have hT_es9 : hOK tT es9 := by rw [e_es9]; exact hOK_sI hT_es1 (p := 79) (b := 0) (lo := iLO) (hi := iHI) rfl rfl (i32_rng _)
        rw [← e_es9]
        refine x0 (r := (10, [some (.ref 143), some (.int (zI 1)), some (.int (zI 1))], [.int (zI 1)], es9)) i_194_9 rfl ?_
        refine x_ret (v := some (.int (zI 1))) i_194_10 rfl (fun _ => rfl) rfl rfl (pFin_b (by omega)) ?_
        show aW _ _ _ _ _ _ (31, [some (.ref 143), some (.int (zI bk)), some (.int (zI kd)), some (.int (zI fr)), some (.int (zI fi)), some (.int (zI ra))], [.int (zI 1)], es9)
        refine x_ifT i_202_31 (by unfold i32 iLO iHI; omega) rfl (by simp only [zC, cR]; omega) ?_
        refine x0 (r := (74, [some (.ref 143), some (.int (zI bk)), some (.int (zI kd)), some (.int (zI fr)), some (.int (zI fi)), some (.int (zI ra))], [.int (zI 0)], es9)) i_202_73 (by rfl) ?_
        refine x_ret (v := some (.int (zI 0))) i_202_74 rfl (fun _ => rfl) rfl rfl rfl ?_
        exact K3 es1 e_es1 v2 e_v2 c3 c5 v7 e_v7 c8 es9 e_es9
      · refine x_cmpF i_193_2 (by unfold i32 iLO iHI; omega) (by unfold i32 iLO iHI; omega) rfl (by simp only [zC, cR]; omega) ?_
        refine x0 (r := (6, [some (.int (zI kd)), some (.int (zI 0)), some (.int (zI (v7 - 1)))], [.int (zI kd)], es1)) i_193_5 rfl ?_
        refine x0 (r := (7, [some (.int (zI kd)), some (.int (zI 0)), some (.int (zI (v7 - 1)))], [.int (zI (v7 - 1)), .int (zI kd)], es1)) i_193_6 rfl ?_
        by_cases c10 : (v7 - 1) < kd
        · refine x_cmpT i_193_7 (by unfold i32 iLO iHI; omega) (by unfold i32 iLO iHI; omega) rfl (by simp only [zC, cR]; omega) ?_
          refine x0 (r := (15, [some (.int (zI kd)), some (.int (zI 0)), some (.int (zI (v7 - 1)))], [.int (zI 0)], es1)) i_193_14 (by rfl) ?_
          refine x_ret (v := some (.int (zI 0))) i_193_15 rfl (fun _ => rfl) rfl rfl (pFin_b (by omega)) ?_
          show aW _ _ _ _ _ _ (13, [some (.ref 143), some (.int (zI kd)), some (.int (zI 0))], [.int (zI 0)], es1)
          refine x_ifF i_199_13 (by unfold i32 iLO iHI; omega) rfl (by simp only [zC, cR]; omega) ?_
          refine x0 (r := (17, [some (.ref 143), some (.int (zI kd)), some (.int (zI 0))], [.int (zI 1)], es1)) i_199_16 (by rfl) ?_
          refine x0 (r := (21, [some (.ref 143), some (.int (zI kd)), some (.int (zI 0))], [.int (zI 1)], es1)) i_199_17 rfl ?_
          refine x_ret (v := some (.int (zI 1))) i_199_21 rfl (fun _ => rfl) rfl rfl (pFin_b (by omega)) ?_
          show aW _ _ _ _ _ _ (6, [some (.ref 143), some (.int (zI kd))], [.int (zI 1)], es1)
          refine x_ret (v := some (.int (zI 1))) i_198_6 rfl (fun _ => rfl) rfl rfl (pFin_b (by omega)) ?_
          show aW _ _ _ _ _ _ (19, [some (.ref 143), some (.int (zI bk)), some (.int (zI kd)), some (.int (zI fr)), some (.int (zI fi)), some (.int (zI ra))], [.int (zI 1), .ref 143], es1)
          refine x_ifF i_202_19 (by unfold i32 iLO iHI; omega) rfl (by simp only [zC, cR]; omega) ?_
          refine x0 (r := (23, [some (.ref 143), some (.int (zI bk)), some (.int (zI kd)), some (.int (zI fr)), some (.int (zI fi)), some (.int (zI ra))], [.int (zI 1), .ref 143], es1)) i_202_22 (by rfl) ?_
          refine x0 (r := (27, [some (.ref 143), some (.int (zI bk)), some (.int (zI kd)), some (.int (zI fr)), some (.int (zI fi)), some (.int (zI ra))], [.int (zI 1), .ref 143], es1)) i_202_23 rfl ?_
          refine x0 (r := (28, [some (.ref 143), some (.int (zI bk)), some (.int (zI kd)), some (.int (zI fr)), some (.int (zI fi)), some (.int (zI ra))], [.int (zI 1), .int (zI 1), .ref 143], es1)) i_202_27 (by rfl) ?_
          refine x_call (vs := [.ref 143, .int (zI 1), .int (zI 1)]) (rs := []) i_202_28 rfl (fun _ => rfl) rfl rfl rfl rfl rfl (pCall_v (p := 79) hs_es1 rfl rfl rfl rfl rfl (by decide) rfl rfl rfl rfl rfl) ?_
          show aW _ _ _ _ _ _ (0, [some (.ref 143), some (.int (zI 1)), some (.int (zI 1))], [], es1)
          refine x0 (r := (1, [some (.ref 143), some (.int (zI 1)), some (.int (zI 1))], [.int (zI 1)], es1)) i_194_0 rfl ?_
          refine x_ifF i_194_1 (by unfold i32 iLO iHI; omega) rfl (by simp only [zC, cR]; omega) ?_
          refine x0 (r := (5, [some (.ref 143), some (.int (zI 1)), some (.int (zI 1))], [.ref 143], es1)) i_194_4 rfl ?_
          refine x0 (r := (6, [some (.ref 143), some (.int (zI 1)), some (.int (zI 1))], [.int (zI 1), .ref 143], es1)) i_194_5 rfl ?_
          refine x_puti (p := 79) (ty := .int) i_194_6 hs_es1 rfl rfl rfl (Or.inl rfl) ?_
          obtain ⟨es11, e_es11⟩ : ∃ z : PH, z = sI es1 79 0 (.int (zI 1)) := ⟨_, rfl⟩
          have hs_es11 : sh es11 := by rw [e_es11]; exact sh_sI hs_es1 (p := 79) (b := 0) rfl rfl
          have hT_es11 : hOK tT es11 := by rw [e_es11]; exact hOK_sI hT_es1 (p := 79) (b := 0) (lo := iLO) (hi := iHI) rfl rfl (i32_rng _)
          rw [← e_es11]
          refine x0 (r := (10, [some (.ref 143), some (.int (zI 1)), some (.int (zI 1))], [.int (zI 1)], es11)) i_194_9 rfl ?_
          refine x_ret (v := some (.int (zI 1))) i_194_10 rfl (fun _ => rfl) rfl rfl (pFin_b (by omega)) ?_
          show aW _ _ _ _ _ _ (31, [some (.ref 143), some (.int (zI bk)), some (.int (zI kd)), some (.int (zI fr)), some (.int (zI fi)), some (.int (zI ra))], [.int (zI 1)], es11)
          refine x_ifT i_202_31 (by unfold i32 iLO iHI; omega) rfl (by simp only [zC, cR]; omega) ?_
          refine x0 (r := (74, [some (.ref 143), some (.int (zI bk)), some (.int (zI kd)), some (.int (zI fr)), some (.int (zI fi)), some (.int (zI ra))], [.int (zI 0)], es11)) i_202_73 (by rfl) ?_
          refine x_ret (v := some (.int (zI 0))) i_202_74 rfl (fun _ => rfl) rfl rfl rfl ?_
          exact K4 es1 e_es1 v2 e_v2 c3 c5 v7 e_v7 c8 c10 es11 e_es11
        · refine x_cmpF i_193_7 (by unfold i32 iLO iHI; omega) (by unfold i32 iLO iHI; omega) rfl (by simp only [zC, cR]; omega) ?_
          refine x0 (r := (11, [some (.int (zI kd)), some (.int (zI 0)), some (.int (zI (v7 - 1)))], [.int (zI 1)], es1)) i_193_10 (by rfl) ?_
          refine x0 (r := (15, [some (.int (zI kd)), some (.int (zI 0)), some (.int (zI (v7 - 1)))], [.int (zI 1)], es1)) i_193_11 rfl ?_
          refine x_ret (v := some (.int (zI 1))) i_193_15 rfl (fun _ => rfl) rfl rfl (pFin_b (by omega)) ?_
          show aW _ _ _ _ _ _ (13, [some (.ref 143), some (.int (zI kd)), some (.int (zI 0))], [.int (zI 1)], es1)
          refine x_ifT i_199_13 (by unfold i32 iLO iHI; omega) rfl (by simp only [zC, cR]; omega) ?_
          refine x0 (r := (21, [some (.ref 143), some (.int (zI kd)), some (.int (zI 0))], [.int (zI 0)], es1)) i_199_20 (by rfl) ?_
          refine x_ret (v := some (.int (zI 0))) i_199_21 rfl (fun _ => rfl) rfl rfl (pFin_b (by omega)) ?_
          show aW _ _ _ _ _ _ (6, [some (.ref 143), some (.int (zI kd))], [.int (zI 0)], es1)
          refine x_ret (v := some (.int (zI 0))) i_198_6 rfl (fun _ => rfl) rfl rfl (pFin_b (by omega)) ?_
          show aW _ _ _ _ _ _ (19, [some (.ref 143), some (.int (zI bk)), some (.int (zI kd)), some (.int (zI fr)), some (.int (zI fi)), some (.int (zI ra))], [.int (zI 0), .ref 143], es1)
          refine x_ifT i_202_19 (by unfold i32 iLO iHI; omega) rfl (by simp only [zC, cR]; omega) ?_
          refine x0 (r := (27, [some (.ref 143), some (.int (zI bk)), some (.int (zI kd)), some (.int (zI fr)), some (.int (zI fi)), some (.int (zI ra))], [.int (zI 0), .ref 143], es1)) i_202_26 (by rfl) ?_
          refine x0 (r := (28, [some (.ref 143), some (.int (zI bk)), some (.int (zI kd)), some (.int (zI fr)), some (.int (zI fi)), some (.int (zI ra))], [.int (zI 1), .int (zI 0), .ref 143], es1)) i_202_27 (by rfl) ?_
          refine x_call (vs := [.ref 143, .int (zI 0), .int (zI 1)]) (rs := []) i_202_28 rfl (fun _ => rfl) rfl rfl rfl rfl rfl (pCall_v (p := 79) hs_es1 rfl rfl rfl rfl rfl (by decide) rfl rfl rfl rfl rfl) ?_
          show aW _ _ _ _ _ _ (0, [some (.ref 143), some (.int (zI 0)), some (.int (zI 1))], [], es1)
          refine x0 (r := (1, [some (.ref 143), some (.int (zI 0)), some (.int (zI 1))], [.int (zI 0)], es1)) i_194_0 rfl ?_
          refine x_ifT i_194_1 (by unfold i32 iLO iHI; omega) rfl (by simp only [zC, cR]; omega) ?_
          refine x0 (r := (10, [some (.ref 143), some (.int (zI 0)), some (.int (zI 1))], [.int (zI 0)], es1)) i_194_9 rfl ?_
          refine x_ret (v := some (.int (zI 0))) i_194_10 rfl (fun _ => rfl) rfl rfl (pFin_b (by omega)) ?_
          show aW _ _ _ _ _ _ (31, [some (.ref 143), some (.int (zI bk)), some (.int (zI kd)), some (.int (zI fr)), some (.int (zI fi)), some (.int (zI ra))], [.int (zI 0)], es1)
          refine x_ifF i_202_31 (by unfold i32 iLO iHI; omega) rfl (by simp only [zC, cR]; omega) ?_
          refine x0 (r := (35, [some (.ref 143), some (.int (zI bk)), some (.int (zI kd)), some (.int (zI fr)), some (.int (zI fi)), some (.int (zI ra))], [.ref 143], es1)) i_202_34 rfl ?_
          refine x0 (r := (36, [some (.ref 143), some (.int (zI bk)), some (.int (zI kd)), some (.int (zI fr)), some (.int (zI fi)), some (.int (zI ra))], [.int (zI fr), .ref 143], es1)) i_202_35 rfl ?_
          refine x0 (r := (38, [some (.ref 143), some (.int (zI bk)), some (.int (zI kd)), some (.int (zI fr)), some (.int (zI fi)), some (.int (zI ra))], [.int (zI fi), .int (zI fr), .ref 143], es1)) i_202_36 rfl ?_
          refine x0 (r := (40, [some (.ref 143), some (.int (zI bk)), some (.int (zI kd)), some (.int (zI fr)), some (.int (zI fi)), some (.int (zI ra))], [.int (zI ra), .int (zI fi), .int (zI fr), .ref 143], es1)) i_202_38 rfl ?_
          refine x_call (vs := [.int (zI fr), .int (zI fi), .int (zI ra)]) (rs := [.ref 143]) i_202_40 rfl (fun _ => rfl) rfl rfl rfl rfl rfl rfl ?_
          show aW _ _ _ _ _ _ (0, [some (.int (zI fr)), some (.int (zI fi)), some (.int (zI ra))], [], es1)
          refine x0 (r := (1, [some (.int (zI fr)), some (.int (zI fi)), some (.int (zI ra))], [.int (zI fr)], es1)) i_204_0 rfl ?_
          refine x0 (r := (2, [some (.int (zI fr)), some (.int (zI fi)), some (.int (zI ra))], [.int (zI (-1)), .int (zI fr)], es1)) i_204_1 (by rfl) ?_
          refine x0 (r := (3, [some (.int (zI fr)), some (.int (zI fi)), some (.int (zI ra))], [.int (zI 5), .int (zI (-1)), .int (zI fr)], es1)) i_204_2 (by rfl) ?_
          refine x_call (vs := [.int (zI fr), .int (zI (-1)), .int (zI 5)]) (rs := []) i_204_3 rfl (fun _ => rfl) rfl rfl rfl rfl rfl rfl ?_
          show aW _ _ _ _ _ _ (0, [some (.int (zI fr)), some (.int (zI (-1))), some (.int (zI 5))], [], es1)
          refine x0 (r := (1, [some (.int (zI fr)), some (.int (zI (-1))), some (.int (zI 5))], [.int (zI fr)], es1)) i_193_0 rfl ?_
          refine x0 (r := (2, [some (.int (zI fr)), some (.int (zI (-1))), some (.int (zI 5))], [.int (zI (-1)), .int (zI fr)], es1)) i_193_1 rfl ?_
          by_cases c12 : fr < (-1)
          · refine x_cmpT i_193_2 (by unfold i32 iLO iHI; omega) (by unfold i32 iLO iHI; omega) rfl (by simp only [zC, cR]; omega) ?_
            refine x0 (r := (15, [some (.int (zI fr)), some (.int (zI (-1))), some (.int (zI 5))], [.int (zI 0)], es1)) i_193_14 (by rfl) ?_
            refine x_ret (v := some (.int (zI 0))) i_193_15 rfl (fun _ => rfl) rfl rfl (pFin_b (by omega)) ?_
            show aW _ _ _ _ _ _ (6, [some (.int (zI fr)), some (.int (zI fi)), some (.int (zI ra))], [.int (zI 0)], es1)
            refine x_ifT i_204_6 (by unfold i32 iLO iHI; omega) rfl (by simp only [zC, cR]; omega) ?_
            refine x0 (r := (28, [some (.int (zI fr)), some (.int (zI fi)), some (.int (zI ra))], [.int (zI 1)], es1)) i_204_27 (by rfl) ?_
            refine x0 (r := (32, [some (.int (zI fr)), some (.int (zI fi)), some (.int (zI ra))], [.int (zI 1)], es1)) i_204_28 rfl ?_
            refine x_ret (v := some (.int (zI 1))) i_204_32 rfl (fun _ => rfl) rfl rfl (pFin_b (by omega)) ?_
            show aW _ _ _ _ _ _ (43, [some (.ref 143), some (.int (zI bk)), some (.int (zI kd)), some (.int (zI fr)), some (.int (zI fi)), some (.int (zI ra))], [.int (zI 1), .ref 143], es1)
            refine x0 (r := (44, [some (.ref 143), some (.int (zI bk)), some (.int (zI kd)), some (.int (zI fr)), some (.int (zI fi)), some (.int (zI ra))], [.int (zI 2), .int (zI 1), .ref 143], es1)) i_202_43 (by rfl) ?_
            refine x_call (vs := [.ref 143, .int (zI 1), .int (zI 2)]) (rs := []) i_202_44 rfl (fun _ => rfl) rfl rfl rfl rfl rfl (pCall_v (p := 79) hs_es1 rfl rfl rfl rfl rfl (by decide) rfl rfl rfl rfl rfl) ?_
            show aW _ _ _ _ _ _ (0, [some (.ref 143), some (.int (zI 1)), some (.int (zI 2))], [], es1)
            refine x0 (r := (1, [some (.ref 143), some (.int (zI 1)), some (.int (zI 2))], [.int (zI 1)], es1)) i_194_0 rfl ?_
            refine x_ifF i_194_1 (by unfold i32 iLO iHI; omega) rfl (by simp only [zC, cR]; omega) ?_
            refine x0 (r := (5, [some (.ref 143), some (.int (zI 1)), some (.int (zI 2))], [.ref 143], es1)) i_194_4 rfl ?_
            refine x0 (r := (6, [some (.ref 143), some (.int (zI 1)), some (.int (zI 2))], [.int (zI 2), .ref 143], es1)) i_194_5 rfl ?_
            refine x_puti (p := 79) (ty := .int) i_194_6 hs_es1 rfl rfl rfl (Or.inl rfl) ?_
            obtain ⟨es13, e_es13⟩ : ∃ z : PH, z = sI es1 79 0 (.int (zI 2)) := ⟨_, rfl⟩
            have hs_es13 : sh es13 := by rw [e_es13]; exact sh_sI hs_es1 (p := 79) (b := 0) rfl rfl
            have hT_es13 : hOK tT es13 := by rw [e_es13]; exact hOK_sI hT_es1 (p := 79) (b := 0) (lo := iLO) (hi := iHI) rfl rfl (i32_rng _)
            rw [← e_es13]
            refine x0 (r := (10, [some (.ref 143), some (.int (zI 1)), some (.int (zI 2))], [.int (zI 1)], es13)) i_194_9 rfl ?_
            refine x_ret (v := some (.int (zI 1))) i_194_10 rfl (fun _ => rfl) rfl rfl (pFin_b (by omega)) ?_
            show aW _ _ _ _ _ _ (47, [some (.ref 143), some (.int (zI bk)), some (.int (zI kd)), some (.int (zI fr)), some (.int (zI fi)), some (.int (zI ra))], [.int (zI 1)], es13)
            refine x_ifT i_202_47 (by unfold i32 iLO iHI; omega) rfl (by simp only [zC, cR]; omega) ?_
            refine x0 (r := (74, [some (.ref 143), some (.int (zI bk)), some (.int (zI kd)), some (.int (zI fr)), some (.int (zI fi)), some (.int (zI ra))], [.int (zI 0)], es13)) i_202_73 (by rfl) ?_
            refine x_ret (v := some (.int (zI 0))) i_202_74 rfl (fun _ => rfl) rfl rfl rfl ?_
            exact K5 es1 e_es1 v2 e_v2 c3 c5 v7 e_v7 c8 c10 c12 es13 e_es13
          · refine x_cmpF i_193_2 (by unfold i32 iLO iHI; omega) (by unfold i32 iLO iHI; omega) rfl (by simp only [zC, cR]; omega) ?_
            refine x0 (r := (6, [some (.int (zI fr)), some (.int (zI (-1))), some (.int (zI 5))], [.int (zI fr)], es1)) i_193_5 rfl ?_
            refine x0 (r := (7, [some (.int (zI fr)), some (.int (zI (-1))), some (.int (zI 5))], [.int (zI 5), .int (zI fr)], es1)) i_193_6 rfl ?_
            by_cases c14 : 5 < fr
            · refine x_cmpT i_193_7 (by unfold i32 iLO iHI; omega) (by unfold i32 iLO iHI; omega) rfl (by simp only [zC, cR]; omega) ?_
              refine x0 (r := (15, [some (.int (zI fr)), some (.int (zI (-1))), some (.int (zI 5))], [.int (zI 0)], es1)) i_193_14 (by rfl) ?_
              refine x_ret (v := some (.int (zI 0))) i_193_15 rfl (fun _ => rfl) rfl rfl (pFin_b (by omega)) ?_
              show aW _ _ _ _ _ _ (6, [some (.int (zI fr)), some (.int (zI fi)), some (.int (zI ra))], [.int (zI 0)], es1)
              refine x_ifT i_204_6 (by unfold i32 iLO iHI; omega) rfl (by simp only [zC, cR]; omega) ?_
              refine x0 (r := (28, [some (.int (zI fr)), some (.int (zI fi)), some (.int (zI ra))], [.int (zI 1)], es1)) i_204_27 (by rfl) ?_
              refine x0 (r := (32, [some (.int (zI fr)), some (.int (zI fi)), some (.int (zI ra))], [.int (zI 1)], es1)) i_204_28 rfl ?_
              refine x_ret (v := some (.int (zI 1))) i_204_32 rfl (fun _ => rfl) rfl rfl (pFin_b (by omega)) ?_
              show aW _ _ _ _ _ _ (43, [some (.ref 143), some (.int (zI bk)), some (.int (zI kd)), some (.int (zI fr)), some (.int (zI fi)), some (.int (zI ra))], [.int (zI 1), .ref 143], es1)
              refine x0 (r := (44, [some (.ref 143), some (.int (zI bk)), some (.int (zI kd)), some (.int (zI fr)), some (.int (zI fi)), some (.int (zI ra))], [.int (zI 2), .int (zI 1), .ref 143], es1)) i_202_43 (by rfl) ?_
              refine x_call (vs := [.ref 143, .int (zI 1), .int (zI 2)]) (rs := []) i_202_44 rfl (fun _ => rfl) rfl rfl rfl rfl rfl (pCall_v (p := 79) hs_es1 rfl rfl rfl rfl rfl (by decide) rfl rfl rfl rfl rfl) ?_
              show aW _ _ _ _ _ _ (0, [some (.ref 143), some (.int (zI 1)), some (.int (zI 2))], [], es1)
              refine x0 (r := (1, [some (.ref 143), some (.int (zI 1)), some (.int (zI 2))], [.int (zI 1)], es1)) i_194_0 rfl ?_
              refine x_ifF i_194_1 (by unfold i32 iLO iHI; omega) rfl (by simp only [zC, cR]; omega) ?_
              refine x0 (r := (5, [some (.ref 143), some (.int (zI 1)), some (.int (zI 2))], [.ref 143], es1)) i_194_4 rfl ?_
              refine x0 (r := (6, [some (.ref 143), some (.int (zI 1)), some (.int (zI 2))], [.int (zI 2), .ref 143], es1)) i_194_5 rfl ?_
              refine x_puti (p := 79) (ty := .int) i_194_6 hs_es1 rfl rfl rfl (Or.inl rfl) ?_
              obtain ⟨es15, e_es15⟩ : ∃ z : PH, z = sI es1 79 0 (.int (zI 2)) := ⟨_, rfl⟩
              have hs_es15 : sh es15 := by rw [e_es15]; exact sh_sI hs_es1 (p := 79) (b := 0) rfl rfl
              have hT_es15 : hOK tT es15 := by rw [e_es15]; exact hOK_sI hT_es1 (p := 79) (b := 0) (lo := iLO) (hi := iHI) rfl rfl (i32_rng _)
              rw [← e_es15]
              refine x0 (r := (10, [some (.ref 143), some (.int (zI 1)), some (.int (zI 2))], [.int (zI 1)], es15)) i_194_9 rfl ?_
              refine x_ret (v := some (.int (zI 1))) i_194_10 rfl (fun _ => rfl) rfl rfl (pFin_b (by omega)) ?_
              show aW _ _ _ _ _ _ (47, [some (.ref 143), some (.int (zI bk)), some (.int (zI kd)), some (.int (zI fr)), some (.int (zI fi)), some (.int (zI ra))], [.int (zI 1)], es15)
              refine x_ifT i_202_47 (by unfold i32 iLO iHI; omega) rfl (by simp only [zC, cR]; omega) ?_
              refine x0 (r := (74, [some (.ref 143), some (.int (zI bk)), some (.int (zI kd)), some (.int (zI fr)), some (.int (zI fi)), some (.int (zI ra))], [.int (zI 0)], es15)) i_202_73 (by rfl) ?_
              refine x_ret (v := some (.int (zI 0))) i_202_74 rfl (fun _ => rfl) rfl rfl rfl ?_
              exact K6 es1 e_es1 v2 e_v2 c3 c5 v7 e_v7 c8 c10 c12 c14 es15 e_es15
            · refine x_cmpF i_193_7 (by unfold i32 iLO iHI; omega) (by unfold i32 iLO iHI; omega) rfl (by simp only [zC, cR]; omega) ?_
              refine x0 (r := (11, [some (.int (zI fr)), some (.int (zI (-1))), some (.int (zI 5))], [.int (zI 1)], es1)) i_193_10 (by rfl) ?_
              refine x0 (r := (15, [some (.int (zI fr)), some (.int (zI (-1))), some (.int (zI 5))], [.int (zI 1)], es1)) i_193_11 rfl ?_
              refine x_ret (v := some (.int (zI 1))) i_193_15 rfl (fun _ => rfl) rfl rfl (pFin_b (by omega)) ?_
              show aW _ _ _ _ _ _ (6, [some (.int (zI fr)), some (.int (zI fi)), some (.int (zI ra))], [.int (zI 1)], es1)
              refine x_ifF i_204_6 (by unfold i32 iLO iHI; omega) rfl (by simp only [zC, cR]; omega) ?_
              refine x0 (r := (10, [some (.int (zI fr)), some (.int (zI fi)), some (.int (zI ra))], [.int (zI fi)], es1)) i_204_9 rfl ?_
              refine x0 (r := (11, [some (.int (zI fr)), some (.int (zI fi)), some (.int (zI ra))], [.int (zI 0), .int (zI fi)], es1)) i_204_10 (by rfl) ?_
              refine x0 (r := (12, [some (.int (zI fr)), some (.int (zI fi)), some (.int (zI ra))], [.int (zI 5), .int (zI 0), .int (zI fi)], es1)) i_204_11 (by rfl) ?_
              refine x_call (vs := [.int (zI fi), .int (zI 0), .int (zI 5)]) (rs := []) i_204_12 rfl (fun _ => rfl) rfl rfl rfl rfl rfl rfl ?_
              show aW _ _ _ _ _ _ (0, [some (.int (zI fi)), some (.int (zI 0)), some (.int (zI 5))], [], es1)
              refine x0 (r := (1, [some (.int (zI fi)), some (.int (zI 0)), some (.int (zI 5))], [.int (zI fi)], es1)) i_193_0 rfl ?_
              refine x0 (r := (2, [some (.int (zI fi)), some (.int (zI 0)), some (.int (zI 5))], [.int (zI 0), .int (zI fi)], es1)) i_193_1 rfl ?_
              by_cases c16 : fi < 0
              · refine x_cmpT i_193_2 (by unfold i32 iLO iHI; omega) (by unfold i32 iLO iHI; omega) rfl (by simp only [zC, cR]; omega) ?_
                refine x0 (r := (15, [some (.int (zI fi)), some (.int (zI 0)), some (.int (zI 5))], [.int (zI 0)], es1)) i_193_14 (by rfl) ?_
                refine x_ret (v := some (.int (zI 0))) i_193_15 rfl (fun _ => rfl) rfl rfl (pFin_b (by omega)) ?_
                show aW _ _ _ _ _ _ (15, [some (.int (zI fr)), some (.int (zI fi)), some (.int (zI ra))], [.int (zI 0)], es1)
                refine x_ifT i_204_15 (by unfold i32 iLO iHI; omega) rfl (by simp only [zC, cR]; omega) ?_
                refine x0 (r := (28, [some (.int (zI fr)), some (.int (zI fi)), some (.int (zI ra))], [.int (zI 1)], es1)) i_204_27 (by rfl) ?_
                refine x0 (r := (32, [some (.int (zI fr)), some (.int (zI fi)), some (.int (zI ra))], [.int (zI 1)], es1)) i_204_28 rfl ?_
                refine x_ret (v := some (.int (zI 1))) i_204_32 rfl (fun _ => rfl) rfl rfl (pFin_b (by omega)) ?_
                show aW _ _ _ _ _ _ (43, [some (.ref 143), some (.int (zI bk)), some (.int (zI kd)), some (.int (zI fr)), some (.int (zI fi)), some (.int (zI ra))], [.int (zI 1), .ref 143], es1)
                refine x0 (r := (44, [some (.ref 143), some (.int (zI bk)), some (.int (zI kd)), some (.int (zI fr)), some (.int (zI fi)), some (.int (zI ra))], [.int (zI 2), .int (zI 1), .ref 143], es1)) i_202_43 (by rfl) ?_
                refine x_call (vs := [.ref 143, .int (zI 1), .int (zI 2)]) (rs := []) i_202_44 rfl (fun _ => rfl) rfl rfl rfl rfl rfl (pCall_v (p := 79) hs_es1 rfl rfl rfl rfl rfl (by decide) rfl rfl rfl rfl rfl) ?_
                show aW _ _ _ _ _ _ (0, [some (.ref 143), some (.int (zI 1)), some (.int (zI 2))], [], es1)
                refine x0 (r := (1, [some (.ref 143), some (.int (zI 1)), some (.int (zI 2))], [.int (zI 1)], es1)) i_194_0 rfl ?_
                refine x_ifF i_194_1 (by unfold i32 iLO iHI; omega) rfl (by simp only [zC, cR]; omega) ?_
                refine x0 (r := (5, [some (.ref 143), some (.int (zI 1)), some (.int (zI 2))], [.ref 143], es1)) i_194_4 rfl ?_
                refine x0 (r := (6, [some (.ref 143), some (.int (zI 1)), some (.int (zI 2))], [.int (zI 2), .ref 143], es1)) i_194_5 rfl ?_
                refine x_puti (p := 79) (ty := .int) i_194_6 hs_es1 rfl rfl rfl (Or.inl rfl) ?_
                obtain ⟨es17, e_es17⟩ : ∃ z : PH, z = sI es1 79 0 (.int (zI 2)) := ⟨_, rfl⟩
                have hs_es17 : sh es17 := by rw [e_es17]; exact sh_sI hs_es1 (p := 79) (b := 0) rfl rfl
                have hT_es17 : hOK tT es17 := by rw [e_es17]; exact hOK_sI hT_es1 (p := 79) (b := 0) (lo := iLO) (hi := iHI) rfl rfl (i32_rng _)
                rw [← e_es17]
                refine x0 (r := (10, [some (.ref 143), some (.int (zI 1)), some (.int (zI 2))], [.int (zI 1)], es17)) i_194_9 rfl ?_
                refine x_ret (v := some (.int (zI 1))) i_194_10 rfl (fun _ => rfl) rfl rfl (pFin_b (by omega)) ?_
                show aW _ _ _ _ _ _ (47, [some (.ref 143), some (.int (zI bk)), some (.int (zI kd)), some (.int (zI fr)), some (.int (zI fi)), some (.int (zI ra))], [.int (zI 1)], es17)
                refine x_ifT i_202_47 (by unfold i32 iLO iHI; omega) rfl (by simp only [zC, cR]; omega) ?_
                refine x0 (r := (74, [some (.ref 143), some (.int (zI bk)), some (.int (zI kd)), some (.int (zI fr)), some (.int (zI fi)), some (.int (zI ra))], [.int (zI 0)], es17)) i_202_73 (by rfl) ?_
                refine x_ret (v := some (.int (zI 0))) i_202_74 rfl (fun _ => rfl) rfl rfl rfl ?_
                exact K7 es1 e_es1 v2 e_v2 c3 c5 v7 e_v7 c8 c10 c12 c14 c16 es17 e_es17
              · refine x_cmpF i_193_2 (by unfold i32 iLO iHI; omega) (by unfold i32 iLO iHI; omega) rfl (by simp only [zC, cR]; omega) ?_
                refine x0 (r := (6, [some (.int (zI fi)), some (.int (zI 0)), some (.int (zI 5))], [.int (zI fi)], es1)) i_193_5 rfl ?_
                refine x0 (r := (7, [some (.int (zI fi)), some (.int (zI 0)), some (.int (zI 5))], [.int (zI 5), .int (zI fi)], es1)) i_193_6 rfl ?_
                by_cases c18 : 5 < fi
                · refine x_cmpT i_193_7 (by unfold i32 iLO iHI; omega) (by unfold i32 iLO iHI; omega) rfl (by simp only [zC, cR]; omega) ?_
                  refine x0 (r := (15, [some (.int (zI fi)), some (.int (zI 0)), some (.int (zI 5))], [.int (zI 0)], es1)) i_193_14 (by rfl) ?_
                  refine x_ret (v := some (.int (zI 0))) i_193_15 rfl (fun _ => rfl) rfl rfl (pFin_b (by omega)) ?_
                  show aW _ _ _ _ _ _ (15, [some (.int (zI fr)), some (.int (zI fi)), some (.int (zI ra))], [.int (zI 0)], es1)
                  refine x_ifT i_204_15 (by unfold i32 iLO iHI; omega) rfl (by simp only [zC, cR]; omega) ?_
                  refine x0 (r := (28, [some (.int (zI fr)), some (.int (zI fi)), some (.int (zI ra))], [.int (zI 1)], es1)) i_204_27 (by rfl) ?_
                  refine x0 (r := (32, [some (.int (zI fr)), some (.int (zI fi)), some (.int (zI ra))], [.int (zI 1)], es1)) i_204_28 rfl ?_
                  refine x_ret (v := some (.int (zI 1))) i_204_32 rfl (fun _ => rfl) rfl rfl (pFin_b (by omega)) ?_
                  show aW _ _ _ _ _ _ (43, [some (.ref 143), some (.int (zI bk)), some (.int (zI kd)), some (.int (zI fr)), some (.int (zI fi)), some (.int (zI ra))], [.int (zI 1), .ref 143], es1)
                  refine x0 (r := (44, [some (.ref 143), some (.int (zI bk)), some (.int (zI kd)), some (.int (zI fr)), some (.int (zI fi)), some (.int (zI ra))], [.int (zI 2), .int (zI 1), .ref 143], es1)) i_202_43 (by rfl) ?_
                  refine x_call (vs := [.ref 143, .int (zI 1), .int (zI 2)]) (rs := []) i_202_44 rfl (fun _ => rfl) rfl rfl rfl rfl rfl (pCall_v (p := 79) hs_es1 rfl rfl rfl rfl rfl (by decide) rfl rfl rfl rfl rfl) ?_
                  show aW _ _ _ _ _ _ (0, [some (.ref 143), some (.int (zI 1)), some (.int (zI 2))], [], es1)
                  refine x0 (r := (1, [some (.ref 143), some (.int (zI 1)), some (.int (zI 2))], [.int (zI 1)], es1)) i_194_0 rfl ?_
                  refine x_ifF i_194_1 (by unfold i32 iLO iHI; omega) rfl (by simp only [zC, cR]; omega) ?_
                  refine x0 (r := (5, [some (.ref 143), some (.int (zI 1)), some (.int (zI 2))], [.ref 143], es1)) i_194_4 rfl ?_
                  refine x0 (r := (6, [some (.ref 143), some (.int (zI 1)), some (.int (zI 2))], [.int (zI 2), .ref 143], es1)) i_194_5 rfl ?_
                  refine x_puti (p := 79) (ty := .int) i_194_6 hs_es1 rfl rfl rfl (Or.inl rfl) ?_
                  obtain ⟨es19, e_es19⟩ : ∃ z : PH, z = sI es1 79 0 (.int (zI 2)) := ⟨_, rfl⟩
                  have hs_es19 : sh es19 := by rw [e_es19]; exact sh_sI hs_es1 (p := 79) (b := 0) rfl rfl
                  have hT_es19 : hOK tT es19 := by rw [e_es19]; exact hOK_sI hT_es1 (p := 79) (b := 0) (lo := iLO) (hi := iHI) rfl rfl (i32_rng _)
                  rw [← e_es19]
                  refine x0 (r := (10, [some (.ref 143), some (.int (zI 1)), some (.int (zI 2))], [.int (zI 1)], es19)) i_194_9 rfl ?_
                  refine x_ret (v := some (.int (zI 1))) i_194_10 rfl (fun _ => rfl) rfl rfl (pFin_b (by omega)) ?_
                  show aW _ _ _ _ _ _ (47, [some (.ref 143), some (.int (zI bk)), some (.int (zI kd)), some (.int (zI fr)), some (.int (zI fi)), some (.int (zI ra))], [.int (zI 1)], es19)
                  refine x_ifT i_202_47 (by unfold i32 iLO iHI; omega) rfl (by simp only [zC, cR]; omega) ?_
                  refine x0 (r := (74, [some (.ref 143), some (.int (zI bk)), some (.int (zI kd)), some (.int (zI fr)), some (.int (zI fi)), some (.int (zI ra))], [.int (zI 0)], es19)) i_202_73 (by rfl) ?_
                  refine x_ret (v := some (.int (zI 0))) i_202_74 rfl (fun _ => rfl) rfl rfl rfl ?_
                  exact K8 es1 e_es1 v2 e_v2 c3 c5 v7 e_v7 c8 c10 c12 c14 c16 c18 es19 e_es19
                · refine x_cmpF i_193_7 (by unfold i32 iLO iHI; omega) (by unfold i32 iLO iHI; omega) rfl (by simp only [zC, cR]; omega) ?_
                  refine x0 (r := (11, [some (.int (zI fi)), some (.int (zI 0)), some (.int (zI 5))], [.int (zI 1)], es1)) i_193_10 (by rfl) ?_
                  refine x0 (r := (15, [some (.int (zI fi)), some (.int (zI 0)), some (.int (zI 5))], [.int (zI 1)], es1)) i_193_11 rfl ?_
                  refine x_ret (v := some (.int (zI 1))) i_193_15 rfl (fun _ => rfl) rfl rfl (pFin_b (by omega)) ?_
                  show aW _ _ _ _ _ _ (15, [some (.int (zI fr)), some (.int (zI fi)), some (.int (zI ra))], [.int (zI 1)], es1)
                  refine x_ifF i_204_15 (by unfold i32 iLO iHI; omega) rfl (by simp only [zC, cR]; omega) ?_
                  refine x0 (r := (19, [some (.int (zI fr)), some (.int (zI fi)), some (.int (zI ra))], [.int (zI ra)], es1)) i_204_18 rfl ?_
                  refine x0 (r := (20, [some (.int (zI fr)), some (.int (zI fi)), some (.int (zI ra))], [.int (zI 0), .int (zI ra)], es1)) i_204_19 (by rfl) ?_
                  refine x0 (r := (21, [some (.int (zI fr)), some (.int (zI fi)), some (.int (zI ra))], [.int (zI 5), .int (zI 0), .int (zI ra)], es1)) i_204_20 (by rfl) ?_
                  refine x_call (vs := [.int (zI ra), .int (zI 0), .int (zI 5)]) (rs := []) i_204_21 rfl (fun _ => rfl) rfl rfl rfl rfl rfl rfl ?_
                  show aW _ _ _ _ _ _ (0, [some (.int (zI ra)), some (.int (zI 0)), some (.int (zI 5))], [], es1)
                  refine x0 (r := (1, [some (.int (zI ra)), some (.int (zI 0)), some (.int (zI 5))], [.int (zI ra)], es1)) i_193_0 rfl ?_
                  refine x0 (r := (2, [some (.int (zI ra)), some (.int (zI 0)), some (.int (zI 5))], [.int (zI 0), .int (zI ra)], es1)) i_193_1 rfl ?_
                  by_cases c20 : ra < 0
                  · refine x_cmpT i_193_2 (by unfold i32 iLO iHI; omega) (by unfold i32 iLO iHI; omega) rfl (by simp only [zC, cR]; omega) ?_
                    refine x0 (r := (15, [some (.int (zI ra)), some (.int (zI 0)), some (.int (zI 5))], [.int (zI 0)], es1)) i_193_14 (by rfl) ?_
                    refine x_ret (v := some (.int (zI 0))) i_193_15 rfl (fun _ => rfl) rfl rfl (pFin_b (by omega)) ?_
                    show aW _ _ _ _ _ _ (24, [some (.int (zI fr)), some (.int (zI fi)), some (.int (zI ra))], [.int (zI 0)], es1)
                    refine x_ifF i_204_24 (by unfold i32 iLO iHI; omega) rfl (by simp only [zC, cR]; omega) ?_
                    refine x0 (r := (28, [some (.int (zI fr)), some (.int (zI fi)), some (.int (zI ra))], [.int (zI 1)], es1)) i_204_27 (by rfl) ?_
                    refine x0 (r := (32, [some (.int (zI fr)), some (.int (zI fi)), some (.int (zI ra))], [.int (zI 1)], es1)) i_204_28 rfl ?_
                    refine x_ret (v := some (.int (zI 1))) i_204_32 rfl (fun _ => rfl) rfl rfl (pFin_b (by omega)) ?_
                    show aW _ _ _ _ _ _ (43, [some (.ref 143), some (.int (zI bk)), some (.int (zI kd)), some (.int (zI fr)), some (.int (zI fi)), some (.int (zI ra))], [.int (zI 1), .ref 143], es1)
                    refine x0 (r := (44, [some (.ref 143), some (.int (zI bk)), some (.int (zI kd)), some (.int (zI fr)), some (.int (zI fi)), some (.int (zI ra))], [.int (zI 2), .int (zI 1), .ref 143], es1)) i_202_43 (by rfl) ?_
                    refine x_call (vs := [.ref 143, .int (zI 1), .int (zI 2)]) (rs := []) i_202_44 rfl (fun _ => rfl) rfl rfl rfl rfl rfl (pCall_v (p := 79) hs_es1 rfl rfl rfl rfl rfl (by decide) rfl rfl rfl rfl rfl) ?_
                    show aW _ _ _ _ _ _ (0, [some (.ref 143), some (.int (zI 1)), some (.int (zI 2))], [], es1)
                    refine x0 (r := (1, [some (.ref 143), some (.int (zI 1)), some (.int (zI 2))], [.int (zI 1)], es1)) i_194_0 rfl ?_
                    refine x_ifF i_194_1 (by unfold i32 iLO iHI; omega) rfl (by simp only [zC, cR]; omega) ?_
                    refine x0 (r := (5, [some (.ref 143), some (.int (zI 1)), some (.int (zI 2))], [.ref 143], es1)) i_194_4 rfl ?_
                    refine x0 (r := (6, [some (.ref 143), some (.int (zI 1)), some (.int (zI 2))], [.int (zI 2), .ref 143], es1)) i_194_5 rfl ?_
                    refine x_puti (p := 79) (ty := .int) i_194_6 hs_es1 rfl rfl rfl (Or.inl rfl) ?_
                    obtain ⟨es21, e_es21⟩ : ∃ z : PH, z = sI es1 79 0 (.int (zI 2)) := ⟨_, rfl⟩
                    have hs_es21 : sh es21 := by rw [e_es21]; exact sh_sI hs_es1 (p := 79) (b := 0) rfl rfl
                    have hT_es21 : hOK tT es21 := by rw [e_es21]; exact hOK_sI hT_es1 (p := 79) (b := 0) (lo := iLO) (hi := iHI) rfl rfl (i32_rng _)
                    rw [← e_es21]
                    refine x0 (r := (10, [some (.ref 143), some (.int (zI 1)), some (.int (zI 2))], [.int (zI 1)], es21)) i_194_9 rfl ?_
                    refine x_ret (v := some (.int (zI 1))) i_194_10 rfl (fun _ => rfl) rfl rfl (pFin_b (by omega)) ?_
                    show aW _ _ _ _ _ _ (47, [some (.ref 143), some (.int (zI bk)), some (.int (zI kd)), some (.int (zI fr)), some (.int (zI fi)), some (.int (zI ra))], [.int (zI 1)], es21)
                    refine x_ifT i_202_47 (by unfold i32 iLO iHI; omega) rfl (by simp only [zC, cR]; omega) ?_
                    refine x0 (r := (74, [some (.ref 143), some (.int (zI bk)), some (.int (zI kd)), some (.int (zI fr)), some (.int (zI fi)), some (.int (zI ra))], [.int (zI 0)], es21)) i_202_73 (by rfl) ?_
                    refine x_ret (v := some (.int (zI 0))) i_202_74 rfl (fun _ => rfl) rfl rfl rfl ?_
                    exact K9 es1 e_es1 v2 e_v2 c3 c5 v7 e_v7 c8 c10 c12 c14 c16 c18 c20 es21 e_es21
                  · refine x_cmpF i_193_2 (by unfold i32 iLO iHI; omega) (by unfold i32 iLO iHI; omega) rfl (by simp only [zC, cR]; omega) ?_
                    refine x0 (r := (6, [some (.int (zI ra)), some (.int (zI 0)), some (.int (zI 5))], [.int (zI ra)], es1)) i_193_5 rfl ?_
                    refine x0 (r := (7, [some (.int (zI ra)), some (.int (zI 0)), some (.int (zI 5))], [.int (zI 5), .int (zI ra)], es1)) i_193_6 rfl ?_
                    by_cases c22 : 5 < ra
                    · refine x_cmpT i_193_7 (by unfold i32 iLO iHI; omega) (by unfold i32 iLO iHI; omega) rfl (by simp only [zC, cR]; omega) ?_
                      refine x0 (r := (15, [some (.int (zI ra)), some (.int (zI 0)), some (.int (zI 5))], [.int (zI 0)], es1)) i_193_14 (by rfl) ?_
                      refine x_ret (v := some (.int (zI 0))) i_193_15 rfl (fun _ => rfl) rfl rfl (pFin_b (by omega)) ?_
                      show aW _ _ _ _ _ _ (24, [some (.int (zI fr)), some (.int (zI fi)), some (.int (zI ra))], [.int (zI 0)], es1)
                      refine x_ifF i_204_24 (by unfold i32 iLO iHI; omega) rfl (by simp only [zC, cR]; omega) ?_
                      refine x0 (r := (28, [some (.int (zI fr)), some (.int (zI fi)), some (.int (zI ra))], [.int (zI 1)], es1)) i_204_27 (by rfl) ?_
                      refine x0 (r := (32, [some (.int (zI fr)), some (.int (zI fi)), some (.int (zI ra))], [.int (zI 1)], es1)) i_204_28 rfl ?_
                      refine x_ret (v := some (.int (zI 1))) i_204_32 rfl (fun _ => rfl) rfl rfl (pFin_b (by omega)) ?_
                      show aW _ _ _ _ _ _ (43, [some (.ref 143), some (.int (zI bk)), some (.int (zI kd)), some (.int (zI fr)), some (.int (zI fi)), some (.int (zI ra))], [.int (zI 1), .ref 143], es1)
                      refine x0 (r := (44, [some (.ref 143), some (.int (zI bk)), some (.int (zI kd)), some (.int (zI fr)), some (.int (zI fi)), some (.int (zI ra))], [.int (zI 2), .int (zI 1), .ref 143], es1)) i_202_43 (by rfl) ?_
                      refine x_call (vs := [.ref 143, .int (zI 1), .int (zI 2)]) (rs := []) i_202_44 rfl (fun _ => rfl) rfl rfl rfl rfl rfl (pCall_v (p := 79) hs_es1 rfl rfl rfl rfl rfl (by decide) rfl rfl rfl rfl rfl) ?_
                      show aW _ _ _ _ _ _ (0, [some (.ref 143), some (.int (zI 1)), some (.int (zI 2))], [], es1)
                      refine x0 (r := (1, [some (.ref 143), some (.int (zI 1)), some (.int (zI 2))], [.int (zI 1)], es1)) i_194_0 rfl ?_
                      refine x_ifF i_194_1 (by unfold i32 iLO iHI; omega) rfl (by simp only [zC, cR]; omega) ?_
                      refine x0 (r := (5, [some (.ref 143), some (.int (zI 1)), some (.int (zI 2))], [.ref 143], es1)) i_194_4 rfl ?_
                      refine x0 (r := (6, [some (.ref 143), some (.int (zI 1)), some (.int (zI 2))], [.int (zI 2), .ref 143], es1)) i_194_5 rfl ?_
                      refine x_puti (p := 79) (ty := .int) i_194_6 hs_es1 rfl rfl rfl (Or.inl rfl) ?_
                      obtain ⟨es23, e_es23⟩ : ∃ z : PH, z = sI es1 79 0 (.int (zI 2)) := ⟨_, rfl⟩
                      have hs_es23 : sh es23 := by rw [e_es23]; exact sh_sI hs_es1 (p := 79) (b := 0) rfl rfl
                      have hT_es23 : hOK tT es23 := by rw [e_es23]; exact hOK_sI hT_es1 (p := 79) (b := 0) (lo := iLO) (hi := iHI) rfl rfl (i32_rng _)
                      rw [← e_es23]
                      refine x0 (r := (10, [some (.ref 143), some (.int (zI 1)), some (.int (zI 2))], [.int (zI 1)], es23)) i_194_9 rfl ?_
                      refine x_ret (v := some (.int (zI 1))) i_194_10 rfl (fun _ => rfl) rfl rfl (pFin_b (by omega)) ?_
                      show aW _ _ _ _ _ _ (47, [some (.ref 143), some (.int (zI bk)), some (.int (zI kd)), some (.int (zI fr)), some (.int (zI fi)), some (.int (zI ra))], [.int (zI 1)], es23)
                      refine x_ifT i_202_47 (by unfold i32 iLO iHI; omega) rfl (by simp only [zC, cR]; omega) ?_
                      refine x0 (r := (74, [some (.ref 143), some (.int (zI bk)), some (.int (zI kd)), some (.int (zI fr)), some (.int (zI fi)), some (.int (zI ra))], [.int (zI 0)], es23)) i_202_73 (by rfl) ?_
                      refine x_ret (v := some (.int (zI 0))) i_202_74 rfl (fun _ => rfl) rfl rfl rfl ?_
                      exact K10 es1 e_es1 v2 e_v2 c3 c5 v7 e_v7 c8 c10 c12 c14 c16 c18 c20 c22 es23 e_es23
                    · refine x_cmpF i_193_7 (by unfold i32 iLO iHI; omega) (by unfold i32 iLO iHI; omega) rfl (by simp only [zC, cR]; omega) ?_
                      refine x0 (r := (11, [some (.int (zI ra)), some (.int (zI 0)), some (.int (zI 5))], [.int (zI 1)], es1)) i_193_10 (by rfl) ?_
                      refine x0 (r := (15, [some (.int (zI ra)), some (.int (zI 0)), some (.int (zI 5))], [.int (zI 1)], es1)) i_193_11 rfl ?_
                      refine x_ret (v := some (.int (zI 1))) i_193_15 rfl (fun _ => rfl) rfl rfl (pFin_b (by omega)) ?_
                      show aW _ _ _ _ _ _ (24, [some (.int (zI fr)), some (.int (zI fi)), some (.int (zI ra))], [.int (zI 1)], es1)
                      refine x_ifT i_204_24 (by unfold i32 iLO iHI; omega) rfl (by simp only [zC, cR]; omega) ?_
                      refine x0 (r := (32, [some (.int (zI fr)), some (.int (zI fi)), some (.int (zI ra))], [.int (zI 0)], es1)) i_204_31 (by rfl) ?_
                      refine x_ret (v := some (.int (zI 0))) i_204_32 rfl (fun _ => rfl) rfl rfl (pFin_b (by omega)) ?_
                      show aW _ _ _ _ _ _ (43, [some (.ref 143), some (.int (zI bk)), some (.int (zI kd)), some (.int (zI fr)), some (.int (zI fi)), some (.int (zI ra))], [.int (zI 0), .ref 143], es1)
                      refine x0 (r := (44, [some (.ref 143), some (.int (zI bk)), some (.int (zI kd)), some (.int (zI fr)), some (.int (zI fi)), some (.int (zI ra))], [.int (zI 2), .int (zI 0), .ref 143], es1)) i_202_43 (by rfl) ?_
                      refine x_call (vs := [.ref 143, .int (zI 0), .int (zI 2)]) (rs := []) i_202_44 rfl (fun _ => rfl) rfl rfl rfl rfl rfl (pCall_v (p := 79) hs_es1 rfl rfl rfl rfl rfl (by decide) rfl rfl rfl rfl rfl) ?_
                      show aW _ _ _ _ _ _ (0, [some (.ref 143), some (.int (zI 0)), some (.int (zI 2))], [], es1)
                      refine x0 (r := (1, [some (.ref 143), some (.int (zI 0)), some (.int (zI 2))], [.int (zI 0)], es1)) i_194_0 rfl ?_
                      refine x_ifT i_194_1 (by unfold i32 iLO iHI; omega) rfl (by simp only [zC, cR]; omega) ?_
                      refine x0 (r := (10, [some (.ref 143), some (.int (zI 0)), some (.int (zI 2))], [.int (zI 0)], es1)) i_194_9 rfl ?_
                      refine x_ret (v := some (.int (zI 0))) i_194_10 rfl (fun _ => rfl) rfl rfl (pFin_b (by omega)) ?_
                      show aW _ _ _ _ _ _ (47, [some (.ref 143), some (.int (zI bk)), some (.int (zI kd)), some (.int (zI fr)), some (.int (zI fi)), some (.int (zI ra))], [.int (zI 0)], es1)
                      refine x_ifF i_202_47 (by unfold i32 iLO iHI; omega) rfl (by simp only [zC, cR]; omega) ?_
                      refine x0 (r := (51, [some (.ref 143), some (.int (zI bk)), some (.int (zI kd)), some (.int (zI fr)), some (.int (zI fi)), some (.int (zI ra))], [.ref 143], es1)) i_202_50 rfl ?_
                      refine x0 (r := (52, [some (.ref 143), some (.int (zI bk)), some (.int (zI kd)), some (.int (zI fr)), some (.int (zI fi)), some (.int (zI ra))], [.ref 143, .ref 143], es1)) i_202_51 rfl ?_
                      refine x0 (r := (53, [some (.ref 143), some (.int (zI bk)), some (.int (zI kd)), some (.int (zI fr)), some (.int (zI fi)), some (.int (zI ra))], [.int (zI bk), .ref 143, .ref 143], es1)) i_202_52 rfl ?_
                      refine x_call (vs := [.ref 143, .int (zI bk)]) (rs := [.ref 143]) i_202_53 rfl (fun _ => rfl) rfl rfl rfl rfl rfl (pCall_v (p := 79) hs_es1 rfl rfl rfl rfl rfl (by decide) rfl rfl rfl rfl rfl) ?_
                      show aW _ _ _ _ _ _ (0, [some (.ref 143), some (.int (zI bk))], [], es1)
                      refine x0 (r := (1, [some (.ref 143), some (.int (zI bk))], [.ref 143], es1)) i_205_0 rfl ?_
                      refine x0 (r := (2, [some (.ref 143), some (.int (zI bk))], [.int (zI bk), .ref 143], es1)) i_205_1 rfl ?_
                      refine x0 (r := (3, [some (.ref 143), some (.int (zI bk))], [.int (zI 1), .int (zI bk), .ref 143], es1)) i_205_2 (by rfl) ?_
                      refine x_call (vs := [.ref 143, .int (zI bk), .int (zI 1)]) (rs := []) i_205_3 rfl (fun _ => rfl) rfl rfl rfl rfl rfl (pCall_v (p := 79) hs_es1 rfl rfl rfl rfl rfl (by decide) rfl rfl rfl rfl rfl) ?_
                      show aW _ _ _ _ _ _ (0, [some (.ref 143), some (.int (zI bk)), some (.int (zI 1))], [], es1)
                      refine x0 (r := (1, [some (.ref 143), some (.int (zI bk)), some (.int (zI 1))], [.ref 143], es1)) i_206_0 rfl ?_
                      refine x_getr (p := 79) (k := 144) i_206_1 hs_es1 rfl rfl ?_
                      show aW _ _ _ _ _ _ (4, [some (.ref 143), some (.int (zI bk)), some (.int (zI 1))], [.ref 144], es1)
                      refine x0 (r := (6, [some (.ref 143), some (.int (zI bk)), some (.int (zI 1))], [.int (zI 119), .ref 144], es1)) i_206_4 (by rfl) ?_
                      refine x0 (r := (8, [some (.ref 143), some (.int (zI bk)), some (.int (zI 1))], [.int (zI 98), .int (zI 119), .ref 144], es1)) i_206_6 (by rfl) ?_
                      refine x0 (r := (9, [some (.ref 143), some (.int (zI bk)), some (.int (zI 1))], [.int (zI bk), .int (zI 98), .int (zI 119), .ref 144], es1)) i_206_8 rfl ?_
                      refine x_imul i_206_9 ?_
                      refine x_iadd i_206_10 ?_
                      refine x0 (r := (12, [some (.ref 143), some (.int (zI bk)), some (.int (zI 1))], [.int (zI 1), .int (zI (119 + (98 * bk))), .ref 144], es1)) i_206_11 rfl ?_
                      refine x_iadd i_206_12 ?_
                      refine x_iald (p := 80) i_206_13 hs_es1 rfl (by unfold i32 iLO iHI; omega) (by omega) (by omega) ?_
                      obtain ⟨v24, e_v24⟩ : ∃ z : Int, z = (gA es1 80 ((119 + (98 * bk)) + 1).toNat).toInt := ⟨_, rfl⟩
                      rw [← e_v24]
                      have r_v24 : iLO ≤ v24 ∧ v24 ≤ iHI := by rw [e_v24]; exact i32_rng _
                      unfold iLO iHI at r_v24
                      have b_v24 : (0 : Int) ≤ v24 ∧ v24 ≤ (24 : Int) := by rw [e_v24]; exact cnt_bd hT_es1 (by omega) (by omega)
                      refine x_ret (v := some (.int (zI v24))) i_206_14 rfl (fun _ => rfl) rfl rfl rfl ?_
                      show aW _ _ _ _ _ _ (6, [some (.ref 143), some (.int (zI bk))], [.int (zI v24)], es1)
                      refine x_ret (v := some (.int (zI v24))) i_205_6 rfl (fun _ => rfl) rfl rfl rfl ?_
                      show aW _ _ _ _ _ _ (56, [some (.ref 143), some (.int (zI bk)), some (.int (zI kd)), some (.int (zI fr)), some (.int (zI fi)), some (.int (zI ra))], [.int (zI v24), .ref 143], es1)
                      refine x0 (r := (58, [some (.ref 143), some (.int (zI bk)), some (.int (zI kd)), some (.int (zI fr)), some (.int (zI fi)), some (.int (zI ra))], [.int (zI 24), .int (zI v24), .ref 143], es1)) i_202_56 (by rfl) ?_
                      by_cases c25 : v24 ≠ 24
                      · refine x_cmpT i_202_58 (by unfold i32 iLO iHI; omega) (by unfold i32 iLO iHI; omega) rfl (by simp only [zC, cR]; omega) ?_
                        refine x0 (r := (66, [some (.ref 143), some (.int (zI bk)), some (.int (zI kd)), some (.int (zI fr)), some (.int (zI fi)), some (.int (zI ra))], [.int (zI 0), .ref 143], es1)) i_202_65 (by rfl) ?_
                        refine x0 (r := (67, [some (.ref 143), some (.int (zI bk)), some (.int (zI kd)), some (.int (zI fr)), some (.int (zI fi)), some (.int (zI ra))], [.int (zI 3), .int (zI 0), .ref 143], es1)) i_202_66 (by rfl) ?_
                        refine x_call (vs := [.ref 143, .int (zI 0), .int (zI 3)]) (rs := []) i_202_67 rfl (fun _ => rfl) rfl rfl rfl rfl rfl (pCall_v (p := 79) hs_es1 rfl rfl rfl rfl rfl (by decide) rfl rfl rfl rfl rfl) ?_
                        show aW _ _ _ _ _ _ (0, [some (.ref 143), some (.int (zI 0)), some (.int (zI 3))], [], es1)
                        refine x0 (r := (1, [some (.ref 143), some (.int (zI 0)), some (.int (zI 3))], [.int (zI 0)], es1)) i_194_0 rfl ?_
                        refine x_ifT i_194_1 (by unfold i32 iLO iHI; omega) rfl (by simp only [zC, cR]; omega) ?_
                        refine x0 (r := (10, [some (.ref 143), some (.int (zI 0)), some (.int (zI 3))], [.int (zI 0)], es1)) i_194_9 rfl ?_
                        refine x_ret (v := some (.int (zI 0))) i_194_10 rfl (fun _ => rfl) rfl rfl (pFin_b (by omega)) ?_
                        show aW _ _ _ _ _ _ (70, [some (.ref 143), some (.int (zI bk)), some (.int (zI kd)), some (.int (zI fr)), some (.int (zI fi)), some (.int (zI ra))], [.int (zI 0)], es1)
                        refine x_ifT i_202_70 (by unfold i32 iLO iHI; omega) rfl (by simp only [zC, cR]; omega) ?_
                        refine x0 (r := (76, [some (.ref 143), some (.int (zI bk)), some (.int (zI kd)), some (.int (zI fr)), some (.int (zI fi)), some (.int (zI ra))], [.ref 143], es1)) i_202_75 rfl ?_
                        refine x0 (r := (77, [some (.ref 143), some (.int (zI bk)), some (.int (zI kd)), some (.int (zI fr)), some (.int (zI fi)), some (.int (zI ra))], [.int (zI bk), .ref 143], es1)) i_202_76 rfl ?_
                        refine x0 (r := (78, [some (.ref 143), some (.int (zI bk)), some (.int (zI kd)), some (.int (zI fr)), some (.int (zI fi)), some (.int (zI ra))], [.int (zI kd), .int (zI bk), .ref 143], es1)) i_202_77 rfl ?_
                        refine x0 (r := (79, [some (.ref 143), some (.int (zI bk)), some (.int (zI kd)), some (.int (zI fr)), some (.int (zI fi)), some (.int (zI ra))], [.int (zI fr), .int (zI kd), .int (zI bk), .ref 143], es1)) i_202_78 rfl ?_
                        refine x0 (r := (81, [some (.ref 143), some (.int (zI bk)), some (.int (zI kd)), some (.int (zI fr)), some (.int (zI fi)), some (.int (zI ra))], [.int (zI fi), .int (zI fr), .int (zI kd), .int (zI bk), .ref 143], es1)) i_202_79 rfl ?_
                        refine x0 (r := (83, [some (.ref 143), some (.int (zI bk)), some (.int (zI kd)), some (.int (zI fr)), some (.int (zI fi)), some (.int (zI ra))], [.int (zI ra), .int (zI fi), .int (zI fr), .int (zI kd), .int (zI bk), .ref 143], es1)) i_202_81 rfl ?_
                        refine x_call (vs := [.ref 143, .int (zI bk), .int (zI kd), .int (zI fr), .int (zI fi), .int (zI ra)]) (rs := []) i_202_83 rfl (fun _ => rfl) rfl rfl rfl rfl rfl (pCall_v (p := 79) hs_es1 rfl rfl rfl rfl rfl (by decide) rfl rfl rfl rfl rfl) ?_
                        show aW _ _ _ _ _ _ (0, [some (.ref 143), some (.int (zI bk)), some (.int (zI kd)), some (.int (zI fr)), some (.int (zI fi)), some (.int (zI ra))], [], es1)
                        refine x0 (r := (1, [some (.ref 143), some (.int (zI bk)), some (.int (zI kd)), some (.int (zI fr)), some (.int (zI fi)), some (.int (zI ra))], [.ref 143], es1)) i_207_0 rfl ?_
                        refine x0 (r := (2, [some (.ref 143), some (.int (zI bk)), some (.int (zI kd)), some (.int (zI fr)), some (.int (zI fi)), some (.int (zI ra))], [.int (zI bk), .ref 143], es1)) i_207_1 rfl ?_
                        refine x0 (r := (3, [some (.ref 143), some (.int (zI bk)), some (.int (zI kd)), some (.int (zI fr)), some (.int (zI fi)), some (.int (zI ra))], [.ref 143, .int (zI bk), .ref 143], es1)) i_207_2 rfl ?_
                        refine x0 (r := (4, [some (.ref 143), some (.int (zI bk)), some (.int (zI kd)), some (.int (zI fr)), some (.int (zI fi)), some (.int (zI ra))], [.int (zI bk), .ref 143, .int (zI bk), .ref 143], es1)) i_207_3 rfl ?_
                        refine x_call (vs := [.ref 143, .int (zI bk)]) (rs := [.int (zI bk), .ref 143]) i_207_4 rfl (fun _ => rfl) rfl rfl rfl rfl rfl (pCall_v (p := 79) hs_es1 rfl rfl rfl rfl rfl (by decide) rfl rfl rfl rfl rfl) ?_
                        show aW _ _ _ _ _ _ (0, [some (.ref 143), some (.int (zI bk))], [], es1)
                        refine x0 (r := (1, [some (.ref 143), some (.int (zI bk))], [.ref 143], es1)) i_205_0 rfl ?_
                        refine x0 (r := (2, [some (.ref 143), some (.int (zI bk))], [.int (zI bk), .ref 143], es1)) i_205_1 rfl ?_
                        refine x0 (r := (3, [some (.ref 143), some (.int (zI bk))], [.int (zI 1), .int (zI bk), .ref 143], es1)) i_205_2 (by rfl) ?_
                        refine x_call (vs := [.ref 143, .int (zI bk), .int (zI 1)]) (rs := []) i_205_3 rfl (fun _ => rfl) rfl rfl rfl rfl rfl (pCall_v (p := 79) hs_es1 rfl rfl rfl rfl rfl (by decide) rfl rfl rfl rfl rfl) ?_
                        show aW _ _ _ _ _ _ (0, [some (.ref 143), some (.int (zI bk)), some (.int (zI 1))], [], es1)
                        refine x0 (r := (1, [some (.ref 143), some (.int (zI bk)), some (.int (zI 1))], [.ref 143], es1)) i_206_0 rfl ?_
                        refine x_getr (p := 79) (k := 144) i_206_1 hs_es1 rfl rfl ?_
                        show aW _ _ _ _ _ _ (4, [some (.ref 143), some (.int (zI bk)), some (.int (zI 1))], [.ref 144], es1)
                        refine x0 (r := (6, [some (.ref 143), some (.int (zI bk)), some (.int (zI 1))], [.int (zI 119), .ref 144], es1)) i_206_4 (by rfl) ?_
                        refine x0 (r := (8, [some (.ref 143), some (.int (zI bk)), some (.int (zI 1))], [.int (zI 98), .int (zI 119), .ref 144], es1)) i_206_6 (by rfl) ?_
                        refine x0 (r := (9, [some (.ref 143), some (.int (zI bk)), some (.int (zI 1))], [.int (zI bk), .int (zI 98), .int (zI 119), .ref 144], es1)) i_206_8 rfl ?_
                        refine x_imul i_206_9 ?_
                        refine x_iadd i_206_10 ?_
                        refine x0 (r := (12, [some (.ref 143), some (.int (zI bk)), some (.int (zI 1))], [.int (zI 1), .int (zI (119 + (98 * bk))), .ref 144], es1)) i_206_11 rfl ?_
                        refine x_iadd i_206_12 ?_
                        refine x_iald (p := 80) i_206_13 hs_es1 rfl (by unfold i32 iLO iHI; omega) (by omega) (by omega) ?_
                        rw [show (gA es1 80 ((119 + (98 * bk)) + 1).toNat).toInt = v24 from e_v24.symm]
                        refine x_ret (v := some (.int (zI v24))) i_206_14 rfl (fun _ => rfl) rfl rfl rfl ?_
                        show aW _ _ _ _ _ _ (6, [some (.ref 143), some (.int (zI bk))], [.int (zI v24)], es1)
                        refine x_ret (v := some (.int (zI v24))) i_205_6 rfl (fun _ => rfl) rfl rfl rfl ?_
                        show aW _ _ _ _ _ _ (7, [some (.ref 143), some (.int (zI bk)), some (.int (zI kd)), some (.int (zI fr)), some (.int (zI fi)), some (.int (zI ra))], [.int (zI v24), .int (zI bk), .ref 143], es1)
                        refine x0 (r := (8, [some (.ref 143), some (.int (zI bk)), some (.int (zI kd)), some (.int (zI fr)), some (.int (zI fi)), some (.int (zI ra))], [.int (zI kd), .int (zI v24), .int (zI bk), .ref 143], es1)) i_207_7 rfl ?_
                        refine x0 (r := (9, [some (.ref 143), some (.int (zI bk)), some (.int (zI kd)), some (.int (zI fr)), some (.int (zI fi)), some (.int (zI ra))], [.int (zI fr), .int (zI kd), .int (zI v24), .int (zI bk), .ref 143], es1)) i_207_8 rfl ?_
                        refine x0 (r := (11, [some (.ref 143), some (.int (zI bk)), some (.int (zI kd)), some (.int (zI fr)), some (.int (zI fi)), some (.int (zI ra))], [.int (zI fi), .int (zI fr), .int (zI kd), .int (zI v24), .int (zI bk), .ref 143], es1)) i_207_9 rfl ?_
                        refine x0 (r := (13, [some (.ref 143), some (.int (zI bk)), some (.int (zI kd)), some (.int (zI fr)), some (.int (zI fi)), some (.int (zI ra))], [.int (zI ra), .int (zI fi), .int (zI fr), .int (zI kd), .int (zI v24), .int (zI bk), .ref 143], es1)) i_207_11 rfl ?_
                        refine x_call (vs := [.ref 143, .int (zI bk), .int (zI v24), .int (zI kd), .int (zI fr), .int (zI fi), .int (zI ra)]) (rs := []) i_207_13 rfl (fun _ => rfl) rfl rfl rfl rfl rfl (pCall_v (p := 79) hs_es1 rfl rfl rfl rfl rfl (by decide) rfl rfl rfl rfl rfl) ?_
                        show aW _ _ _ _ _ _ (0, [some (.ref 143), some (.int (zI bk)), some (.int (zI v24)), some (.int (zI kd)), some (.int (zI fr)), some (.int (zI fi)), some (.int (zI ra)), none], [], es1)
                        refine x0 (r := (2, [some (.ref 143), some (.int (zI bk)), some (.int (zI v24)), some (.int (zI kd)), some (.int (zI fr)), some (.int (zI fi)), some (.int (zI ra)), none], [.int (zI 119)], es1)) i_208_0 (by rfl) ?_
                        refine x0 (r := (4, [some (.ref 143), some (.int (zI bk)), some (.int (zI v24)), some (.int (zI kd)), some (.int (zI fr)), some (.int (zI fi)), some (.int (zI ra)), none], [.int (zI 98), .int (zI 119)], es1)) i_208_2 (by rfl) ?_
                        refine x0 (r := (5, [some (.ref 143), some (.int (zI bk)), some (.int (zI v24)), some (.int (zI kd)), some (.int (zI fr)), some (.int (zI fi)), some (.int (zI ra)), none], [.int (zI bk), .int (zI 98), .int (zI 119)], es1)) i_208_4 rfl ?_
                        refine x_imul i_208_5 ?_
                        refine x_iadd i_208_6 ?_
                        refine x0 (r := (8, [some (.ref 143), some (.int (zI bk)), some (.int (zI v24)), some (.int (zI kd)), some (.int (zI fr)), some (.int (zI fi)), some (.int (zI ra)), none], [.int (zI 2), .int (zI (119 + (98 * bk)))], es1)) i_208_7 (by rfl) ?_
                        refine x_iadd i_208_8 ?_
                        refine x0 (r := (10, [some (.ref 143), some (.int (zI bk)), some (.int (zI v24)), some (.int (zI kd)), some (.int (zI fr)), some (.int (zI fi)), some (.int (zI ra)), none], [.int (zI 4), .int (zI ((119 + (98 * bk)) + 2))], es1)) i_208_9 (by rfl) ?_
                        refine x0 (r := (11, [some (.ref 143), some (.int (zI bk)), some (.int (zI v24)), some (.int (zI kd)), some (.int (zI fr)), some (.int (zI fi)), some (.int (zI ra)), none], [.int (zI v24), .int (zI 4), .int (zI ((119 + (98 * bk)) + 2))], es1)) i_208_10 rfl ?_
                        refine x_imul i_208_11 ?_
                        refine x_iadd i_208_12 ?_
                        refine x0 (r := (15, [some (.ref 143), some (.int (zI bk)), some (.int (zI v24)), some (.int (zI kd)), some (.int (zI fr)), some (.int (zI fi)), some (.int (zI ra)), some (.int (zI (((119 + (98 * bk)) + 2) + (4 * v24))))], [], es1)) i_208_13 rfl ?_
                        refine x0 (r := (16, [some (.ref 143), some (.int (zI bk)), some (.int (zI v24)), some (.int (zI kd)), some (.int (zI fr)), some (.int (zI fi)), some (.int (zI ra)), some (.int (zI (((119 + (98 * bk)) + 2) + (4 * v24))))], [.ref 143], es1)) i_208_15 rfl ?_
                        refine x_getr (p := 79) (k := 144) i_208_16 hs_es1 rfl rfl ?_
                        show aW _ _ _ _ _ _ (19, [some (.ref 143), some (.int (zI bk)), some (.int (zI v24)), some (.int (zI kd)), some (.int (zI fr)), some (.int (zI fi)), some (.int (zI ra)), some (.int (zI (((119 + (98 * bk)) + 2) + (4 * v24))))], [.ref 144], es1)
                        refine x0 (r := (21, [some (.ref 143), some (.int (zI bk)), some (.int (zI v24)), some (.int (zI kd)), some (.int (zI fr)), some (.int (zI fi)), some (.int (zI ra)), some (.int (zI (((119 + (98 * bk)) + 2) + (4 * v24))))], [.int (zI (((119 + (98 * bk)) + 2) + (4 * v24))), .ref 144], es1)) i_208_19 rfl ?_
                        refine x0 (r := (22, [some (.ref 143), some (.int (zI bk)), some (.int (zI v24)), some (.int (zI kd)), some (.int (zI fr)), some (.int (zI fi)), some (.int (zI ra)), some (.int (zI (((119 + (98 * bk)) + 2) + (4 * v24))))], [.int (zI kd), .int (zI (((119 + (98 * bk)) + 2) + (4 * v24))), .ref 144], es1)) i_208_21 rfl ?_
                        refine x_iast (p := 80) i_208_22 hs_es1 rfl (by unfold i32 iLO iHI; omega) (by omega) (by omega) ?_
                        obtain ⟨es26, e_es26⟩ : ∃ z : PH, z = sA es1 80 (((119 + (98 * bk)) + 2) + (4 * v24)).toNat (zI kd) := ⟨_, rfl⟩
                        have hs_es26 : sh es26 := by rw [e_es26]; exact sh_sA hs_es1
                        rw [← e_es26]
                        refine x0 (r := (24, [some (.ref 143), some (.int (zI bk)), some (.int (zI v24)), some (.int (zI kd)), some (.int (zI fr)), some (.int (zI fi)), some (.int (zI ra)), some (.int (zI (((119 + (98 * bk)) + 2) + (4 * v24))))], [.ref 143], es26)) i_208_23 rfl ?_
                        refine x_getr (p := 79) (k := 144) i_208_24 hs_es26 rfl rfl ?_
                        show aW _ _ _ _ _ _ (27, [some (.ref 143), some (.int (zI bk)), some (.int (zI v24)), some (.int (zI kd)), some (.int (zI fr)), some (.int (zI fi)), some (.int (zI ra)), some (.int (zI (((119 + (98 * bk)) + 2) + (4 * v24))))], [.ref 144], es26)
                        refine x0 (r := (29, [some (.ref 143), some (.int (zI bk)), some (.int (zI v24)), some (.int (zI kd)), some (.int (zI fr)), some (.int (zI fi)), some (.int (zI ra)), some (.int (zI (((119 + (98 * bk)) + 2) + (4 * v24))))], [.int (zI (((119 + (98 * bk)) + 2) + (4 * v24))), .ref 144], es26)) i_208_27 rfl ?_
                        refine x0 (r := (30, [some (.ref 143), some (.int (zI bk)), some (.int (zI v24)), some (.int (zI kd)), some (.int (zI fr)), some (.int (zI fi)), some (.int (zI ra)), some (.int (zI (((119 + (98 * bk)) + 2) + (4 * v24))))], [.int (zI 1), .int (zI (((119 + (98 * bk)) + 2) + (4 * v24))), .ref 144], es26)) i_208_29 (by rfl) ?_
                        refine x_iadd i_208_30 ?_
                        refine x0 (r := (33, [some (.ref 143), some (.int (zI bk)), some (.int (zI v24)), some (.int (zI kd)), some (.int (zI fr)), some (.int (zI fi)), some (.int (zI ra)), some (.int (zI (((119 + (98 * bk)) + 2) + (4 * v24))))], [.int (zI fr), .int (zI ((((119 + (98 * bk)) + 2) + (4 * v24)) + 1)), .ref 144], es26)) i_208_31 rfl ?_
                        refine x_iast (p := 80) i_208_33 hs_es26 rfl (by unfold i32 iLO iHI; omega) (by omega) (by omega) ?_
                        obtain ⟨es27, e_es27⟩ : ∃ z : PH, z = sA es26 80 ((((119 + (98 * bk)) + 2) + (4 * v24)) + 1).toNat (zI fr) := ⟨_, rfl⟩
                        have hs_es27 : sh es27 := by rw [e_es27]; exact sh_sA hs_es26
                        rw [← e_es27]
                        refine x0 (r := (35, [some (.ref 143), some (.int (zI bk)), some (.int (zI v24)), some (.int (zI kd)), some (.int (zI fr)), some (.int (zI fi)), some (.int (zI ra)), some (.int (zI (((119 + (98 * bk)) + 2) + (4 * v24))))], [.ref 143], es27)) i_208_34 rfl ?_
                        refine x_getr (p := 79) (k := 144) i_208_35 hs_es27 rfl rfl ?_
                        show aW _ _ _ _ _ _ (38, [some (.ref 143), some (.int (zI bk)), some (.int (zI v24)), some (.int (zI kd)), some (.int (zI fr)), some (.int (zI fi)), some (.int (zI ra)), some (.int (zI (((119 + (98 * bk)) + 2) + (4 * v24))))], [.ref 144], es27)
                        refine x0 (r := (40, [some (.ref 143), some (.int (zI bk)), some (.int (zI v24)), some (.int (zI kd)), some (.int (zI fr)), some (.int (zI fi)), some (.int (zI ra)), some (.int (zI (((119 + (98 * bk)) + 2) + (4 * v24))))], [.int (zI (((119 + (98 * bk)) + 2) + (4 * v24))), .ref 144], es27)) i_208_38 rfl ?_
                        refine x0 (r := (41, [some (.ref 143), some (.int (zI bk)), some (.int (zI v24)), some (.int (zI kd)), some (.int (zI fr)), some (.int (zI fi)), some (.int (zI ra)), some (.int (zI (((119 + (98 * bk)) + 2) + (4 * v24))))], [.int (zI 2), .int (zI (((119 + (98 * bk)) + 2) + (4 * v24))), .ref 144], es27)) i_208_40 (by rfl) ?_
                        refine x_iadd i_208_41 ?_
                        refine x0 (r := (44, [some (.ref 143), some (.int (zI bk)), some (.int (zI v24)), some (.int (zI kd)), some (.int (zI fr)), some (.int (zI fi)), some (.int (zI ra)), some (.int (zI (((119 + (98 * bk)) + 2) + (4 * v24))))], [.int (zI fi), .int (zI ((((119 + (98 * bk)) + 2) + (4 * v24)) + 2)), .ref 144], es27)) i_208_42 rfl ?_
                        refine x_iast (p := 80) i_208_44 hs_es27 rfl (by unfold i32 iLO iHI; omega) (by omega) (by omega) ?_
                        obtain ⟨es28, e_es28⟩ : ∃ z : PH, z = sA es27 80 ((((119 + (98 * bk)) + 2) + (4 * v24)) + 2).toNat (zI fi) := ⟨_, rfl⟩
                        have hs_es28 : sh es28 := by rw [e_es28]; exact sh_sA hs_es27
                        rw [← e_es28]
                        refine x0 (r := (46, [some (.ref 143), some (.int (zI bk)), some (.int (zI v24)), some (.int (zI kd)), some (.int (zI fr)), some (.int (zI fi)), some (.int (zI ra)), some (.int (zI (((119 + (98 * bk)) + 2) + (4 * v24))))], [.ref 143], es28)) i_208_45 rfl ?_
                        refine x_getr (p := 79) (k := 144) i_208_46 hs_es28 rfl rfl ?_
                        show aW _ _ _ _ _ _ (49, [some (.ref 143), some (.int (zI bk)), some (.int (zI v24)), some (.int (zI kd)), some (.int (zI fr)), some (.int (zI fi)), some (.int (zI ra)), some (.int (zI (((119 + (98 * bk)) + 2) + (4 * v24))))], [.ref 144], es28)
                        refine x0 (r := (51, [some (.ref 143), some (.int (zI bk)), some (.int (zI v24)), some (.int (zI kd)), some (.int (zI fr)), some (.int (zI fi)), some (.int (zI ra)), some (.int (zI (((119 + (98 * bk)) + 2) + (4 * v24))))], [.int (zI (((119 + (98 * bk)) + 2) + (4 * v24))), .ref 144], es28)) i_208_49 rfl ?_
                        refine x0 (r := (52, [some (.ref 143), some (.int (zI bk)), some (.int (zI v24)), some (.int (zI kd)), some (.int (zI fr)), some (.int (zI fi)), some (.int (zI ra)), some (.int (zI (((119 + (98 * bk)) + 2) + (4 * v24))))], [.int (zI 3), .int (zI (((119 + (98 * bk)) + 2) + (4 * v24))), .ref 144], es28)) i_208_51 (by rfl) ?_
                        refine x_iadd i_208_52 ?_
                        refine x0 (r := (55, [some (.ref 143), some (.int (zI bk)), some (.int (zI v24)), some (.int (zI kd)), some (.int (zI fr)), some (.int (zI fi)), some (.int (zI ra)), some (.int (zI (((119 + (98 * bk)) + 2) + (4 * v24))))], [.int (zI ra), .int (zI ((((119 + (98 * bk)) + 2) + (4 * v24)) + 3)), .ref 144], es28)) i_208_53 rfl ?_
                        refine x_iast (p := 80) i_208_55 hs_es28 rfl (by unfold i32 iLO iHI; omega) (by omega) (by omega) ?_
                        obtain ⟨es29, e_es29⟩ : ∃ z : PH, z = sA es28 80 ((((119 + (98 * bk)) + 2) + (4 * v24)) + 3).toNat (zI ra) := ⟨_, rfl⟩
                        have hs_es29 : sh es29 := by rw [e_es29]; exact sh_sA hs_es28
                        rw [← e_es29]
                        refine x_ret (v := none) i_208_56 rfl (fun _ => rfl) rfl rfl rfl ?_
                        show aW _ _ _ _ _ _ (16, [some (.ref 143), some (.int (zI bk)), some (.int (zI kd)), some (.int (zI fr)), some (.int (zI fi)), some (.int (zI ra))], [], es29)
                        refine x0 (r := (17, [some (.ref 143), some (.int (zI bk)), some (.int (zI kd)), some (.int (zI fr)), some (.int (zI fi)), some (.int (zI ra))], [.ref 143], es29)) i_207_16 rfl ?_
                        refine x_getr (p := 79) (k := 144) i_207_17 hs_es29 rfl rfl ?_
                        show aW _ _ _ _ _ _ (20, [some (.ref 143), some (.int (zI bk)), some (.int (zI kd)), some (.int (zI fr)), some (.int (zI fi)), some (.int (zI ra))], [.ref 144], es29)
                        refine x0 (r := (22, [some (.ref 143), some (.int (zI bk)), some (.int (zI kd)), some (.int (zI fr)), some (.int (zI fi)), some (.int (zI ra))], [.int (zI 119), .ref 144], es29)) i_207_20 (by rfl) ?_
                        refine x0 (r := (24, [some (.ref 143), some (.int (zI bk)), some (.int (zI kd)), some (.int (zI fr)), some (.int (zI fi)), some (.int (zI ra))], [.int (zI 98), .int (zI 119), .ref 144], es29)) i_207_22 (by rfl) ?_
                        refine x0 (r := (25, [some (.ref 143), some (.int (zI bk)), some (.int (zI kd)), some (.int (zI fr)), some (.int (zI fi)), some (.int (zI ra))], [.int (zI bk), .int (zI 98), .int (zI 119), .ref 144], es29)) i_207_24 rfl ?_
                        refine x_imul i_207_25 ?_
                        refine x_iadd i_207_26 ?_
                        refine x0 (r := (28, [some (.ref 143), some (.int (zI bk)), some (.int (zI kd)), some (.int (zI fr)), some (.int (zI fi)), some (.int (zI ra))], [.int (zI 1), .int (zI (119 + (98 * bk))), .ref 144], es29)) i_207_27 (by rfl) ?_
                        refine x_iadd i_207_28 ?_
                        refine x0 (r := (30, [some (.ref 143), some (.int (zI bk)), some (.int (zI kd)), some (.int (zI fr)), some (.int (zI fi)), some (.int (zI ra))], [.int (zI ((119 + (98 * bk)) + 1)), .ref 144, .int (zI ((119 + (98 * bk)) + 1)), .ref 144], es29)) i_207_29 rfl ?_
                        refine x_iald (p := 80) i_207_30 hs_es29 rfl (by unfold i32 iLO iHI; omega) (by omega) (by omega) ?_
                        obtain ⟨v30, e_v30⟩ : ∃ z : Int, z = (gA es29 80 ((119 + (98 * bk)) + 1).toNat).toInt := ⟨_, rfl⟩
                        rw [← e_v30]
                        have r_v30 : iLO ≤ v30 ∧ v30 ≤ iHI := by rw [e_v30]; exact i32_rng _
                        unfold iLO iHI at r_v30
                        refine x0 (r := (32, [some (.ref 143), some (.int (zI bk)), some (.int (zI kd)), some (.int (zI fr)), some (.int (zI fi)), some (.int (zI ra))], [.int (zI 1), .int (zI v30), .int (zI ((119 + (98 * bk)) + 1)), .ref 144], es29)) i_207_31 (by rfl) ?_
                        refine x_iadd i_207_32 ?_
                        refine x_iast (p := 80) i_207_33 hs_es29 rfl (by unfold i32 iLO iHI; omega) (by omega) (by omega) ?_
                        obtain ⟨es31, e_es31⟩ : ∃ z : PH, z = sA es29 80 ((119 + (98 * bk)) + 1).toNat (zI (v30 + 1)) := ⟨_, rfl⟩
                        have hs_es31 : sh es31 := by rw [e_es31]; exact sh_sA hs_es29
                        rw [← e_es31]
                        refine x0 (r := (35, [some (.ref 143), some (.int (zI bk)), some (.int (zI kd)), some (.int (zI fr)), some (.int (zI fi)), some (.int (zI ra))], [.ref 143], es31)) i_207_34 rfl ?_
                        refine x0 (r := (36, [some (.ref 143), some (.int (zI bk)), some (.int (zI kd)), some (.int (zI fr)), some (.int (zI fi)), some (.int (zI ra))], [.int (zI bk), .ref 143], es31)) i_207_35 rfl ?_
                        refine x_call (vs := [.ref 143, .int (zI bk)]) (rs := []) i_207_36 rfl (fun _ => rfl) rfl rfl rfl rfl rfl (pCall_v (p := 79) hs_es31 rfl rfl rfl rfl rfl (by decide) rfl rfl rfl rfl rfl) ?_
                        show aW _ _ _ _ _ _ (0, [some (.ref 143), some (.int (zI bk))], [], es31)
                        refine x0 (r := (1, [some (.ref 143), some (.int (zI bk))], [.ref 143], es31)) i_205_0 rfl ?_
                        refine x0 (r := (2, [some (.ref 143), some (.int (zI bk))], [.int (zI bk), .ref 143], es31)) i_205_1 rfl ?_
                        refine x0 (r := (3, [some (.ref 143), some (.int (zI bk))], [.int (zI 1), .int (zI bk), .ref 143], es31)) i_205_2 (by rfl) ?_
                        refine x_call (vs := [.ref 143, .int (zI bk), .int (zI 1)]) (rs := []) i_205_3 rfl (fun _ => rfl) rfl rfl rfl rfl rfl (pCall_v (p := 79) hs_es31 rfl rfl rfl rfl rfl (by decide) rfl rfl rfl rfl rfl) ?_
                        show aW _ _ _ _ _ _ (0, [some (.ref 143), some (.int (zI bk)), some (.int (zI 1))], [], es31)
                        refine x0 (r := (1, [some (.ref 143), some (.int (zI bk)), some (.int (zI 1))], [.ref 143], es31)) i_206_0 rfl ?_
                        refine x_getr (p := 79) (k := 144) i_206_1 hs_es31 rfl rfl ?_
                        show aW _ _ _ _ _ _ (4, [some (.ref 143), some (.int (zI bk)), some (.int (zI 1))], [.ref 144], es31)
                        refine x0 (r := (6, [some (.ref 143), some (.int (zI bk)), some (.int (zI 1))], [.int (zI 119), .ref 144], es31)) i_206_4 (by rfl) ?_
                        refine x0 (r := (8, [some (.ref 143), some (.int (zI bk)), some (.int (zI 1))], [.int (zI 98), .int (zI 119), .ref 144], es31)) i_206_6 (by rfl) ?_
                        refine x0 (r := (9, [some (.ref 143), some (.int (zI bk)), some (.int (zI 1))], [.int (zI bk), .int (zI 98), .int (zI 119), .ref 144], es31)) i_206_8 rfl ?_
                        refine x_imul i_206_9 ?_
                        refine x_iadd i_206_10 ?_
                        refine x0 (r := (12, [some (.ref 143), some (.int (zI bk)), some (.int (zI 1))], [.int (zI 1), .int (zI (119 + (98 * bk))), .ref 144], es31)) i_206_11 rfl ?_
                        refine x_iadd i_206_12 ?_
                        refine x_iald (p := 80) i_206_13 hs_es31 rfl (by unfold i32 iLO iHI; omega) (by omega) (by omega) ?_
                        obtain ⟨v32, e_v32⟩ : ∃ z : Int, z = (gA es31 80 ((119 + (98 * bk)) + 1).toNat).toInt := ⟨_, rfl⟩
                        rw [← e_v32]
                        have r_v32 : iLO ≤ v32 ∧ v32 ≤ iHI := by rw [e_v32]; exact i32_rng _
                        unfold iLO iHI at r_v32
                        refine x_ret (v := some (.int (zI v32))) i_206_14 rfl (fun _ => rfl) rfl rfl rfl ?_
                        show aW _ _ _ _ _ _ (6, [some (.ref 143), some (.int (zI bk))], [.int (zI v32)], es31)
                        refine x_ret (v := some (.int (zI v32))) i_205_6 rfl (fun _ => rfl) rfl rfl rfl ?_
                        show aW _ _ _ _ _ _ (39, [some (.ref 143), some (.int (zI bk)), some (.int (zI kd)), some (.int (zI fr)), some (.int (zI fi)), some (.int (zI ra))], [.int (zI v32)], es31)
                        refine x0 (r := (40, [some (.ref 143), some (.int (zI bk)), some (.int (zI kd)), some (.int (zI fr)), some (.int (zI fi)), some (.int (zI ra))], [.int (zI 1), .int (zI v32)], es31)) i_207_39 (by rfl) ?_
                        refine x_isub i_207_40 ?_
                        refine x_ret (v := some (.int (zI (v32 - 1)))) i_207_41 rfl (fun _ => rfl) rfl rfl rfl ?_
                        show aW _ _ _ _ _ _ (86, [some (.ref 143), some (.int (zI bk)), some (.int (zI kd)), some (.int (zI fr)), some (.int (zI fi)), some (.int (zI ra))], [.int (zI (v32 - 1))], es31)
                        refine x_ret (v := some (.int (zI (v32 - 1)))) i_202_86 rfl (fun _ => rfl) rfl rfl rfl ?_
                        exact K11 es1 e_es1 v2 e_v2 c3 c5 v7 e_v7 c8 c10 c12 c14 c16 c18 c20 c22 v24 e_v24 c25 es26 e_es26 es27 e_es27 es28 e_es28 es29 e_es29 v30 e_v30 es31 e_es31 v32 e_v32
                      · refine x_cmpF i_202_58 (by unfold i32 iLO iHI; omega) (by unfold i32 iLO iHI; omega) rfl (by simp only [zC, cR]; omega) ?_
                        refine x0 (r := (62, [some (.ref 143), some (.int (zI bk)), some (.int (zI kd)), some (.int (zI fr)), some (.int (zI fi)), some (.int (zI ra))], [.int (zI 1), .ref 143], es1)) i_202_61 (by rfl) ?_
                        refine x0 (r := (66, [some (.ref 143), some (.int (zI bk)), some (.int (zI kd)), some (.int (zI fr)), some (.int (zI fi)), some (.int (zI ra))], [.int (zI 1), .ref 143], es1)) i_202_62 rfl ?_
                        refine x0 (r := (67, [some (.ref 143), some (.int (zI bk)), some (.int (zI kd)), some (.int (zI fr)), some (.int (zI fi)), some (.int (zI ra))], [.int (zI 3), .int (zI 1), .ref 143], es1)) i_202_66 (by rfl) ?_
                        refine x_call (vs := [.ref 143, .int (zI 1), .int (zI 3)]) (rs := []) i_202_67 rfl (fun _ => rfl) rfl rfl rfl rfl rfl (pCall_v (p := 79) hs_es1 rfl rfl rfl rfl rfl (by decide) rfl rfl rfl rfl rfl) ?_
                        show aW _ _ _ _ _ _ (0, [some (.ref 143), some (.int (zI 1)), some (.int (zI 3))], [], es1)
                        refine x0 (r := (1, [some (.ref 143), some (.int (zI 1)), some (.int (zI 3))], [.int (zI 1)], es1)) i_194_0 rfl ?_
                        refine x_ifF i_194_1 (by unfold i32 iLO iHI; omega) rfl (by simp only [zC, cR]; omega) ?_
                        refine x0 (r := (5, [some (.ref 143), some (.int (zI 1)), some (.int (zI 3))], [.ref 143], es1)) i_194_4 rfl ?_
                        refine x0 (r := (6, [some (.ref 143), some (.int (zI 1)), some (.int (zI 3))], [.int (zI 3), .ref 143], es1)) i_194_5 rfl ?_
                        refine x_puti (p := 79) (ty := .int) i_194_6 hs_es1 rfl rfl rfl (Or.inl rfl) ?_
                        obtain ⟨es33, e_es33⟩ : ∃ z : PH, z = sI es1 79 0 (.int (zI 3)) := ⟨_, rfl⟩
                        have hs_es33 : sh es33 := by rw [e_es33]; exact sh_sI hs_es1 (p := 79) (b := 0) rfl rfl
                        have hT_es33 : hOK tT es33 := by rw [e_es33]; exact hOK_sI hT_es1 (p := 79) (b := 0) (lo := iLO) (hi := iHI) rfl rfl (i32_rng _)
                        rw [← e_es33]
                        refine x0 (r := (10, [some (.ref 143), some (.int (zI 1)), some (.int (zI 3))], [.int (zI 1)], es33)) i_194_9 rfl ?_
                        refine x_ret (v := some (.int (zI 1))) i_194_10 rfl (fun _ => rfl) rfl rfl (pFin_b (by omega)) ?_
                        show aW _ _ _ _ _ _ (70, [some (.ref 143), some (.int (zI bk)), some (.int (zI kd)), some (.int (zI fr)), some (.int (zI fi)), some (.int (zI ra))], [.int (zI 1)], es33)
                        refine x_ifF i_202_70 (by unfold i32 iLO iHI; omega) rfl (by simp only [zC, cR]; omega) ?_
                        refine x0 (r := (74, [some (.ref 143), some (.int (zI bk)), some (.int (zI kd)), some (.int (zI fr)), some (.int (zI fi)), some (.int (zI ra))], [.int (zI 0)], es33)) i_202_73 (by rfl) ?_
                        refine x_ret (v := some (.int (zI 0))) i_202_74 rfl (fun _ => rfl) rfl rfl rfl ?_
                        exact K12 es1 e_es1 v2 e_v2 c3 c5 v7 e_v7 c8 c10 c12 c14 c16 c18 c20 c22 v24 e_v24 c25 es33 e_es33
def notemP (bk : Int) (kd : Int) (fr : Int) (fi : Int) (ra : Int) (es : PH) (r : Option Value ⊕ Nat) (es1 : PH) : Prop := sh es1 ∧ True ∧ ∃ v : Int, r = .inl (some (.int (zI v))) ∧ i32 v ∧ (((gI es1 79 0).toInt = 1 ∧ (bk < 0 ∨ (gA es 80 1).toInt ≤ bk ∨ kd < 0 ∨ (gA es 80 0).toInt ≤ kd) ∧ gA es1 80 = gA es 80) ∨ ((gI es1 79 0).toInt = 2 ∧ ((0 ≤ bk ∧ bk < (gA es 80 1).toInt ∧ 0 ≤ kd ∧ kd < (gA es 80 0).toInt) ∧ (fr < -1 ∨ 5 < fr ∨ fi < 0 ∨ 5 < fi ∨ ra < 0 ∨ 5 < ra)) ∧ gA es1 80 = gA es 80) ∨ ((gI es1 79 0).toInt = 3 ∧ (((0 ≤ bk ∧ bk < (gA es 80 1).toInt ∧ 0 ≤ kd ∧ kd < (gA es 80 0).toInt) ∧ (-1 ≤ fr ∧ fr ≤ 5 ∧ 0 ≤ fi ∧ fi ≤ 5 ∧ 0 ≤ ra ∧ ra ≤ 5)) ∧ (gA es 80 ((119 + (98 * bk)) + 1).toNat).toInt = 24) ∧ gA es1 80 = gA es 80) ∨ ((gI es1 79 0).toInt = 0 ∧ (((0 ≤ bk ∧ bk < (gA es 80 1).toInt ∧ 0 ≤ kd ∧ kd < (gA es 80 0).toInt) ∧ (-1 ≤ fr ∧ fr ≤ 5 ∧ 0 ≤ fi ∧ fi ≤ 5 ∧ 0 ≤ ra ∧ ra ≤ 5)) ∧ (gA es 80 ((119 + (98 * bk)) + 1).toNat).toInt < 24) ∧ gA es1 80 = upd (upd (upd (upd (upd (gA es 80) (((119 + (98 * bk)) + 2) + (4 * (gA es 80 ((119 + (98 * bk)) + 1).toNat).toInt)).toNat (zI kd)) ((((119 + (98 * bk)) + 2) + (4 * (gA es 80 ((119 + (98 * bk)) + 1).toNat).toInt)) + 1).toNat (zI fr)) ((((119 + (98 * bk)) + 2) + (4 * (gA es 80 ((119 + (98 * bk)) + 1).toNat).toInt)) + 2).toNat (zI fi)) ((((119 + (98 * bk)) + 2) + (4 * (gA es 80 ((119 + (98 * bk)) + 1).toNat).toInt)) + 3).toNat (zI ra)) ((119 + (98 * bk)) + 1).toNat (zI ((gA es 80 ((119 + (98 * bk)) + 1).toNat).toInt + 1)) ∧ v = (gA es 80 ((119 + (98 * bk)) + 1).toNat).toInt))
theorem fn_notem {O : pOut} {d : Nat} {es : PH} {bk kd fr fi ra : Int} (h_bk : i32 bk) (h_kd : i32 kd) (h_fr : i32 fr) (h_fi : i32 fi) (h_ra : i32 ra) (hT : hOK tT es) : aW O (d + 3) 202 0 0 (fun o => notemP bk kd fr fi ra es o.1 o.2.1) (0, [some (.ref 143), some (.int (zI bk)), some (.int (zI kd)), some (.int (zI fr)), some (.int (zI fi)), some (.int (zI ra))], [], es) := by
  have hs_es := sh_of hT
  have hB : (0 : Int) ≤ (gA es 80 1).toInt ∧ (gA es 80 1).toInt ≤ (3 : Int) := gA_bd hT (p := 80) (k := 1) rfl (by omega) (by decide)
  have hC : bk < 0 ∨ 2 < bk ∨ (0 ≤ (gA es 80 ((119 + (98 * bk)) + 1).toNat).toInt ∧ (gA es 80 ((119 + (98 * bk)) + 1).toNat).toInt ≤ 24) := by
    by_cases h1 : 0 ≤ bk ∧ bk ≤ 2
    · exact Or.inr (Or.inr (cnt_bd hT h1.1 h1.2))
    · omega
  unfold i32 iLO iHI at h_bk h_kd h_fr h_fi h_ra
  refine s_mnote (d := d) (kc := 0) (ks := 0) hs_es h_bk h_kd h_fr h_fi h_ra hT (fun es1 e_es1 v2 e_v2 c3 es4 e_es4 => ?_) (fun es1 e_es1 v2 e_v2 c3 c5 es6 e_es6 => ?_) (fun es1 e_es1 v2 e_v2 c3 c5 v7 e_v7 c8 es9 e_es9 => ?_) (fun es1 e_es1 v2 e_v2 c3 c5 v7 e_v7 c8 c10 es11 e_es11 => ?_) (fun es1 e_es1 v2 e_v2 c3 c5 v7 e_v7 c8 c10 c12 es13 e_es13 => ?_) (fun es1 e_es1 v2 e_v2 c3 c5 v7 e_v7 c8 c10 c12 c14 es15 e_es15 => ?_) (fun es1 e_es1 v2 e_v2 c3 c5 v7 e_v7 c8 c10 c12 c14 c16 es17 e_es17 => ?_) (fun es1 e_es1 v2 e_v2 c3 c5 v7 e_v7 c8 c10 c12 c14 c16 c18 es19 e_es19 => ?_) (fun es1 e_es1 v2 e_v2 c3 c5 v7 e_v7 c8 c10 c12 c14 c16 c18 c20 es21 e_es21 => ?_) (fun es1 e_es1 v2 e_v2 c3 c5 v7 e_v7 c8 c10 c12 c14 c16 c18 c20 c22 es23 e_es23 => ?_) (fun es1 e_es1 v2 e_v2 c3 c5 v7 e_v7 c8 c10 c12 c14 c16 c18 c20 c22 v24 e_v24 c25 es26 e_es26 es27 e_es27 es28 e_es28 es29 e_es29 v30 e_v30 es31 e_es31 v32 e_v32 => ?_) (fun es1 e_es1 v2 e_v2 c3 c5 v7 e_v7 c8 c10 c12 c14 c16 c18 c20 c22 v24 e_v24 c25 es33 e_es33 => ?_)
  · have hs_es1 : sh es1 := by rw [e_es1]; exact sh_sI hs_es (p := 79) (b := 0) rfl rfl
    have hs_es4 : sh es4 := by rw [e_es4]; exact sh_sI hs_es1 (p := 79) (b := 0) rfl rfl
    have b_v2 : v2 = (gA es 80 1).toInt := by
      have h := e_v2
      rw [e_es1, gA_sI] at h
      exact h
    exact ⟨hs_es4, trivial, _, rfl, by unfold i32 iLO iHI; omega, Or.inl ⟨by show (gI es4 79 0).toInt = _; rw [e_es4, gI_sI hs_es1 (p := 79) (b := 0) rfl (by decide)]; rfl, by omega, by show gA es4 80 = _; rw [e_es4, gA_sI, e_es1, gA_sI]⟩⟩
  · have hs_es1 : sh es1 := by rw [e_es1]; exact sh_sI hs_es (p := 79) (b := 0) rfl rfl
    have hs_es6 : sh es6 := by rw [e_es6]; exact sh_sI hs_es1 (p := 79) (b := 0) rfl rfl
    have b_v2 : v2 = (gA es 80 1).toInt := by
      have h := e_v2
      rw [e_es1, gA_sI] at h
      exact h
    exact ⟨hs_es6, trivial, _, rfl, by unfold i32 iLO iHI; omega, Or.inl ⟨by show (gI es6 79 0).toInt = _; rw [e_es6, gI_sI hs_es1 (p := 79) (b := 0) rfl (by decide)]; rfl, by omega, by show gA es6 80 = _; rw [e_es6, gA_sI, e_es1, gA_sI]⟩⟩
  · have hs_es1 : sh es1 := by rw [e_es1]; exact sh_sI hs_es (p := 79) (b := 0) rfl rfl
    have hs_es9 : sh es9 := by rw [e_es9]; exact sh_sI hs_es1 (p := 79) (b := 0) rfl rfl
    have b_v2 : v2 = (gA es 80 1).toInt := by
      have h := e_v2
      rw [e_es1, gA_sI] at h
      exact h
    have b_v7 : v7 = (gA es 80 0).toInt := by
      have h := e_v7
      rw [e_es1, gA_sI] at h
      exact h
    exact ⟨hs_es9, trivial, _, rfl, by unfold i32 iLO iHI; omega, Or.inl ⟨by show (gI es9 79 0).toInt = _; rw [e_es9, gI_sI hs_es1 (p := 79) (b := 0) rfl (by decide)]; rfl, by omega, by show gA es9 80 = _; rw [e_es9, gA_sI, e_es1, gA_sI]⟩⟩
  · have hs_es1 : sh es1 := by rw [e_es1]; exact sh_sI hs_es (p := 79) (b := 0) rfl rfl
    have hs_es11 : sh es11 := by rw [e_es11]; exact sh_sI hs_es1 (p := 79) (b := 0) rfl rfl
    have b_v2 : v2 = (gA es 80 1).toInt := by
      have h := e_v2
      rw [e_es1, gA_sI] at h
      exact h
    have b_v7 : v7 = (gA es 80 0).toInt := by
      have h := e_v7
      rw [e_es1, gA_sI] at h
      exact h
    exact ⟨hs_es11, trivial, _, rfl, by unfold i32 iLO iHI; omega, Or.inl ⟨by show (gI es11 79 0).toInt = _; rw [e_es11, gI_sI hs_es1 (p := 79) (b := 0) rfl (by decide)]; rfl, by omega, by show gA es11 80 = _; rw [e_es11, gA_sI, e_es1, gA_sI]⟩⟩
  · have hs_es1 : sh es1 := by rw [e_es1]; exact sh_sI hs_es (p := 79) (b := 0) rfl rfl
    have hs_es13 : sh es13 := by rw [e_es13]; exact sh_sI hs_es1 (p := 79) (b := 0) rfl rfl
    have b_v2 : v2 = (gA es 80 1).toInt := by
      have h := e_v2
      rw [e_es1, gA_sI] at h
      exact h
    have b_v7 : v7 = (gA es 80 0).toInt := by
      have h := e_v7
      rw [e_es1, gA_sI] at h
      exact h
    exact ⟨hs_es13, trivial, _, rfl, by unfold i32 iLO iHI; omega, Or.inr (Or.inl ⟨by show (gI es13 79 0).toInt = _; rw [e_es13, gI_sI hs_es1 (p := 79) (b := 0) rfl (by decide)]; rfl, by omega, by show gA es13 80 = _; rw [e_es13, gA_sI, e_es1, gA_sI]⟩)⟩
  · have hs_es1 : sh es1 := by rw [e_es1]; exact sh_sI hs_es (p := 79) (b := 0) rfl rfl
    have hs_es15 : sh es15 := by rw [e_es15]; exact sh_sI hs_es1 (p := 79) (b := 0) rfl rfl
    have b_v2 : v2 = (gA es 80 1).toInt := by
      have h := e_v2
      rw [e_es1, gA_sI] at h
      exact h
    have b_v7 : v7 = (gA es 80 0).toInt := by
      have h := e_v7
      rw [e_es1, gA_sI] at h
      exact h
    exact ⟨hs_es15, trivial, _, rfl, by unfold i32 iLO iHI; omega, Or.inr (Or.inl ⟨by show (gI es15 79 0).toInt = _; rw [e_es15, gI_sI hs_es1 (p := 79) (b := 0) rfl (by decide)]; rfl, by omega, by show gA es15 80 = _; rw [e_es15, gA_sI, e_es1, gA_sI]⟩)⟩
  · have hs_es1 : sh es1 := by rw [e_es1]; exact sh_sI hs_es (p := 79) (b := 0) rfl rfl
    have hs_es17 : sh es17 := by rw [e_es17]; exact sh_sI hs_es1 (p := 79) (b := 0) rfl rfl
    have b_v2 : v2 = (gA es 80 1).toInt := by
      have h := e_v2
      rw [e_es1, gA_sI] at h
      exact h
    have b_v7 : v7 = (gA es 80 0).toInt := by
      have h := e_v7
      rw [e_es1, gA_sI] at h
      exact h
    exact ⟨hs_es17, trivial, _, rfl, by unfold i32 iLO iHI; omega, Or.inr (Or.inl ⟨by show (gI es17 79 0).toInt = _; rw [e_es17, gI_sI hs_es1 (p := 79) (b := 0) rfl (by decide)]; rfl, by omega, by show gA es17 80 = _; rw [e_es17, gA_sI, e_es1, gA_sI]⟩)⟩
  · have hs_es1 : sh es1 := by rw [e_es1]; exact sh_sI hs_es (p := 79) (b := 0) rfl rfl
    have hs_es19 : sh es19 := by rw [e_es19]; exact sh_sI hs_es1 (p := 79) (b := 0) rfl rfl
    have b_v2 : v2 = (gA es 80 1).toInt := by
      have h := e_v2
      rw [e_es1, gA_sI] at h
      exact h
    have b_v7 : v7 = (gA es 80 0).toInt := by
      have h := e_v7
      rw [e_es1, gA_sI] at h
      exact h
    exact ⟨hs_es19, trivial, _, rfl, by unfold i32 iLO iHI; omega, Or.inr (Or.inl ⟨by show (gI es19 79 0).toInt = _; rw [e_es19, gI_sI hs_es1 (p := 79) (b := 0) rfl (by decide)]; rfl, by omega, by show gA es19 80 = _; rw [e_es19, gA_sI, e_es1, gA_sI]⟩)⟩
  · have hs_es1 : sh es1 := by rw [e_es1]; exact sh_sI hs_es (p := 79) (b := 0) rfl rfl
    have hs_es21 : sh es21 := by rw [e_es21]; exact sh_sI hs_es1 (p := 79) (b := 0) rfl rfl
    have b_v2 : v2 = (gA es 80 1).toInt := by
      have h := e_v2
      rw [e_es1, gA_sI] at h
      exact h
    have b_v7 : v7 = (gA es 80 0).toInt := by
      have h := e_v7
      rw [e_es1, gA_sI] at h
      exact h
    exact ⟨hs_es21, trivial, _, rfl, by unfold i32 iLO iHI; omega, Or.inr (Or.inl ⟨by show (gI es21 79 0).toInt = _; rw [e_es21, gI_sI hs_es1 (p := 79) (b := 0) rfl (by decide)]; rfl, by omega, by show gA es21 80 = _; rw [e_es21, gA_sI, e_es1, gA_sI]⟩)⟩
  · have hs_es1 : sh es1 := by rw [e_es1]; exact sh_sI hs_es (p := 79) (b := 0) rfl rfl
    have hs_es23 : sh es23 := by rw [e_es23]; exact sh_sI hs_es1 (p := 79) (b := 0) rfl rfl
    have b_v2 : v2 = (gA es 80 1).toInt := by
      have h := e_v2
      rw [e_es1, gA_sI] at h
      exact h
    have b_v7 : v7 = (gA es 80 0).toInt := by
      have h := e_v7
      rw [e_es1, gA_sI] at h
      exact h
    exact ⟨hs_es23, trivial, _, rfl, by unfold i32 iLO iHI; omega, Or.inr (Or.inl ⟨by show (gI es23 79 0).toInt = _; rw [e_es23, gI_sI hs_es1 (p := 79) (b := 0) rfl (by decide)]; rfl, by omega, by show gA es23 80 = _; rw [e_es23, gA_sI, e_es1, gA_sI]⟩)⟩
  · have hs_es1 : sh es1 := by rw [e_es1]; exact sh_sI hs_es (p := 79) (b := 0) rfl rfl
    have hs_es26 : sh es26 := by rw [e_es26]; exact sh_sA hs_es1
    have hs_es27 : sh es27 := by rw [e_es27]; exact sh_sA hs_es26
    have hs_es28 : sh es28 := by rw [e_es28]; exact sh_sA hs_es27
    have hs_es29 : sh es29 := by rw [e_es29]; exact sh_sA hs_es28
    have hs_es31 : sh es31 := by rw [e_es31]; exact sh_sA hs_es29
    have b_v2 : v2 = (gA es 80 1).toInt := by
      have h := e_v2
      rw [e_es1, gA_sI] at h
      exact h
    have b_v7 : v7 = (gA es 80 0).toInt := by
      have h := e_v7
      rw [e_es1, gA_sI] at h
      exact h
    have b_v24 : v24 = (gA es 80 ((119 + (98 * bk)) + 1).toNat).toInt := by
      have h := e_v24
      rw [e_es1, gA_sI] at h
      exact h
    have b_v30 : v30 = (gA es 80 ((119 + (98 * bk)) + 1).toNat).toInt := by
      have h := e_v30
      rw [e_es29, gA_sA hs_es28 (p := 80) (t := 0) (n := 2125) (sp := tS80) rfl (by decide)] at h
      unfold upd at h
      rw [if_neg (by omega)] at h
      rw [e_es28, gA_sA hs_es27 (p := 80) (t := 0) (n := 2125) (sp := tS80) rfl (by decide)] at h
      unfold upd at h
      rw [if_neg (by omega)] at h
      rw [e_es27, gA_sA hs_es26 (p := 80) (t := 0) (n := 2125) (sp := tS80) rfl (by decide)] at h
      unfold upd at h
      rw [if_neg (by omega)] at h
      rw [e_es26, gA_sA hs_es1 (p := 80) (t := 0) (n := 2125) (sp := tS80) rfl (by decide)] at h
      unfold upd at h
      rw [if_neg (by omega)] at h
      rw [e_es1, gA_sI] at h
      exact h
    have b_v32 : v32 = (v30 + 1) := by
      have h := e_v32
      rw [e_es31, gA_sA hs_es29 (p := 80) (t := 0) (n := 2125) (sp := tS80) rfl (by decide)] at h
      unfold upd at h
      rw [if_pos rfl] at h
      rw [zI_toInt (by unfold i32 iLO iHI; omega)] at h
      exact h
    exact ⟨hs_es31, trivial, _, rfl, by unfold i32 iLO iHI; omega, Or.inr (Or.inr (Or.inr (⟨by show (gI es31 79 0).toInt = _; rw [e_es31, gI_sA, e_es29, gI_sA, e_es28, gI_sA, e_es27, gI_sA, e_es26, gI_sA, e_es1, gI_sI hs_es (p := 79) (b := 0) rfl (by decide)]; rfl, by omega, by show gA es31 80 = _; rw [e_es31, gA_sA hs_es29 (p := 80) (t := 0) (n := 2125) (sp := tS80) rfl (by decide), e_es29, gA_sA hs_es28 (p := 80) (t := 0) (n := 2125) (sp := tS80) rfl (by decide), e_es28, gA_sA hs_es27 (p := 80) (t := 0) (n := 2125) (sp := tS80) rfl (by decide), e_es27, gA_sA hs_es26 (p := 80) (t := 0) (n := 2125) (sp := tS80) rfl (by decide), e_es26, gA_sA hs_es1 (p := 80) (t := 0) (n := 2125) (sp := tS80) rfl (by decide), e_es1, gA_sI]; rw [b_v30, b_v24], by omega⟩)))⟩
  · have hs_es1 : sh es1 := by rw [e_es1]; exact sh_sI hs_es (p := 79) (b := 0) rfl rfl
    have hs_es33 : sh es33 := by rw [e_es33]; exact sh_sI hs_es1 (p := 79) (b := 0) rfl rfl
    have b_v2 : v2 = (gA es 80 1).toInt := by
      have h := e_v2
      rw [e_es1, gA_sI] at h
      exact h
    have b_v7 : v7 = (gA es 80 0).toInt := by
      have h := e_v7
      rw [e_es1, gA_sI] at h
      exact h
    have b_v24 : v24 = (gA es 80 ((119 + (98 * bk)) + 1).toNat).toInt := by
      have h := e_v24
      rw [e_es1, gA_sI] at h
      exact h
    exact ⟨hs_es33, trivial, _, rfl, by unfold i32 iLO iHI; omega, Or.inr (Or.inr (Or.inl ⟨by show (gI es33 79 0).toInt = _; rw [e_es33, gI_sI hs_es1 (p := 79) (b := 0) rfl (by decide)]; rfl, by omega, by show gA es33 80 = _; rw [e_es33, gA_sI, e_es1, gA_sI]⟩))⟩
