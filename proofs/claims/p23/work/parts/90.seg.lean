/-! SEGMENTS of methods by hand, printed by wip/ai2/hand9.py -/
section
variable {O : pOut} {d j kc ks pc q a b : Nat} {Q : pRes → Prop} {L : PL} {s : List Value} {es : PH} {ret : Option FieldType}
theorem x_getp {f p c : Nat} {vs : List Value} {v : Value} (hi' : iRow j pc = some (.getfield f, q, c, b, ret)) (h1 : es[p]? = some (.inr (c, vs))) (h2 : vs[b]? = some v) (K : aW O d j kc ks Q (pc + 3, L, v :: s, es)) : aW O d j kc ks Q (pc, L, .ref (64 + p) :: s, es) := by
  refine x1 hi' rfl (fun ini => ?_) rfl K
  simp only [pS1]
  have h64 : ¬ 64 + p < 64 := by omega
  rw [if_neg h64, show 64 + p - 64 = p by omega, h1]
  simp only [if_true, h2]
theorem pCall_p {p c n ix : Nat} {ws : List Value} {rw_ : pMrow} {st vs rs tl : List Value} (h1 : es[p]? = some (.inr (c, ws))) (hn : rw_.2.2.2.2.2.1 = n) (hv : (st.take n).reverse = vs) (hr : st.drop n = rs) (hv2 : vs = .ref (64 + p) :: tl) (hb : b = 1 ∨ b = 4) (h15 : (rw_.2.2.2.2.1 == 15) = false) (hl : Nat.ble (pCat (st.take n)) rw_.2.2.1 = true) (hn2 : Nat.ble n st.length = true) (h8 : Nat.ble (pCat (st.drop n)) 8 = true) (hc : c = rw_.2.2.2.2.1) : pCall (.invokevirtual ix) a b rw_ st es = some (vs, rs) := by
  have h15' : ¬ rw_.2.2.2.2.1 = 15 := by simpa using h15
  rw [Nat.ble_eq] at hl hn2 h8
  have hcond : ¬ (rw_.2.2.2.2.1 = 15 ∨ rw_.2.2.1 < pCat (st.take n) ∨ st.length < n ∨ 8 < pCat (st.drop n)) := by omega
  have h64 : ¬ 64 + p < 64 := by omega
  unfold pCall
  rw [hn, if_neg hcond]
  simp only
  rw [if_pos hb, hv, hv2]
  simp only
  rw [if_neg h64, show 64 + p - 64 = p by omega, h1]
  simp only
  rw [if_pos hc, hr]
end
theorem i_24_0 : iRow 24 0 = some (.aload_n 0, 0, 0, 0, none) := rfl
theorem i_24_1 : iRow 24 1 = some (.getfield 15, 53, 0, 0, none) := rfl
theorem i_24_4 : iRow 24 4 = some (.getfield 19, 27, 1, 4, none) := rfl
theorem i_24_7 : iRow 24 7 = some (.aload_n 0, 0, 0, 0, none) := rfl
theorem i_24_8 : iRow 24 8 = some (.getfield 9, 54, 0, 1, none) := rfl
theorem i_24_11 : iRow 24 11 = some (.invokestatic 24, 7, 20, 3, none) := rfl
theorem i_24_14 : iRow 24 14 = some (.return_, 0, 0, 0, none) := rfl
theorem i_44_0 : iRow 44 0 = some (.iload_n 1, 0, 0, 0, (some (Jvm.ClassFile.FieldType.int))) := rfl
theorem i_44_1 : iRow 44 1 = some (.iconst 1, 0, 0, 0, (some (Jvm.ClassFile.FieldType.int))) := rfl
theorem i_44_2 : iRow 44 2 = some (.if_icmp .ne 14, 0, 0, 0, (some (Jvm.ClassFile.FieldType.int))) := rfl
theorem i_44_5 : iRow 44 5 = some (.iload_n 2, 0, 0, 0, (some (Jvm.ClassFile.FieldType.int))) := rfl
theorem i_44_6 : iRow 44 6 = some (.iconst 1, 0, 0, 0, (some (Jvm.ClassFile.FieldType.int))) := rfl
theorem i_44_7 : iRow 44 7 = some (.if_icmp .ne 9, 0, 0, 0, (some (Jvm.ClassFile.FieldType.int))) := rfl
theorem i_44_10 : iRow 44 10 = some (.iconst 5, 0, 0, 0, (some (Jvm.ClassFile.FieldType.int))) := rfl
theorem i_44_11 : iRow 44 11 = some (.iload_n 0, 0, 0, 0, (some (Jvm.ClassFile.FieldType.int))) := rfl
theorem i_44_12 : iRow 44 12 = some (.isub, 0, 0, 0, (some (Jvm.ClassFile.FieldType.int))) := rfl
theorem i_44_13 : iRow 44 13 = some (.goto 4, 0, 0, 0, (some (Jvm.ClassFile.FieldType.int))) := rfl
theorem i_44_16 : iRow 44 16 = some (.iload_n 0, 0, 0, 0, (some (Jvm.ClassFile.FieldType.int))) := rfl
theorem i_44_17 : iRow 44 17 = some (.ireturn, 0, 0, 0, (some (Jvm.ClassFile.FieldType.int))) := rfl
theorem i_49_0 : iRow 49 0 = some (.iload_n 0, 0, 0, 0, (some (Jvm.ClassFile.FieldType.int))) := rfl
theorem i_49_1 : iRow 49 1 = some (.iconst 1, 0, 0, 0, (some (Jvm.ClassFile.FieldType.int))) := rfl
theorem i_49_2 : iRow 49 2 = some (.isub, 0, 0, 0, (some (Jvm.ClassFile.FieldType.int))) := rfl
theorem i_49_3 : iRow 49 3 = some (.iconst 1, 0, 0, 0, (some (Jvm.ClassFile.FieldType.int))) := rfl
theorem i_49_4 : iRow 49 4 = some (.ishr, 0, 0, 0, (some (Jvm.ClassFile.FieldType.int))) := rfl
theorem i_49_5 : iRow 49 5 = some (.ireturn, 0, 0, 0, (some (Jvm.ClassFile.FieldType.int))) := rfl
theorem i_73_0 : iRow 73 0 = some (.aload_n 0, 0, 0, 0, none) := rfl
theorem i_73_1 : iRow 73 1 = some (.iconst 0, 0, 0, 0, none) := rfl
theorem i_73_2 : iRow 73 2 = some (.putfield 392, 147, 11, 10, none) := rfl
theorem i_73_5 : iRow 73 5 = some (.aload_n 0, 0, 0, 0, none) := rfl
theorem i_73_6 : iRow 73 6 = some (.getfield 59, 144, 11, 7, none) := rfl
theorem i_73_9 : iRow 73 9 = some (.iconst 0, 0, 0, 0, none) := rfl
theorem i_73_10 : iRow 73 10 = some (.putfield 395, 133, 9, 3, none) := rfl
theorem i_73_13 : iRow 73 13 = some (.return_, 0, 0, 0, none) := rfl
theorem i_113_0 : iRow 113 0 = some (.iload_n 0, 0, 0, 0, (some (Jvm.ClassFile.FieldType.boolean))) := rfl
theorem i_113_1 : iRow 113 1 = some (.ifCond .eq 8, 0, 0, 0, (some (Jvm.ClassFile.FieldType.boolean))) := rfl
theorem i_113_4 : iRow 113 4 = some (.iload_n 0, 0, 0, 0, (some (Jvm.ClassFile.FieldType.boolean))) := rfl
theorem i_113_5 : iRow 113 5 = some (.iconst 1, 0, 0, 0, (some (Jvm.ClassFile.FieldType.boolean))) := rfl
theorem i_113_6 : iRow 113 6 = some (.if_icmp .ne 7, 0, 0, 0, (some (Jvm.ClassFile.FieldType.boolean))) := rfl
theorem i_113_9 : iRow 113 9 = some (.iconst 1, 0, 0, 0, (some (Jvm.ClassFile.FieldType.boolean))) := rfl
theorem i_113_10 : iRow 113 10 = some (.goto 4, 0, 0, 0, (some (Jvm.ClassFile.FieldType.boolean))) := rfl
theorem i_113_13 : iRow 113 13 = some (.iconst 0, 0, 0, 0, (some (Jvm.ClassFile.FieldType.boolean))) := rfl
theorem i_113_14 : iRow 113 14 = some (.ireturn, 0, 0, 0, (some (Jvm.ClassFile.FieldType.boolean))) := rfl
theorem i_114_0 : iRow 114 0 = some (.aload_n 0, 0, 0, 0, (some (Jvm.ClassFile.FieldType.int))) := rfl
theorem i_114_1 : iRow 114 1 = some (.getfield 24, 33, 1, 6, (some (Jvm.ClassFile.FieldType.int))) := rfl
theorem i_114_4 : iRow 114 4 = some (.aload_n 0, 0, 0, 0, (some (Jvm.ClassFile.FieldType.int))) := rfl
theorem i_114_5 : iRow 114 5 = some (.getfield 53, 30, 1, 5, (some (Jvm.ClassFile.FieldType.int))) := rfl
theorem i_114_8 : iRow 114 8 = some (.iload_n 1, 0, 0, 0, (some (Jvm.ClassFile.FieldType.int))) := rfl
theorem i_114_9 : iRow 114 9 = some (.invokestatic 62, 28, 14, 3, (some (Jvm.ClassFile.FieldType.int))) := rfl
theorem i_114_12 : iRow 114 12 = some (.aload_n 0, 0, 0, 0, (some (Jvm.ClassFile.FieldType.int))) := rfl
theorem i_114_13 : iRow 114 13 = some (.getfield 27, 36, 1, 7, (some (Jvm.ClassFile.FieldType.int))) := rfl
theorem i_114_16 : iRow 114 16 = some (.aload_n 0, 0, 0, 0, (some (Jvm.ClassFile.FieldType.int))) := rfl
theorem i_114_17 : iRow 114 17 = some (.getfield 53, 30, 1, 5, (some (Jvm.ClassFile.FieldType.int))) := rfl
theorem i_114_20 : iRow 114 20 = some (.iconst 0, 0, 0, 0, (some (Jvm.ClassFile.FieldType.int))) := rfl
theorem i_114_21 : iRow 114 21 = some (.invokestatic 62, 28, 14, 3, (some (Jvm.ClassFile.FieldType.int))) := rfl
theorem i_114_24 : iRow 114 24 = some (.aload_n 0, 0, 0, 0, (some (Jvm.ClassFile.FieldType.int))) := rfl
theorem i_114_25 : iRow 114 25 = some (.dup, 0, 0, 0, (some (Jvm.ClassFile.FieldType.int))) := rfl
theorem i_114_26 : iRow 114 26 = some (.getfield 53, 30, 1, 5, (some (Jvm.ClassFile.FieldType.int))) := rfl
theorem i_114_29 : iRow 114 29 = some (.iconst 1, 0, 0, 0, (some (Jvm.ClassFile.FieldType.int))) := rfl
theorem i_114_30 : iRow 114 30 = some (.iadd, 0, 0, 0, (some (Jvm.ClassFile.FieldType.int))) := rfl
theorem i_114_31 : iRow 114 31 = some (.putfield 53, 30, 1, 5, (some (Jvm.ClassFile.FieldType.int))) := rfl
theorem i_114_34 : iRow 114 34 = some (.aload_n 0, 0, 0, 0, (some (Jvm.ClassFile.FieldType.int))) := rfl
theorem i_114_35 : iRow 114 35 = some (.getfield 53, 30, 1, 5, (some (Jvm.ClassFile.FieldType.int))) := rfl
theorem i_114_38 : iRow 114 38 = some (.iconst 1, 0, 0, 0, (some (Jvm.ClassFile.FieldType.int))) := rfl
theorem i_114_39 : iRow 114 39 = some (.isub, 0, 0, 0, (some (Jvm.ClassFile.FieldType.int))) := rfl
theorem i_114_40 : iRow 114 40 = some (.ireturn, 0, 0, 0, (some (Jvm.ClassFile.FieldType.int))) := rfl
theorem i_118_0 : iRow 118 0 = some (.aload_n 0, 0, 0, 0, (some (Jvm.ClassFile.FieldType.int))) := rfl
theorem i_118_1 : iRow 118 1 = some (.iload_n 1, 0, 0, 0, (some (Jvm.ClassFile.FieldType.int))) := rfl
theorem i_118_2 : iRow 118 2 = some (.invokevirtual 80, 82, 35, 1, (some (Jvm.ClassFile.FieldType.int))) := rfl
theorem i_118_5 : iRow 118 5 = some (.istore_n 2, 0, 0, 0, (some (Jvm.ClassFile.FieldType.int))) := rfl
theorem i_118_6 : iRow 118 6 = some (.aload_n 0, 0, 0, 0, (some (Jvm.ClassFile.FieldType.int))) := rfl
theorem i_118_7 : iRow 118 7 = some (.getfield 27, 36, 1, 7, (some (Jvm.ClassFile.FieldType.int))) := rfl
theorem i_118_10 : iRow 118 10 = some (.iload_n 1, 0, 0, 0, (some (Jvm.ClassFile.FieldType.int))) := rfl
theorem i_118_11 : iRow 118 11 = some (.iload_n 2, 0, 0, 0, (some (Jvm.ClassFile.FieldType.int))) := rfl
theorem i_118_12 : iRow 118 12 = some (.iconst 1, 0, 0, 0, (some (Jvm.ClassFile.FieldType.int))) := rfl
theorem i_118_13 : iRow 118 13 = some (.iadd, 0, 0, 0, (some (Jvm.ClassFile.FieldType.int))) := rfl
theorem i_118_14 : iRow 118 14 = some (.invokestatic 62, 28, 14, 3, (some (Jvm.ClassFile.FieldType.int))) := rfl
theorem i_118_17 : iRow 118 17 = some (.iload_n 2, 0, 0, 0, (some (Jvm.ClassFile.FieldType.int))) := rfl
theorem i_118_18 : iRow 118 18 = some (.ireturn, 0, 0, 0, (some (Jvm.ClassFile.FieldType.int))) := rfl
theorem i_123_0 : iRow 123 0 = some (.iload_n 1, 0, 0, 0, (some (Jvm.ClassFile.FieldType.int))) := rfl
theorem i_123_1 : iRow 123 1 = some (.invokestatic 159, 151, 113, 0, (some (Jvm.ClassFile.FieldType.int))) := rfl
theorem i_123_4 : iRow 123 4 = some (.ifCond .eq 24, 0, 0, 0, (some (Jvm.ClassFile.FieldType.int))) := rfl
theorem i_123_7 : iRow 123 7 = some (.iload_n 2, 0, 0, 0, (some (Jvm.ClassFile.FieldType.int))) := rfl
theorem i_123_8 : iRow 123 8 = some (.iconst 1, 0, 0, 0, (some (Jvm.ClassFile.FieldType.int))) := rfl
theorem i_123_9 : iRow 123 9 = some (.if_icmp .lt 19, 0, 0, 0, (some (Jvm.ClassFile.FieldType.int))) := rfl
theorem i_123_12 : iRow 123 12 = some (.iload_n 2, 0, 0, 0, (some (Jvm.ClassFile.FieldType.int))) := rfl
theorem i_123_13 : iRow 123 13 = some (.bipush 24, 0, 0, 0, (some (Jvm.ClassFile.FieldType.int))) := rfl
theorem i_123_15 : iRow 123 15 = some (.if_icmp .gt 13, 0, 0, 0, (some (Jvm.ClassFile.FieldType.int))) := rfl
theorem i_123_18 : iRow 123 18 = some (.iload_n 3, 0, 0, 0, (some (Jvm.ClassFile.FieldType.int))) := rfl
theorem i_123_19 : iRow 123 19 = some (.ifCond .lt 9, 0, 0, 0, (some (Jvm.ClassFile.FieldType.int))) := rfl
theorem i_123_22 : iRow 123 22 = some (.iload_n 3, 0, 0, 0, (some (Jvm.ClassFile.FieldType.int))) := rfl
theorem i_123_23 : iRow 123 23 = some (.bipush 9, 0, 0, 0, (some (Jvm.ClassFile.FieldType.int))) := rfl
theorem i_123_25 : iRow 123 25 = some (.if_icmp .le 13, 0, 0, 0, (some (Jvm.ClassFile.FieldType.int))) := rfl
theorem i_123_28 : iRow 123 28 = some (.new 85, 15, 0, 1, (some (Jvm.ClassFile.FieldType.int))) := rfl
theorem i_123_38 : iRow 123 38 = some (.aload_n 0, 0, 0, 0, (some (Jvm.ClassFile.FieldType.int))) := rfl
theorem i_123_39 : iRow 123 39 = some (.getfield 28, 139, 11, 2, (some (Jvm.ClassFile.FieldType.int))) := rfl
theorem i_123_42 : iRow 123 42 = some (.getfield 164, 32, 1, 5, (some (Jvm.ClassFile.FieldType.int))) := rfl
theorem i_123_45 : iRow 123 45 = some (.iconst 3, 0, 0, 0, (some (Jvm.ClassFile.FieldType.int))) := rfl
theorem i_123_46 : iRow 123 46 = some (.if_icmp .lt 13, 0, 0, 0, (some (Jvm.ClassFile.FieldType.int))) := rfl
theorem i_123_49 : iRow 123 49 = some (.new 95, 16, 1, 1, (some (Jvm.ClassFile.FieldType.int))) := rfl
theorem i_123_59 : iRow 123 59 = some (.aload_n 0, 0, 0, 0, (some (Jvm.ClassFile.FieldType.int))) := rfl
theorem i_123_60 : iRow 123 60 = some (.invokevirtual 104, 78, 73, 1, (some (Jvm.ClassFile.FieldType.int))) := rfl
theorem i_123_63 : iRow 123 63 = some (.aload_n 0, 0, 0, 0, (some (Jvm.ClassFile.FieldType.int))) := rfl
theorem i_123_64 : iRow 123 64 = some (.getfield 28, 139, 11, 2, (some (Jvm.ClassFile.FieldType.int))) := rfl
theorem i_123_67 : iRow 123 67 = some (.iload_n 1, 0, 0, 0, (some (Jvm.ClassFile.FieldType.int))) := rfl
theorem i_123_68 : iRow 123 68 = some (.invokevirtual 169, 152, 114, 1, (some (Jvm.ClassFile.FieldType.int))) := rfl
theorem i_123_71 : iRow 123 71 = some (.istore 5, 0, 0, 0, (some (Jvm.ClassFile.FieldType.int))) := rfl
theorem i_123_73 : iRow 123 73 = some (.aload_n 0, 0, 0, 0, (some (Jvm.ClassFile.FieldType.int))) := rfl
theorem i_123_74 : iRow 123 74 = some (.getfield 40, 141, 11, 4, (some (Jvm.ClassFile.FieldType.int))) := rfl
theorem i_123_77 : iRow 123 77 = some (.invokevirtual 149, 143, 24, 1, (some (Jvm.ClassFile.FieldType.int))) := rfl
theorem i_123_80 : iRow 123 80 = some (.new 217, 21, 10, 0, (some (Jvm.ClassFile.FieldType.int))) := rfl
theorem i_123_83 : iRow 123 83 = some (.dup, 0, 0, 0, (some (Jvm.ClassFile.FieldType.int))) := rfl
theorem i_123_84 : iRow 123 84 = some (.aload_n 0, 0, 0, 0, (some (Jvm.ClassFile.FieldType.int))) := rfl
theorem i_123_85 : iRow 123 85 = some (.getfield 28, 139, 11, 2, (some (Jvm.ClassFile.FieldType.int))) := rfl
theorem i_123_88 : iRow 123 88 = some (.aload_n 0, 0, 0, 0, (some (Jvm.ClassFile.FieldType.int))) := rfl
theorem i_123_89 : iRow 123 89 = some (.getfield 40, 141, 11, 4, (some (Jvm.ClassFile.FieldType.int))) := rfl
theorem i_123_92 : iRow 123 92 = some (.iload 4, 0, 0, 0, (some (Jvm.ClassFile.FieldType.int))) := rfl
theorem i_123_94 : iRow 123 94 = some (.invokespecial 219, 170, 124, 2, (some (Jvm.ClassFile.FieldType.int))) := rfl
theorem i_123_97 : iRow 123 97 = some (.iload 5, 0, 0, 0, (some (Jvm.ClassFile.FieldType.int))) := rfl
theorem i_123_99 : iRow 123 99 = some (.iload_n 2, 0, 0, 0, (some (Jvm.ClassFile.FieldType.int))) := rfl
theorem i_123_100 : iRow 123 100 = some (.iload_n 3, 0, 0, 0, (some (Jvm.ClassFile.FieldType.int))) := rfl
theorem i_123_101 : iRow 123 101 = some (.invokevirtual 222, 172, 125, 1, (some (Jvm.ClassFile.FieldType.int))) := rfl
theorem i_123_104 : iRow 123 104 = some (.iload 5, 0, 0, 0, (some (Jvm.ClassFile.FieldType.int))) := rfl
theorem i_123_106 : iRow 123 106 = some (.ireturn, 0, 0, 0, (some (Jvm.ClassFile.FieldType.int))) := rfl
theorem i_124_0 : iRow 124 0 = some (.aload_n 0, 0, 0, 0, none) := rfl
theorem i_124_1 : iRow 124 1 = some (.invokespecial 3, 171, 0, 6, none) := rfl
theorem i_124_4 : iRow 124 4 = some (.aload_n 0, 0, 0, 0, none) := rfl
theorem i_124_5 : iRow 124 5 = some (.aload_n 1, 0, 0, 0, none) := rfl
theorem i_124_6 : iRow 124 6 = some (.putfield 9, 161, 10, 0, none) := rfl
theorem i_124_9 : iRow 124 9 = some (.aload_n 0, 0, 0, 0, none) := rfl
theorem i_124_10 : iRow 124 10 = some (.aload_n 2, 0, 0, 0, none) := rfl
theorem i_124_11 : iRow 124 11 = some (.putfield 15, 162, 10, 1, none) := rfl
theorem i_124_14 : iRow 124 14 = some (.aload_n 0, 0, 0, 0, none) := rfl
theorem i_124_15 : iRow 124 15 = some (.iload_n 3, 0, 0, 0, none) := rfl
theorem i_124_16 : iRow 124 16 = some (.putfield 19, 163, 10, 2, none) := rfl
theorem i_124_19 : iRow 124 19 = some (.return_, 0, 0, 0, none) := rfl
theorem i_125_0 : iRow 125 0 = some (.iconst 0, 0, 0, 0, none) := rfl
theorem i_125_1 : iRow 125 1 = some (.istore 4, 0, 0, 0, none) := rfl
theorem i_125_3 : iRow 125 3 = some (.iload 4, 0, 0, 0, none) := rfl
theorem i_125_5 : iRow 125 5 = some (.iload_n 2, 0, 0, 0, none) := rfl
theorem i_125_6 : iRow 125 6 = some (.if_icmp .ge 108, 0, 0, 0, none) := rfl
theorem i_125_9 : iRow 125 9 = some (.iload 4, 0, 0, 0, none) := rfl
theorem i_125_11 : iRow 125 11 = some (.iconst 1, 0, 0, 0, none) := rfl
theorem i_125_12 : iRow 125 12 = some (.iand, 0, 0, 0, none) := rfl
theorem i_125_13 : iRow 125 13 = some (.istore 5, 0, 0, 0, none) := rfl
theorem i_125_15 : iRow 125 15 = some (.aload_n 0, 0, 0, 0, none) := rfl
theorem i_125_16 : iRow 125 16 = some (.getfield 15, 162, 10, 1, none) := rfl
theorem i_125_19 : iRow 125 19 = some (.iload 5, 0, 0, 0, none) := rfl
theorem i_125_21 : iRow 125 21 = some (.invokevirtual 23, 173, 108, 1, none) := rfl
theorem i_125_24 : iRow 125 24 = some (.istore 6, 0, 0, 0, none) := rfl
theorem i_125_26 : iRow 125 26 = some (.iload 6, 0, 0, 0, none) := rfl
theorem i_125_28 : iRow 125 28 = some (.iconst 1, 0, 0, 0, none) := rfl
theorem i_125_29 : iRow 125 29 = some (.if_icmp .ge 4, 0, 0, 0, none) := rfl
theorem i_125_32 : iRow 125 32 = some (.return_, 0, 0, 0, none) := rfl
theorem i_125_33 : iRow 125 33 = some (.aload_n 0, 0, 0, 0, none) := rfl
theorem i_125_34 : iRow 125 34 = some (.getfield 15, 162, 10, 1, none) := rfl
theorem i_125_37 : iRow 125 37 = some (.iload 5, 0, 0, 0, none) := rfl
theorem i_125_39 : iRow 125 39 = some (.aload_n 0, 0, 0, 0, none) := rfl
theorem i_125_40 : iRow 125 40 = some (.invokevirtual 29, 174, 126, 1, none) := rfl
theorem i_125_43 : iRow 125 43 = some (.iload 6, 0, 0, 0, none) := rfl
theorem i_125_45 : iRow 125 45 = some (.irem, 0, 0, 0, none) := rfl
theorem i_125_46 : iRow 125 46 = some (.invokevirtual 33, 175, 110, 1, none) := rfl
theorem i_125_49 : iRow 125 49 = some (.istore 7, 0, 0, 0, none) := rfl
theorem i_125_51 : iRow 125 51 = some (.iload 7, 0, 0, 0, none) := rfl
theorem i_125_53 : iRow 125 53 = some (.ifCond .ge 4, 0, 0, 0, none) := rfl
theorem i_125_56 : iRow 125 56 = some (.return_, 0, 0, 0, none) := rfl
theorem i_125_57 : iRow 125 57 = some (.aload_n 0, 0, 0, 0, none) := rfl
theorem i_125_58 : iRow 125 58 = some (.iload_n 1, 0, 0, 0, none) := rfl
theorem i_125_59 : iRow 125 59 = some (.iload 7, 0, 0, 0, none) := rfl
theorem i_125_61 : iRow 125 61 = some (.iload 5, 0, 0, 0, none) := rfl
theorem i_125_63 : iRow 125 63 = some (.invokevirtual 37, 176, 127, 1, none) := rfl
theorem i_125_66 : iRow 125 66 = some (.aload_n 0, 0, 0, 0, none) := rfl
theorem i_125_67 : iRow 125 67 = some (.invokevirtual 29, 174, 126, 1, none) := rfl
theorem i_125_70 : iRow 125 70 = some (.bipush 10, 0, 0, 0, none) := rfl
theorem i_125_72 : iRow 125 72 = some (.irem, 0, 0, 0, none) := rfl
theorem i_125_73 : iRow 125 73 = some (.iload_n 3, 0, 0, 0, none) := rfl
theorem i_125_74 : iRow 125 74 = some (.if_icmp .ge 24, 0, 0, 0, none) := rfl
theorem i_125_77 : iRow 125 77 = some (.aload_n 0, 0, 0, 0, none) := rfl
theorem i_125_78 : iRow 125 78 = some (.iload_n 1, 0, 0, 0, none) := rfl
theorem i_125_79 : iRow 125 79 = some (.aload_n 0, 0, 0, 0, none) := rfl
theorem i_125_80 : iRow 125 80 = some (.getfield 9, 161, 10, 0, none) := rfl
theorem i_125_83 : iRow 125 83 = some (.iload_n 1, 0, 0, 0, none) := rfl
theorem i_125_84 : iRow 125 84 = some (.invokevirtual 41, 179, 35, 1, none) := rfl
theorem i_125_87 : iRow 125 87 = some (.iconst 1, 0, 0, 0, none) := rfl
theorem i_125_88 : iRow 125 88 = some (.isub, 0, 0, 0, none) := rfl
theorem i_125_89 : iRow 125 89 = some (.aload_n 0, 0, 0, 0, none) := rfl
theorem i_125_90 : iRow 125 90 = some (.invokevirtual 29, 174, 126, 1, none) := rfl
theorem i_125_93 : iRow 125 93 = some (.iconst 3, 0, 0, 0, none) := rfl
theorem i_125_94 : iRow 125 94 = some (.irem, 0, 0, 0, none) := rfl
theorem i_125_95 : iRow 125 95 = some (.invokevirtual 46, 180, 128, 1, none) := rfl
theorem i_125_98 : iRow 125 98 = some (.aload_n 0, 0, 0, 0, none) := rfl
theorem i_125_99 : iRow 125 99 = some (.getfield 15, 162, 10, 1, none) := rfl
theorem i_125_102 : iRow 125 102 = some (.iload 7, 0, 0, 0, none) := rfl
theorem i_125_104 : iRow 125 104 = some (.invokevirtual 49, 183, 58, 1, none) := rfl
theorem i_125_107 : iRow 125 107 = some (.pop, 0, 0, 0, none) := rfl
theorem i_125_108 : iRow 125 108 = some (.iinc 4 1, 0, 0, 0, none) := rfl
theorem i_125_111 : iRow 125 111 = some (.goto (-108), 0, 0, 0, none) := rfl
theorem i_125_114 : iRow 125 114 = some (.return_, 0, 0, 0, none) := rfl
theorem i_126_0 : iRow 126 0 = some (.aload_n 0, 0, 0, 0, (some (Jvm.ClassFile.FieldType.int))) := rfl
theorem i_126_1 : iRow 126 1 = some (.ldc 52, 0, 0, 0, (some (Jvm.ClassFile.FieldType.int))) := rfl
theorem i_126_3 : iRow 126 3 = some (.aload_n 0, 0, 0, 0, (some (Jvm.ClassFile.FieldType.int))) := rfl
theorem i_126_4 : iRow 126 4 = some (.getfield 19, 163, 10, 2, (some (Jvm.ClassFile.FieldType.int))) := rfl
theorem i_126_7 : iRow 126 7 = some (.imul, 0, 0, 0, (some (Jvm.ClassFile.FieldType.int))) := rfl
theorem i_126_8 : iRow 126 8 = some (.sipush 12345, 0, 0, 0, (some (Jvm.ClassFile.FieldType.int))) := rfl
theorem i_126_11 : iRow 126 11 = some (.iadd, 0, 0, 0, (some (Jvm.ClassFile.FieldType.int))) := rfl
theorem i_126_12 : iRow 126 12 = some (.putfield 19, 163, 10, 2, (some (Jvm.ClassFile.FieldType.int))) := rfl
theorem i_126_15 : iRow 126 15 = some (.aload_n 0, 0, 0, 0, (some (Jvm.ClassFile.FieldType.int))) := rfl
theorem i_126_16 : iRow 126 16 = some (.getfield 19, 163, 10, 2, (some (Jvm.ClassFile.FieldType.int))) := rfl
theorem i_126_19 : iRow 126 19 = some (.bipush 16, 0, 0, 0, (some (Jvm.ClassFile.FieldType.int))) := rfl
theorem i_126_21 : iRow 126 21 = some (.iushr, 0, 0, 0, (some (Jvm.ClassFile.FieldType.int))) := rfl
theorem i_126_22 : iRow 126 22 = some (.sipush 32767, 0, 0, 0, (some (Jvm.ClassFile.FieldType.int))) := rfl
theorem i_126_25 : iRow 126 25 = some (.iand, 0, 0, 0, (some (Jvm.ClassFile.FieldType.int))) := rfl
theorem i_126_26 : iRow 126 26 = some (.ireturn, 0, 0, 0, (some (Jvm.ClassFile.FieldType.int))) := rfl
theorem i_127_0 : iRow 127 0 = some (.iload_n 2, 0, 0, 0, none) := rfl
theorem i_127_1 : iRow 127 1 = some (.bipush 36, 0, 0, 0, none) := rfl
theorem i_127_3 : iRow 127 3 = some (.irem, 0, 0, 0, none) := rfl
theorem i_127_4 : iRow 127 4 = some (.istore 4, 0, 0, 0, none) := rfl
theorem i_127_6 : iRow 127 6 = some (.iload 4, 0, 0, 0, none) := rfl
theorem i_127_8 : iRow 127 8 = some (.bipush 6, 0, 0, 0, none) := rfl
theorem i_127_10 : iRow 127 10 = some (.idiv, 0, 0, 0, none) := rfl
theorem i_127_11 : iRow 127 11 = some (.aload_n 0, 0, 0, 0, none) := rfl
theorem i_127_12 : iRow 127 12 = some (.getfield 9, 161, 10, 0, none) := rfl
theorem i_127_15 : iRow 127 15 = some (.getfield 53, 35, 1, 6, none) := rfl
theorem i_127_18 : iRow 127 18 = some (.iload_n 1, 0, 0, 0, none) := rfl
theorem i_127_19 : iRow 127 19 = some (.invokestatic 57, 29, 28, 3, none) := rfl
theorem i_127_22 : iRow 127 22 = some (.iload_n 3, 0, 0, 0, none) := rfl
theorem i_127_23 : iRow 127 23 = some (.invokestatic 61, 30, 44, 3, none) := rfl
theorem i_127_26 : iRow 127 26 = some (.istore 5, 0, 0, 0, none) := rfl
theorem i_127_28 : iRow 127 28 = some (.aload_n 0, 0, 0, 0, none) := rfl
theorem i_127_29 : iRow 127 29 = some (.getfield 15, 162, 10, 1, none) := rfl
theorem i_127_32 : iRow 127 32 = some (.getfield 65, 57, 0, 1, none) := rfl
theorem i_127_35 : iRow 127 35 = some (.iload_n 2, 0, 0, 0, none) := rfl
theorem i_127_36 : iRow 127 36 = some (.bipush 36, 0, 0, 0, none) := rfl
theorem i_127_38 : iRow 127 38 = some (.idiv, 0, 0, 0, none) := rfl
theorem i_127_39 : iRow 127 39 = some (.invokestatic 57, 29, 28, 3, none) := rfl
theorem i_127_42 : iRow 127 42 = some (.invokestatic 68, 31, 49, 3, none) := rfl
theorem i_127_45 : iRow 127 45 = some (.istore 6, 0, 0, 0, none) := rfl
theorem i_127_47 : iRow 127 47 = some (.aload_n 0, 0, 0, 0, none) := rfl
theorem i_127_48 : iRow 127 48 = some (.getfield 9, 161, 10, 0, none) := rfl
theorem i_127_51 : iRow 127 51 = some (.iload_n 1, 0, 0, 0, none) := rfl
theorem i_127_52 : iRow 127 52 = some (.aload_n 0, 0, 0, 0, none) := rfl
theorem i_127_53 : iRow 127 53 = some (.getfield 9, 161, 10, 0, none) := rfl
theorem i_127_56 : iRow 127 56 = some (.iload_n 1, 0, 0, 0, none) := rfl
theorem i_127_57 : iRow 127 57 = some (.invokevirtual 71, 177, 118, 1, none) := rfl
theorem i_127_60 : iRow 127 60 = some (.iload 6, 0, 0, 0, none) := rfl
theorem i_127_62 : iRow 127 62 = some (.iconst (-1), 0, 0, 0, none) := rfl
theorem i_127_63 : iRow 127 63 = some (.iload 4, 0, 0, 0, none) := rfl
theorem i_127_65 : iRow 127 65 = some (.bipush 6, 0, 0, 0, none) := rfl
theorem i_127_67 : iRow 127 67 = some (.irem, 0, 0, 0, none) := rfl
theorem i_127_68 : iRow 127 68 = some (.iload 5, 0, 0, 0, none) := rfl
theorem i_127_70 : iRow 127 70 = some (.invokevirtual 74, 178, 119, 1, none) := rfl
theorem i_127_73 : iRow 127 73 = some (.return_, 0, 0, 0, none) := rfl
theorem i_128_0 : iRow 128 0 = some (.aload_n 0, 0, 0, 0, none) := rfl
theorem i_128_1 : iRow 128 1 = some (.getfield 9, 161, 10, 0, none) := rfl
theorem i_128_4 : iRow 128 4 = some (.iload_n 1, 0, 0, 0, none) := rfl
theorem i_128_5 : iRow 128 5 = some (.iload_n 2, 0, 0, 0, none) := rfl
theorem i_128_6 : iRow 128 6 = some (.iconst 0, 0, 0, 0, none) := rfl
theorem i_128_7 : iRow 128 7 = some (.invokevirtual 78, 181, 43, 1, none) := rfl
theorem i_128_10 : iRow 128 10 = some (.istore 4, 0, 0, 0, none) := rfl
theorem i_128_12 : iRow 128 12 = some (.aload_n 0, 0, 0, 0, none) := rfl
theorem i_128_13 : iRow 128 13 = some (.getfield 9, 161, 10, 0, none) := rfl
theorem i_128_16 : iRow 128 16 = some (.iload_n 1, 0, 0, 0, none) := rfl
theorem i_128_17 : iRow 128 17 = some (.iload_n 2, 0, 0, 0, none) := rfl
theorem i_128_18 : iRow 128 18 = some (.iconst 2, 0, 0, 0, none) := rfl
theorem i_128_19 : iRow 128 19 = some (.invokevirtual 78, 181, 43, 1, none) := rfl
theorem i_128_22 : iRow 128 22 = some (.istore 5, 0, 0, 0, none) := rfl
theorem i_128_24 : iRow 128 24 = some (.aload_n 0, 0, 0, 0, none) := rfl
theorem i_128_25 : iRow 128 25 = some (.getfield 9, 161, 10, 0, none) := rfl
theorem i_128_28 : iRow 128 28 = some (.iload_n 1, 0, 0, 0, none) := rfl
theorem i_128_29 : iRow 128 29 = some (.iload_n 2, 0, 0, 0, none) := rfl
theorem i_128_30 : iRow 128 30 = some (.iconst 3, 0, 0, 0, none) := rfl
theorem i_128_31 : iRow 128 31 = some (.invokevirtual 78, 181, 43, 1, none) := rfl
theorem i_128_34 : iRow 128 34 = some (.istore 6, 0, 0, 0, none) := rfl
theorem i_128_36 : iRow 128 36 = some (.iload_n 3, 0, 0, 0, none) := rfl
theorem i_128_37 : iRow 128 37 = some (.ifCond .ne 30, 0, 0, 0, none) := rfl
theorem i_128_40 : iRow 128 40 = some (.iload 4, 0, 0, 0, none) := rfl
theorem i_128_42 : iRow 128 42 = some (.iconst 1, 0, 0, 0, none) := rfl
theorem i_128_43 : iRow 128 43 = some (.iadd, 0, 0, 0, none) := rfl
theorem i_128_44 : iRow 128 44 = some (.aload_n 0, 0, 0, 0, none) := rfl
theorem i_128_45 : iRow 128 45 = some (.getfield 9, 161, 10, 0, none) := rfl
theorem i_128_48 : iRow 128 48 = some (.getfield 81, 21, 1, 0, none) := rfl
theorem i_128_51 : iRow 128 51 = some (.if_icmp .lt 7, 0, 0, 0, none) := rfl
theorem i_128_54 : iRow 128 54 = some (.iconst 0, 0, 0, 0, none) := rfl
theorem i_128_55 : iRow 128 55 = some (.goto 7, 0, 0, 0, none) := rfl
theorem i_128_58 : iRow 128 58 = some (.iload 4, 0, 0, 0, none) := rfl
theorem i_128_60 : iRow 128 60 = some (.iconst 1, 0, 0, 0, none) := rfl
theorem i_128_61 : iRow 128 61 = some (.iadd, 0, 0, 0, none) := rfl
theorem i_128_62 : iRow 128 62 = some (.istore 4, 0, 0, 0, none) := rfl
theorem i_128_64 : iRow 128 64 = some (.goto 25, 0, 0, 0, none) := rfl
theorem i_128_67 : iRow 128 67 = some (.iload_n 3, 0, 0, 0, none) := rfl
theorem i_128_68 : iRow 128 68 = some (.iconst 1, 0, 0, 0, none) := rfl
theorem i_128_69 : iRow 128 69 = some (.if_icmp .ne 13, 0, 0, 0, none) := rfl
theorem i_128_72 : iRow 128 72 = some (.iload 5, 0, 0, 0, none) := rfl
theorem i_128_74 : iRow 128 74 = some (.invokestatic 84, 182, 129, 0, none) := rfl
theorem i_128_77 : iRow 128 77 = some (.istore 5, 0, 0, 0, none) := rfl
theorem i_128_79 : iRow 128 79 = some (.goto 10, 0, 0, 0, none) := rfl
theorem i_128_82 : iRow 128 82 = some (.iload 6, 0, 0, 0, none) := rfl
theorem i_128_84 : iRow 128 84 = some (.invokestatic 84, 182, 129, 0, none) := rfl
theorem i_128_87 : iRow 128 87 = some (.istore 6, 0, 0, 0, none) := rfl
theorem i_128_89 : iRow 128 89 = some (.aload_n 0, 0, 0, 0, none) := rfl
theorem i_128_90 : iRow 128 90 = some (.getfield 9, 161, 10, 0, none) := rfl
theorem i_128_93 : iRow 128 93 = some (.iload_n 1, 0, 0, 0, none) := rfl
theorem i_128_94 : iRow 128 94 = some (.iload_n 2, 0, 0, 0, none) := rfl
theorem i_128_95 : iRow 128 95 = some (.iload 4, 0, 0, 0, none) := rfl
theorem i_128_97 : iRow 128 97 = some (.iconst (-1), 0, 0, 0, none) := rfl
theorem i_128_98 : iRow 128 98 = some (.iload 5, 0, 0, 0, none) := rfl
theorem i_128_100 : iRow 128 100 = some (.iload 6, 0, 0, 0, none) := rfl
theorem i_128_102 : iRow 128 102 = some (.invokevirtual 74, 178, 119, 1, none) := rfl
theorem i_128_105 : iRow 128 105 = some (.return_, 0, 0, 0, none) := rfl
theorem i_129_0 : iRow 129 0 = some (.iload_n 0, 0, 0, 0, (some (Jvm.ClassFile.FieldType.int))) := rfl
theorem i_129_1 : iRow 129 1 = some (.iconst 5, 0, 0, 0, (some (Jvm.ClassFile.FieldType.int))) := rfl
theorem i_129_2 : iRow 129 2 = some (.if_icmp .ne 9, 0, 0, 0, (some (Jvm.ClassFile.FieldType.int))) := rfl
theorem i_129_5 : iRow 129 5 = some (.iload_n 0, 0, 0, 0, (some (Jvm.ClassFile.FieldType.int))) := rfl
theorem i_129_6 : iRow 129 6 = some (.iconst 1, 0, 0, 0, (some (Jvm.ClassFile.FieldType.int))) := rfl
theorem i_129_7 : iRow 129 7 = some (.isub, 0, 0, 0, (some (Jvm.ClassFile.FieldType.int))) := rfl
theorem i_129_8 : iRow 129 8 = some (.goto 6, 0, 0, 0, (some (Jvm.ClassFile.FieldType.int))) := rfl
theorem i_129_11 : iRow 129 11 = some (.iload_n 0, 0, 0, 0, (some (Jvm.ClassFile.FieldType.int))) := rfl
theorem i_129_12 : iRow 129 12 = some (.iconst 1, 0, 0, 0, (some (Jvm.ClassFile.FieldType.int))) := rfl
theorem i_129_13 : iRow 129 13 = some (.iadd, 0, 0, 0, (some (Jvm.ClassFile.FieldType.int))) := rfl
theorem i_129_14 : iRow 129 14 = some (.ireturn, 0, 0, 0, (some (Jvm.ClassFile.FieldType.int))) := rfl
theorem s_fill0 {O : pOut} {d kc ks : Nat} {Q : pRes → Prop} {es : PH} {sd bk mv sl : Int} {lp : Nat} (hs_es : sh es) (ho_es : es[lp]? = some (.inr (10, [.ref 71, .ref 93, .int (zI sd)]))) (h1 : 0 ≤ bk ∧ bk ≤ 2) (h2 : 1 ≤ mv ∧ mv ≤ 24) (h3 : 0 ≤ sl ∧ sl ≤ 9)
    (K1 : aW O d 125 kc ks Q (3, [some (.ref (64 + lp)), some (.int (zI bk)), some (.int (zI mv)), some (.int (zI sl)), some (.int (zI 0)), none, none, none], [], es)) :
    aW O d 125 kc ks Q (0, [some (.ref (64 + lp)), some (.int (zI bk)), some (.int (zI mv)), some (.int (zI sl)), none, none, none, none], [], es) := by
  refine x0 (r := (1, [some (.ref (64 + lp)), some (.int (zI bk)), some (.int (zI mv)), some (.int (zI sl)), none, none, none, none], [.int (zI 0)], es)) i_125_0 (by rfl) ?_
  refine x0 (r := (3, [some (.ref (64 + lp)), some (.int (zI bk)), some (.int (zI mv)), some (.int (zI sl)), some (.int (zI 0)), none, none, none], [], es)) i_125_1 rfl ?_
  exact K1

theorem s_fill3 {O : pOut} {d kc ks : Nat} {Q : pRes → Prop} {es : PH} {sd bk mv sl n : Int} {lp : Nat} {x5 x6 x7 : Option Value} (hs_es : sh es) (ho_es : es[lp]? = some (.inr (10, [.ref 71, .ref 93, .int (zI sd)]))) (h1 : 0 ≤ bk ∧ bk ≤ 2) (h2 : 1 ≤ mv ∧ mv ≤ 24) (h3 : 0 ≤ sl ∧ sl ≤ 9) (h4 : 0 ≤ n ∧ n ≤ 24)
    (K1 : mv ≤ n → Q (.inl (none), es, kc, ks))
    (K2 : ¬ (mv ≤ n) → ∀ v2 : Int, v2 = (zI n &&& zI 1).toInt → aW O d 125 kc ks Q (21, [some (.ref (64 + lp)), some (.int (zI bk)), some (.int (zI mv)), some (.int (zI sl)), some (.int (zI n)), some (.int (zI v2)), x6, x7], [.int (zI v2), .ref 93], es)) :
    aW O d 125 kc ks Q (3, [some (.ref (64 + lp)), some (.int (zI bk)), some (.int (zI mv)), some (.int (zI sl)), some (.int (zI n)), x5, x6, x7], [], es) := by
  refine x0 (r := (5, [some (.ref (64 + lp)), some (.int (zI bk)), some (.int (zI mv)), some (.int (zI sl)), some (.int (zI n)), x5, x6, x7], [.int (zI n)], es)) i_125_3 rfl ?_
  refine x0 (r := (6, [some (.ref (64 + lp)), some (.int (zI bk)), some (.int (zI mv)), some (.int (zI sl)), some (.int (zI n)), x5, x6, x7], [.int (zI mv), .int (zI n)], es)) i_125_5 rfl ?_
  by_cases c1 : mv ≤ n
  · refine x_cmpT i_125_6 (by unfold i32 iLO iHI; omega) (by unfold i32 iLO iHI; omega) rfl (by simp only [zC, cR]; omega) ?_
    refine x_ret (v := none) i_125_114 rfl (fun _ => rfl) rfl rfl rfl ?_
    exact K1 c1
  · refine x_cmpF i_125_6 (by unfold i32 iLO iHI; omega) (by unfold i32 iLO iHI; omega) rfl (by simp only [zC, cR]; omega) ?_
    refine x0 (r := (11, [some (.ref (64 + lp)), some (.int (zI bk)), some (.int (zI mv)), some (.int (zI sl)), some (.int (zI n)), x5, x6, x7], [.int (zI n)], es)) i_125_9 rfl ?_
    refine x0 (r := (12, [some (.ref (64 + lp)), some (.int (zI bk)), some (.int (zI mv)), some (.int (zI sl)), some (.int (zI n)), x5, x6, x7], [.int (zI 1), .int (zI n)], es)) i_125_11 (by rfl) ?_
    refine x_op i_125_12 (w := (zI n &&& zI 1)) rfl rfl ?_
    obtain ⟨v2, e_v2⟩ : ∃ z : Int, z = (zI n &&& zI 1).toInt := ⟨_, rfl⟩
    rw [← e_v2]
    have r_v2 : iLO ≤ v2 ∧ v2 ≤ iHI := by rw [e_v2]; exact i32_rng _
    unfold iLO iHI at r_v2
    refine x0 (r := (15, [some (.ref (64 + lp)), some (.int (zI bk)), some (.int (zI mv)), some (.int (zI sl)), some (.int (zI n)), some (.int (zI v2)), x6, x7], [], es)) i_125_13 rfl ?_
    refine x0 (r := (16, [some (.ref (64 + lp)), some (.int (zI bk)), some (.int (zI mv)), some (.int (zI sl)), some (.int (zI n)), some (.int (zI v2)), x6, x7], [.ref (64 + lp)], es)) i_125_15 rfl ?_
    refine x_getp i_125_16 ho_es rfl ?_
    show aW _ _ _ _ _ _ (19, [some (.ref (64 + lp)), some (.int (zI bk)), some (.int (zI mv)), some (.int (zI sl)), some (.int (zI n)), some (.int (zI v2)), x6, x7], [.ref 93], es)
    refine x0 (r := (21, [some (.ref (64 + lp)), some (.int (zI bk)), some (.int (zI mv)), some (.int (zI sl)), some (.int (zI n)), some (.int (zI v2)), x6, x7], [.int (zI v2), .ref 93], es)) i_125_19 rfl ?_
    exact K2 c1 v2 e_v2

theorem s_fill24 {O : pOut} {d kc ks : Nat} {Q : pRes → Prop} {es : PH} {sd bk mv sl n si a : Int} {lp : Nat} {x6 x7 : Option Value} (hs_es : sh es) (ho_es : es[lp]? = some (.inr (10, [.ref 71, .ref 93, .int (zI sd)]))) (h1 : 0 ≤ bk ∧ bk ≤ 2) (h2 : 1 ≤ mv ∧ mv ≤ 24) (h3 : 0 ≤ sl ∧ sl ≤ 9) (h4 : 0 ≤ n ∧ n ≤ 24) (h5 : -2147483648 ≤ a ∧ a ≤ 2147483647)
    (K1 : 1 ≤ a → aW O d 125 kc ks Q (40, [some (.ref (64 + lp)), some (.int (zI bk)), some (.int (zI mv)), some (.int (zI sl)), some (.int (zI n)), some (.int (zI si)), some (.int (zI a)), x7], [.ref (64 + lp), .int (zI si), .ref 93], es))
    (K2 : ¬ (1 ≤ a) → Q (.inl (none), es, kc, ks)) :
    aW O d 125 kc ks Q (24, [some (.ref (64 + lp)), some (.int (zI bk)), some (.int (zI mv)), some (.int (zI sl)), some (.int (zI n)), some (.int (zI si)), x6, x7], [.int (zI a)], es) := by
  refine x0 (r := (26, [some (.ref (64 + lp)), some (.int (zI bk)), some (.int (zI mv)), some (.int (zI sl)), some (.int (zI n)), some (.int (zI si)), some (.int (zI a)), x7], [], es)) i_125_24 rfl ?_
  refine x0 (r := (28, [some (.ref (64 + lp)), some (.int (zI bk)), some (.int (zI mv)), some (.int (zI sl)), some (.int (zI n)), some (.int (zI si)), some (.int (zI a)), x7], [.int (zI a)], es)) i_125_26 rfl ?_
  refine x0 (r := (29, [some (.ref (64 + lp)), some (.int (zI bk)), some (.int (zI mv)), some (.int (zI sl)), some (.int (zI n)), some (.int (zI si)), some (.int (zI a)), x7], [.int (zI 1), .int (zI a)], es)) i_125_28 (by rfl) ?_
  by_cases c1 : 1 ≤ a
  · refine x_cmpT i_125_29 (by unfold i32 iLO iHI; omega) (by unfold i32 iLO iHI; omega) rfl (by simp only [zC, cR]; omega) ?_
    refine x0 (r := (34, [some (.ref (64 + lp)), some (.int (zI bk)), some (.int (zI mv)), some (.int (zI sl)), some (.int (zI n)), some (.int (zI si)), some (.int (zI a)), x7], [.ref (64 + lp)], es)) i_125_33 rfl ?_
    refine x_getp i_125_34 ho_es rfl ?_
    show aW _ _ _ _ _ _ (37, [some (.ref (64 + lp)), some (.int (zI bk)), some (.int (zI mv)), some (.int (zI sl)), some (.int (zI n)), some (.int (zI si)), some (.int (zI a)), x7], [.ref 93], es)
    refine x0 (r := (39, [some (.ref (64 + lp)), some (.int (zI bk)), some (.int (zI mv)), some (.int (zI sl)), some (.int (zI n)), some (.int (zI si)), some (.int (zI a)), x7], [.int (zI si), .ref 93], es)) i_125_37 rfl ?_
    refine x0 (r := (40, [some (.ref (64 + lp)), some (.int (zI bk)), some (.int (zI mv)), some (.int (zI sl)), some (.int (zI n)), some (.int (zI si)), some (.int (zI a)), x7], [.ref (64 + lp), .int (zI si), .ref 93], es)) i_125_39 rfl ?_
    exact K1 c1
  · refine x_cmpF i_125_29 (by unfold i32 iLO iHI; omega) (by unfold i32 iLO iHI; omega) rfl (by simp only [zC, cR]; omega) ?_
    refine x_ret (v := none) i_125_32 rfl (fun _ => rfl) rfl rfl rfl ?_
    exact K2 c1

theorem s_fill43 {O : pOut} {d kc ks : Nat} {Q : pRes → Prop} {es : PH} {sd bk mv sl n si al a : Int} {lp : Nat} {x7 : Option Value} (hs_es : sh es) (ho_es : es[lp]? = some (.inr (10, [.ref 71, .ref 93, .int (zI sd)]))) (h1 : 0 ≤ bk ∧ bk ≤ 2) (h2 : 1 ≤ mv ∧ mv ≤ 24) (h3 : 0 ≤ sl ∧ sl ≤ 9) (h4 : 0 ≤ n ∧ n ≤ 24) (h5 : 0 ≤ a ∧ a ≤ 32767) (h6 : 1 ≤ al ∧ al ≤ 2147483647)
    (K1 : aW O d 125 kc ks Q (46, [some (.ref (64 + lp)), some (.int (zI bk)), some (.int (zI mv)), some (.int (zI sl)), some (.int (zI n)), some (.int (zI si)), some (.int (zI al)), x7], [.int (zI (a % al)), .int (zI si), .ref 93], es)) :
    aW O d 125 kc ks Q (43, [some (.ref (64 + lp)), some (.int (zI bk)), some (.int (zI mv)), some (.int (zI sl)), some (.int (zI n)), some (.int (zI si)), some (.int (zI al)), x7], [.int (zI a), .int (zI si), .ref 93], es) := by
  refine x0 (r := (45, [some (.ref (64 + lp)), some (.int (zI bk)), some (.int (zI mv)), some (.int (zI sl)), some (.int (zI n)), some (.int (zI si)), some (.int (zI al)), x7], [.int (zI al), .int (zI a), .int (zI si), .ref 93], es)) i_125_43 rfl ?_
  refine x_iremn i_125_45 (by omega) (by unfold i32 iLO iHI; omega) (by unfold i32 iLO iHI; omega) (by omega) ?_
  exact K1

theorem s_fill49 {O : pOut} {d kc ks : Nat} {Q : pRes → Prop} {es : PH} {sd bk mv sl n si al a : Int} {lp : Nat} {x7 : Option Value} (hs_es : sh es) (ho_es : es[lp]? = some (.inr (10, [.ref 71, .ref 93, .int (zI sd)]))) (h1 : 0 ≤ bk ∧ bk ≤ 2) (h2 : 1 ≤ mv ∧ mv ≤ 24) (h3 : 0 ≤ sl ∧ sl ≤ 9) (h4 : 0 ≤ n ∧ n ≤ 24) (h5 : -2147483648 ≤ a ∧ a ≤ 2147483647)
    (K1 : 0 ≤ a → aW O d 125 kc ks Q (63, [some (.ref (64 + lp)), some (.int (zI bk)), some (.int (zI mv)), some (.int (zI sl)), some (.int (zI n)), some (.int (zI si)), some (.int (zI al)), some (.int (zI a))], [.int (zI si), .int (zI a), .int (zI bk), .ref (64 + lp)], es))
    (K2 : ¬ (0 ≤ a) → Q (.inl (none), es, kc, ks)) :
    aW O d 125 kc ks Q (49, [some (.ref (64 + lp)), some (.int (zI bk)), some (.int (zI mv)), some (.int (zI sl)), some (.int (zI n)), some (.int (zI si)), some (.int (zI al)), x7], [.int (zI a)], es) := by
  refine x0 (r := (51, [some (.ref (64 + lp)), some (.int (zI bk)), some (.int (zI mv)), some (.int (zI sl)), some (.int (zI n)), some (.int (zI si)), some (.int (zI al)), some (.int (zI a))], [], es)) i_125_49 rfl ?_
  refine x0 (r := (53, [some (.ref (64 + lp)), some (.int (zI bk)), some (.int (zI mv)), some (.int (zI sl)), some (.int (zI n)), some (.int (zI si)), some (.int (zI al)), some (.int (zI a))], [.int (zI a)], es)) i_125_51 rfl ?_
  by_cases c1 : 0 ≤ a
  · refine x_ifT i_125_53 (by unfold i32 iLO iHI; omega) rfl (by simp only [zC, cR]; omega) ?_
    refine x0 (r := (58, [some (.ref (64 + lp)), some (.int (zI bk)), some (.int (zI mv)), some (.int (zI sl)), some (.int (zI n)), some (.int (zI si)), some (.int (zI al)), some (.int (zI a))], [.ref (64 + lp)], es)) i_125_57 rfl ?_
    refine x0 (r := (59, [some (.ref (64 + lp)), some (.int (zI bk)), some (.int (zI mv)), some (.int (zI sl)), some (.int (zI n)), some (.int (zI si)), some (.int (zI al)), some (.int (zI a))], [.int (zI bk), .ref (64 + lp)], es)) i_125_58 rfl ?_
    refine x0 (r := (61, [some (.ref (64 + lp)), some (.int (zI bk)), some (.int (zI mv)), some (.int (zI sl)), some (.int (zI n)), some (.int (zI si)), some (.int (zI al)), some (.int (zI a))], [.int (zI a), .int (zI bk), .ref (64 + lp)], es)) i_125_59 rfl ?_
    refine x0 (r := (63, [some (.ref (64 + lp)), some (.int (zI bk)), some (.int (zI mv)), some (.int (zI sl)), some (.int (zI n)), some (.int (zI si)), some (.int (zI al)), some (.int (zI a))], [.int (zI si), .int (zI a), .int (zI bk), .ref (64 + lp)], es)) i_125_61 rfl ?_
    exact K1 c1
  · refine x_ifF i_125_53 (by unfold i32 iLO iHI; omega) rfl (by simp only [zC, cR]; omega) ?_
    refine x_ret (v := none) i_125_56 rfl (fun _ => rfl) rfl rfl rfl ?_
    exact K2 c1

theorem s_fill66 {O : pOut} {d kc ks : Nat} {Q : pRes → Prop} {es : PH} {sd bk mv sl n si al mo : Int} {lp : Nat} (hs_es : sh es) (ho_es : es[lp]? = some (.inr (10, [.ref 71, .ref 93, .int (zI sd)]))) (h1 : 0 ≤ bk ∧ bk ≤ 2) (h2 : 1 ≤ mv ∧ mv ≤ 24) (h3 : 0 ≤ sl ∧ sl ≤ 9) (h4 : 0 ≤ n ∧ n ≤ 24)
    (K1 : aW O d 125 kc ks Q (67, [some (.ref (64 + lp)), some (.int (zI bk)), some (.int (zI mv)), some (.int (zI sl)), some (.int (zI n)), some (.int (zI si)), some (.int (zI al)), some (.int (zI mo))], [.ref (64 + lp)], es)) :
    aW O d 125 kc ks Q (66, [some (.ref (64 + lp)), some (.int (zI bk)), some (.int (zI mv)), some (.int (zI sl)), some (.int (zI n)), some (.int (zI si)), some (.int (zI al)), some (.int (zI mo))], [], es) := by
  refine x0 (r := (67, [some (.ref (64 + lp)), some (.int (zI bk)), some (.int (zI mv)), some (.int (zI sl)), some (.int (zI n)), some (.int (zI si)), some (.int (zI al)), some (.int (zI mo))], [.ref (64 + lp)], es)) i_125_66 rfl ?_
  exact K1

theorem s_fill70 {O : pOut} {d kc ks : Nat} {Q : pRes → Prop} {es : PH} {sd bk mv sl n si al mo a : Int} {lp : Nat} (hs_es : sh es) (ho_es : es[lp]? = some (.inr (10, [.ref 71, .ref 93, .int (zI sd)]))) (hT_es : hOK tT es) (h1 : 0 ≤ bk ∧ bk ≤ 2) (h2 : 1 ≤ mv ∧ mv ≤ 24) (h3 : 0 ≤ sl ∧ sl ≤ 9) (h4 : 0 ≤ n ∧ n ≤ 24) (h5 : 0 ≤ a ∧ a ≤ 32767)
    (K1 : sl ≤ (a % 10) → aW O (d + 2) 125 kc ks Q (98, [some (.ref (64 + lp)), some (.int (zI bk)), some (.int (zI mv)), some (.int (zI sl)), some (.int (zI n)), some (.int (zI si)), some (.int (zI al)), some (.int (zI mo))], [], es))
    (K2 : ¬ (sl ≤ (a % 10)) → ∀ v2 : Int, v2 = (gA es 13 bk.toNat).toInt → aW O (d + 2) 125 kc ks Q (90, [some (.ref (64 + lp)), some (.int (zI bk)), some (.int (zI mv)), some (.int (zI sl)), some (.int (zI n)), some (.int (zI si)), some (.int (zI al)), some (.int (zI mo))], [.ref (64 + lp), .int (zI (v2 - 1)), .int (zI bk), .ref (64 + lp)], es)) :
    aW O (d + 2) 125 kc ks Q (70, [some (.ref (64 + lp)), some (.int (zI bk)), some (.int (zI mv)), some (.int (zI sl)), some (.int (zI n)), some (.int (zI si)), some (.int (zI al)), some (.int (zI mo))], [.int (zI a)], es) := by
  refine x0 (r := (72, [some (.ref (64 + lp)), some (.int (zI bk)), some (.int (zI mv)), some (.int (zI sl)), some (.int (zI n)), some (.int (zI si)), some (.int (zI al)), some (.int (zI mo))], [.int (zI 10), .int (zI a)], es)) i_125_70 (by rfl) ?_
  refine x_iremn i_125_72 (by omega) (by unfold i32 iLO iHI; omega) (by unfold i32 iLO iHI; omega) (by omega) ?_
  refine x0 (r := (74, [some (.ref (64 + lp)), some (.int (zI bk)), some (.int (zI mv)), some (.int (zI sl)), some (.int (zI n)), some (.int (zI si)), some (.int (zI al)), some (.int (zI mo))], [.int (zI sl), .int (zI (a % 10))], es)) i_125_73 rfl ?_
  by_cases c1 : sl ≤ (a % 10)
  · refine x_cmpT i_125_74 (by unfold i32 iLO iHI; omega) (by unfold i32 iLO iHI; omega) rfl (by simp only [zC, cR]; omega) ?_
    exact K1 c1
  · refine x_cmpF i_125_74 (by unfold i32 iLO iHI; omega) (by unfold i32 iLO iHI; omega) rfl (by simp only [zC, cR]; omega) ?_
    refine x0 (r := (78, [some (.ref (64 + lp)), some (.int (zI bk)), some (.int (zI mv)), some (.int (zI sl)), some (.int (zI n)), some (.int (zI si)), some (.int (zI al)), some (.int (zI mo))], [.ref (64 + lp)], es)) i_125_77 rfl ?_
    refine x0 (r := (79, [some (.ref (64 + lp)), some (.int (zI bk)), some (.int (zI mv)), some (.int (zI sl)), some (.int (zI n)), some (.int (zI si)), some (.int (zI al)), some (.int (zI mo))], [.int (zI bk), .ref (64 + lp)], es)) i_125_78 rfl ?_
    refine x0 (r := (80, [some (.ref (64 + lp)), some (.int (zI bk)), some (.int (zI mv)), some (.int (zI sl)), some (.int (zI n)), some (.int (zI si)), some (.int (zI al)), some (.int (zI mo))], [.ref (64 + lp), .int (zI bk), .ref (64 + lp)], es)) i_125_79 rfl ?_
    refine x_getp i_125_80 ho_es rfl ?_
    show aW _ _ _ _ _ _ (83, [some (.ref (64 + lp)), some (.int (zI bk)), some (.int (zI mv)), some (.int (zI sl)), some (.int (zI n)), some (.int (zI si)), some (.int (zI al)), some (.int (zI mo))], [.ref 71, .int (zI bk), .ref (64 + lp)], es)
    refine x0 (r := (84, [some (.ref (64 + lp)), some (.int (zI bk)), some (.int (zI mv)), some (.int (zI sl)), some (.int (zI n)), some (.int (zI si)), some (.int (zI al)), some (.int (zI mo))], [.int (zI bk), .ref 71, .int (zI bk), .ref (64 + lp)], es)) i_125_83 rfl ?_
    refine x_call (vs := [.ref 71, .int (zI bk)]) (rs := [.int (zI bk), .ref (64 + lp)]) i_125_84 rfl (fun _ => rfl) rfl rfl rfl rfl rfl (pCall_v (p := 7) hs_es rfl rfl rfl rfl rfl (by decide) rfl rfl rfl rfl rfl) ?_
    show aW _ _ _ _ _ _ (0, [some (.ref 71), some (.int (zI bk))], [], es)
    refine x0 (r := (1, [some (.ref 71), some (.int (zI bk))], [.ref 71], es)) i_35_0 rfl ?_
    refine x_getr (p := 7) (k := 77) i_35_1 hs_es rfl rfl ?_
    show aW _ _ _ _ _ _ (4, [some (.ref 71), some (.int (zI bk))], [.ref 77], es)
    refine x0 (r := (5, [some (.ref 71), some (.int (zI bk))], [.int (zI bk), .ref 77], es)) i_35_4 rfl ?_
    refine x_call (vs := [.ref 77, .int (zI bk)]) (rs := []) i_35_5 rfl (fun _ => rfl) rfl rfl rfl rfl rfl rfl ?_
    show aW _ _ _ _ _ _ (0, [some (.ref 77), some (.int (zI bk))], [], es)
    refine x0 (r := (1, [some (.ref 77), some (.int (zI bk))], [.int (zI bk)], es)) i_28_0 rfl ?_
    refine x_ifF i_28_1 (by unfold i32 iLO iHI; omega) rfl (by simp only [zC, cR]; omega) ?_
    refine x0 (r := (5, [some (.ref 77), some (.int (zI bk))], [.int (zI bk)], es)) i_28_4 rfl ?_
    refine x0 (r := (6, [some (.ref 77), some (.int (zI bk))], [.ref 77, .int (zI bk)], es)) i_28_5 rfl ?_
    refine x_alen (p := 13) (n := 3) i_28_6 hs_es rfl ?_
    refine x_cmpF i_28_7 (by unfold i32 iLO iHI; omega) (by unfold i32 iLO iHI; omega) rfl (by simp only [zC, cR]; omega) ?_
    refine x0 (r := (11, [some (.ref 77), some (.int (zI bk))], [.ref 77], es)) i_28_10 rfl ?_
    refine x0 (r := (12, [some (.ref 77), some (.int (zI bk))], [.int (zI bk), .ref 77], es)) i_28_11 rfl ?_
    refine x_iald (p := 13) i_28_12 hs_es rfl (by unfold i32 iLO iHI; omega) (by omega) (by omega) ?_
    obtain ⟨v2, e_v2⟩ : ∃ z : Int, z = (gA es 13 bk.toNat).toInt := ⟨_, rfl⟩
    rw [← e_v2]
    have r_v2 : iLO ≤ v2 ∧ v2 ≤ iHI := by rw [e_v2]; exact i32_rng _
    unfold iLO iHI at r_v2
    have b_v2 : (0 : Int) ≤ v2 ∧ v2 ≤ (24 : Int) := by rw [e_v2]; exact gA_bd hT_es (p := 13) (k := bk.toNat) rfl (by omega) (by decide)
    refine x0 (r := (17, [some (.ref 77), some (.int (zI bk))], [.int (zI v2)], es)) i_28_13 rfl ?_
    refine x_ret (v := some (.int (zI v2))) i_28_17 rfl (fun _ => rfl) rfl rfl rfl ?_
    show aW _ _ _ _ _ _ (8, [some (.ref 71), some (.int (zI bk))], [.int (zI v2)], es)
    refine x_ret (v := some (.int (zI v2))) i_35_8 rfl (fun _ => rfl) rfl rfl rfl ?_
    show aW _ _ _ _ _ _ (87, [some (.ref (64 + lp)), some (.int (zI bk)), some (.int (zI mv)), some (.int (zI sl)), some (.int (zI n)), some (.int (zI si)), some (.int (zI al)), some (.int (zI mo))], [.int (zI v2), .int (zI bk), .ref (64 + lp)], es)
    refine x0 (r := (88, [some (.ref (64 + lp)), some (.int (zI bk)), some (.int (zI mv)), some (.int (zI sl)), some (.int (zI n)), some (.int (zI si)), some (.int (zI al)), some (.int (zI mo))], [.int (zI 1), .int (zI v2), .int (zI bk), .ref (64 + lp)], es)) i_125_87 (by rfl) ?_
    refine x_isub i_125_88 ?_
    refine x0 (r := (90, [some (.ref (64 + lp)), some (.int (zI bk)), some (.int (zI mv)), some (.int (zI sl)), some (.int (zI n)), some (.int (zI si)), some (.int (zI al)), some (.int (zI mo))], [.ref (64 + lp), .int (zI (v2 - 1)), .int (zI bk), .ref (64 + lp)], es)) i_125_89 rfl ?_
    exact K2 c1 v2 e_v2

theorem s_fill93 {O : pOut} {d kc ks : Nat} {Q : pRes → Prop} {es : PH} {sd bk mv sl n si al mo a nn : Int} {lp : Nat} (hs_es : sh es) (ho_es : es[lp]? = some (.inr (10, [.ref 71, .ref 93, .int (zI sd)]))) (h1 : 0 ≤ bk ∧ bk ≤ 2) (h2 : 1 ≤ mv ∧ mv ≤ 24) (h3 : 0 ≤ sl ∧ sl ≤ 9) (h4 : 0 ≤ n ∧ n ≤ 24) (h5 : 0 ≤ a ∧ a ≤ 32767)
    (K1 : aW O d 125 kc ks Q (95, [some (.ref (64 + lp)), some (.int (zI bk)), some (.int (zI mv)), some (.int (zI sl)), some (.int (zI n)), some (.int (zI si)), some (.int (zI al)), some (.int (zI mo))], [.int (zI (a % 3)), .int (zI nn), .int (zI bk), .ref (64 + lp)], es)) :
    aW O d 125 kc ks Q (93, [some (.ref (64 + lp)), some (.int (zI bk)), some (.int (zI mv)), some (.int (zI sl)), some (.int (zI n)), some (.int (zI si)), some (.int (zI al)), some (.int (zI mo))], [.int (zI a), .int (zI nn), .int (zI bk), .ref (64 + lp)], es) := by
  refine x0 (r := (94, [some (.ref (64 + lp)), some (.int (zI bk)), some (.int (zI mv)), some (.int (zI sl)), some (.int (zI n)), some (.int (zI si)), some (.int (zI al)), some (.int (zI mo))], [.int (zI 3), .int (zI a), .int (zI nn), .int (zI bk), .ref (64 + lp)], es)) i_125_93 (by rfl) ?_
  refine x_iremn i_125_94 (by omega) (by unfold i32 iLO iHI; omega) (by unfold i32 iLO iHI; omega) (by omega) ?_
  exact K1

theorem s_fill98 {O : pOut} {d kc ks : Nat} {Q : pRes → Prop} {es : PH} {sd bk mv sl n si al mo : Int} {lp : Nat} (hs_es : sh es) (ho_es : es[lp]? = some (.inr (10, [.ref 71, .ref 93, .int (zI sd)]))) (h1 : 0 ≤ bk ∧ bk ≤ 2) (h2 : 1 ≤ mv ∧ mv ≤ 24) (h3 : 0 ≤ sl ∧ sl ≤ 9) (h4 : 0 ≤ n ∧ n ≤ 24)
    (K1 : aW O d 125 kc ks Q (104, [some (.ref (64 + lp)), some (.int (zI bk)), some (.int (zI mv)), some (.int (zI sl)), some (.int (zI n)), some (.int (zI si)), some (.int (zI al)), some (.int (zI mo))], [.int (zI mo), .ref 93], es)) :
    aW O d 125 kc ks Q (98, [some (.ref (64 + lp)), some (.int (zI bk)), some (.int (zI mv)), some (.int (zI sl)), some (.int (zI n)), some (.int (zI si)), some (.int (zI al)), some (.int (zI mo))], [], es) := by
  refine x0 (r := (99, [some (.ref (64 + lp)), some (.int (zI bk)), some (.int (zI mv)), some (.int (zI sl)), some (.int (zI n)), some (.int (zI si)), some (.int (zI al)), some (.int (zI mo))], [.ref (64 + lp)], es)) i_125_98 rfl ?_
  refine x_getp i_125_99 ho_es rfl ?_
  show aW _ _ _ _ _ _ (102, [some (.ref (64 + lp)), some (.int (zI bk)), some (.int (zI mv)), some (.int (zI sl)), some (.int (zI n)), some (.int (zI si)), some (.int (zI al)), some (.int (zI mo))], [.ref 93], es)
  refine x0 (r := (104, [some (.ref (64 + lp)), some (.int (zI bk)), some (.int (zI mv)), some (.int (zI sl)), some (.int (zI n)), some (.int (zI si)), some (.int (zI al)), some (.int (zI mo))], [.int (zI mo), .ref 93], es)) i_125_102 rfl ?_
  exact K1

theorem s_fill107 {O : pOut} {d kc ks : Nat} {Q : pRes → Prop} {es : PH} {sd bk mv sl n si al mo a : Int} {lp : Nat} (hs_es : sh es) (ho_es : es[lp]? = some (.inr (10, [.ref 71, .ref 93, .int (zI sd)]))) (h1 : 0 ≤ bk ∧ bk ≤ 2) (h2 : 1 ≤ mv ∧ mv ≤ 24) (h3 : 0 ≤ sl ∧ sl ≤ 9) (h4 : 0 ≤ n ∧ n ≤ 24)
    (K1 : aW O d 125 kc ks Q (3, [some (.ref (64 + lp)), some (.int (zI bk)), some (.int (zI mv)), some (.int (zI sl)), some (.int (zI (n + 1))), some (.int (zI si)), some (.int (zI al)), some (.int (zI mo))], [], es)) :
    aW O d 125 kc ks Q (107, [some (.ref (64 + lp)), some (.int (zI bk)), some (.int (zI mv)), some (.int (zI sl)), some (.int (zI n)), some (.int (zI si)), some (.int (zI al)), some (.int (zI mo))], [.int (zI a)], es) := by
  refine x0 (r := (108, [some (.ref (64 + lp)), some (.int (zI bk)), some (.int (zI mv)), some (.int (zI sl)), some (.int (zI n)), some (.int (zI si)), some (.int (zI al)), some (.int (zI mo))], [], es)) i_125_107 rfl ?_
  refine x_iinc (x := n) i_125_108 rfl (by show 4 < 8; decide) ?_
  show aW _ _ _ _ _ _ (111, [some (.ref (64 + lp)), some (.int (zI bk)), some (.int (zI mv)), some (.int (zI sl)), some (.int (zI (n + 1))), some (.int (zI si)), some (.int (zI al)), some (.int (zI mo))], [], es)
  refine x0 (r := (3, [some (.ref (64 + lp)), some (.int (zI bk)), some (.int (zI mv)), some (.int (zI sl)), some (.int (zI (n + 1))), some (.int (zI si)), some (.int (zI al)), some (.int (zI mo))], [], es)) i_125_111 rfl ?_
  exact K1

theorem s_wn0 {O : pOut} {d kc ks : Nat} {Q : pRes → Prop} {es : PH} {sd bk mo si : Int} {lp : Nat} (hs_es : sh es) (ho_es : es[lp]? = some (.inr (10, [.ref 71, .ref 93, .int (zI sd)]))) (hT_es : hOK tT es) (h1 : 0 ≤ bk ∧ bk ≤ 2) (h2 : 0 ≤ mo ∧ mo ≤ 1295) (h3 : -2147483648 ≤ si ∧ si ≤ 2147483647)
    (K1 : ∀ v1 : Int, v1 = (gA es 12 bk.toNat).toInt → v1 ≠ 1 → ∀ v3 : Int, v3 = (gA es 30 (mo / 36).toNat).toInt → ∀ v4 : Int, v4 = (zI (v3 - 1) >>> (zI 1 &&& 31)).toInt → aW O (d + 1) 127 kc ks Q (57, [some (.ref (64 + lp)), some (.int (zI bk)), some (.int (zI mo)), some (.int (zI si)), some (.int (zI (mo % 36))), some (.int (zI ((mo % 36) / 6))), some (.int (zI v4))], [.int (zI bk), .ref 71, .int (zI bk), .ref 71], es))
    (K2 : ∀ v1 : Int, v1 = (gA es 12 bk.toNat).toInt → ¬ (v1 ≠ 1) → si ≠ 1 → ∀ v6 : Int, v6 = (gA es 30 (mo / 36).toNat).toInt → ∀ v7 : Int, v7 = (zI (v6 - 1) >>> (zI 1 &&& 31)).toInt → aW O (d + 1) 127 kc ks Q (57, [some (.ref (64 + lp)), some (.int (zI bk)), some (.int (zI mo)), some (.int (zI si)), some (.int (zI (mo % 36))), some (.int (zI ((mo % 36) / 6))), some (.int (zI v7))], [.int (zI bk), .ref 71, .int (zI bk), .ref 71], es))
    (K3 : ∀ v1 : Int, v1 = (gA es 12 bk.toNat).toInt → ¬ (v1 ≠ 1) → ¬ (si ≠ 1) → ∀ v8 : Int, v8 = (gA es 30 (mo / 36).toNat).toInt → ∀ v9 : Int, v9 = (zI (v8 - 1) >>> (zI 1 &&& 31)).toInt → aW O (d + 1) 127 kc ks Q (57, [some (.ref (64 + lp)), some (.int (zI bk)), some (.int (zI mo)), some (.int (zI si)), some (.int (zI (mo % 36))), some (.int (zI (5 - ((mo % 36) / 6)))), some (.int (zI v9))], [.int (zI bk), .ref 71, .int (zI bk), .ref 71], es)) :
    aW O (d + 1) 127 kc ks Q (0, [some (.ref (64 + lp)), some (.int (zI bk)), some (.int (zI mo)), some (.int (zI si)), none, none, none], [], es) := by
  refine x0 (r := (1, [some (.ref (64 + lp)), some (.int (zI bk)), some (.int (zI mo)), some (.int (zI si)), none, none, none], [.int (zI mo)], es)) i_127_0 rfl ?_
  refine x0 (r := (3, [some (.ref (64 + lp)), some (.int (zI bk)), some (.int (zI mo)), some (.int (zI si)), none, none, none], [.int (zI 36), .int (zI mo)], es)) i_127_1 (by rfl) ?_
  refine x_iremn i_127_3 (by omega) (by unfold i32 iLO iHI; omega) (by unfold i32 iLO iHI; omega) (by omega) ?_
  refine x0 (r := (6, [some (.ref (64 + lp)), some (.int (zI bk)), some (.int (zI mo)), some (.int (zI si)), some (.int (zI (mo % 36))), none, none], [], es)) i_127_4 rfl ?_
  refine x0 (r := (8, [some (.ref (64 + lp)), some (.int (zI bk)), some (.int (zI mo)), some (.int (zI si)), some (.int (zI (mo % 36))), none, none], [.int (zI (mo % 36))], es)) i_127_6 rfl ?_
  refine x0 (r := (10, [some (.ref (64 + lp)), some (.int (zI bk)), some (.int (zI mo)), some (.int (zI si)), some (.int (zI (mo % 36))), none, none], [.int (zI 6), .int (zI (mo % 36))], es)) i_127_8 (by rfl) ?_
  refine x_idivn i_127_10 (by omega) (by unfold i32 iLO iHI; omega) (by unfold i32 iLO iHI; omega) (by omega) ?_
  refine x0 (r := (12, [some (.ref (64 + lp)), some (.int (zI bk)), some (.int (zI mo)), some (.int (zI si)), some (.int (zI (mo % 36))), none, none], [.ref (64 + lp), .int (zI ((mo % 36) / 6))], es)) i_127_11 rfl ?_
  refine x_getp i_127_12 ho_es rfl ?_
  show aW _ _ _ _ _ _ (15, [some (.ref (64 + lp)), some (.int (zI bk)), some (.int (zI mo)), some (.int (zI si)), some (.int (zI (mo % 36))), none, none], [.ref 71, .int (zI ((mo % 36) / 6))], es)
  refine x_getr (p := 7) (k := 76) i_127_15 hs_es rfl rfl ?_
  show aW _ _ _ _ _ _ (18, [some (.ref (64 + lp)), some (.int (zI bk)), some (.int (zI mo)), some (.int (zI si)), some (.int (zI (mo % 36))), none, none], [.ref 76, .int (zI ((mo % 36) / 6))], es)
  refine x0 (r := (19, [some (.ref (64 + lp)), some (.int (zI bk)), some (.int (zI mo)), some (.int (zI si)), some (.int (zI (mo % 36))), none, none], [.int (zI bk), .ref 76, .int (zI ((mo % 36) / 6))], es)) i_127_18 rfl ?_
  refine x_call (vs := [.ref 76, .int (zI bk)]) (rs := [.int (zI ((mo % 36) / 6))]) i_127_19 rfl (fun _ => rfl) rfl rfl rfl rfl rfl rfl ?_
  show aW _ _ _ _ _ _ (0, [some (.ref 76), some (.int (zI bk))], [], es)
  refine x0 (r := (1, [some (.ref 76), some (.int (zI bk))], [.int (zI bk)], es)) i_28_0 rfl ?_
  refine x_ifF i_28_1 (by unfold i32 iLO iHI; omega) rfl (by simp only [zC, cR]; omega) ?_
  refine x0 (r := (5, [some (.ref 76), some (.int (zI bk))], [.int (zI bk)], es)) i_28_4 rfl ?_
  refine x0 (r := (6, [some (.ref 76), some (.int (zI bk))], [.ref 76, .int (zI bk)], es)) i_28_5 rfl ?_
  refine x_alen (p := 12) (n := 3) i_28_6 hs_es rfl ?_
  refine x_cmpF i_28_7 (by unfold i32 iLO iHI; omega) (by unfold i32 iLO iHI; omega) rfl (by simp only [zC, cR]; omega) ?_
  refine x0 (r := (11, [some (.ref 76), some (.int (zI bk))], [.ref 76], es)) i_28_10 rfl ?_
  refine x0 (r := (12, [some (.ref 76), some (.int (zI bk))], [.int (zI bk), .ref 76], es)) i_28_11 rfl ?_
  refine x_iald (p := 12) i_28_12 hs_es rfl (by unfold i32 iLO iHI; omega) (by omega) (by omega) ?_
  obtain ⟨v1, e_v1⟩ : ∃ z : Int, z = (gA es 12 bk.toNat).toInt := ⟨_, rfl⟩
  rw [← e_v1]
  have r_v1 : iLO ≤ v1 ∧ v1 ≤ iHI := by rw [e_v1]; exact i32_rng _
  unfold iLO iHI at r_v1
  refine x0 (r := (17, [some (.ref 76), some (.int (zI bk))], [.int (zI v1)], es)) i_28_13 rfl ?_
  refine x_ret (v := some (.int (zI v1))) i_28_17 rfl (fun _ => rfl) rfl rfl rfl ?_
  show aW _ _ _ _ _ _ (22, [some (.ref (64 + lp)), some (.int (zI bk)), some (.int (zI mo)), some (.int (zI si)), some (.int (zI (mo % 36))), none, none], [.int (zI v1), .int (zI ((mo % 36) / 6))], es)
  refine x0 (r := (23, [some (.ref (64 + lp)), some (.int (zI bk)), some (.int (zI mo)), some (.int (zI si)), some (.int (zI (mo % 36))), none, none], [.int (zI si), .int (zI v1), .int (zI ((mo % 36) / 6))], es)) i_127_22 rfl ?_
  refine x_call (vs := [.int (zI ((mo % 36) / 6)), .int (zI v1), .int (zI si)]) (rs := []) i_127_23 rfl (fun _ => rfl) rfl rfl rfl rfl rfl rfl ?_
  show aW _ _ _ _ _ _ (0, [some (.int (zI ((mo % 36) / 6))), some (.int (zI v1)), some (.int (zI si))], [], es)
  refine x0 (r := (1, [some (.int (zI ((mo % 36) / 6))), some (.int (zI v1)), some (.int (zI si))], [.int (zI v1)], es)) i_44_0 rfl ?_
  refine x0 (r := (2, [some (.int (zI ((mo % 36) / 6))), some (.int (zI v1)), some (.int (zI si))], [.int (zI 1), .int (zI v1)], es)) i_44_1 (by rfl) ?_
  by_cases c2 : v1 ≠ 1
  · refine x_cmpT i_44_2 (by unfold i32 iLO iHI; omega) (by unfold i32 iLO iHI; omega) rfl (by simp only [zC, cR]; omega) ?_
    refine x0 (r := (17, [some (.int (zI ((mo % 36) / 6))), some (.int (zI v1)), some (.int (zI si))], [.int (zI ((mo % 36) / 6))], es)) i_44_16 rfl ?_
    refine x_ret (v := some (.int (zI ((mo % 36) / 6)))) i_44_17 rfl (fun _ => rfl) rfl rfl rfl ?_
    show aW _ _ _ _ _ _ (26, [some (.ref (64 + lp)), some (.int (zI bk)), some (.int (zI mo)), some (.int (zI si)), some (.int (zI (mo % 36))), none, none], [.int (zI ((mo % 36) / 6))], es)
    refine x0 (r := (28, [some (.ref (64 + lp)), some (.int (zI bk)), some (.int (zI mo)), some (.int (zI si)), some (.int (zI (mo % 36))), some (.int (zI ((mo % 36) / 6))), none], [], es)) i_127_26 rfl ?_
    refine x0 (r := (29, [some (.ref (64 + lp)), some (.int (zI bk)), some (.int (zI mo)), some (.int (zI si)), some (.int (zI (mo % 36))), some (.int (zI ((mo % 36) / 6))), none], [.ref (64 + lp)], es)) i_127_28 rfl ?_
    refine x_getp i_127_29 ho_es rfl ?_
    show aW _ _ _ _ _ _ (32, [some (.ref (64 + lp)), some (.int (zI bk)), some (.int (zI mo)), some (.int (zI si)), some (.int (zI (mo % 36))), some (.int (zI ((mo % 36) / 6))), none], [.ref 93], es)
    refine x_getr (p := 29) (k := 94) i_127_32 hs_es rfl rfl ?_
    show aW _ _ _ _ _ _ (35, [some (.ref (64 + lp)), some (.int (zI bk)), some (.int (zI mo)), some (.int (zI si)), some (.int (zI (mo % 36))), some (.int (zI ((mo % 36) / 6))), none], [.ref 94], es)
    refine x0 (r := (36, [some (.ref (64 + lp)), some (.int (zI bk)), some (.int (zI mo)), some (.int (zI si)), some (.int (zI (mo % 36))), some (.int (zI ((mo % 36) / 6))), none], [.int (zI mo), .ref 94], es)) i_127_35 rfl ?_
    refine x0 (r := (38, [some (.ref (64 + lp)), some (.int (zI bk)), some (.int (zI mo)), some (.int (zI si)), some (.int (zI (mo % 36))), some (.int (zI ((mo % 36) / 6))), none], [.int (zI 36), .int (zI mo), .ref 94], es)) i_127_36 (by rfl) ?_
    refine x_idivn i_127_38 (by omega) (by unfold i32 iLO iHI; omega) (by unfold i32 iLO iHI; omega) (by omega) ?_
    refine x_call (vs := [.ref 94, .int (zI (mo / 36))]) (rs := []) i_127_39 rfl (fun _ => rfl) rfl rfl rfl rfl rfl rfl ?_
    show aW _ _ _ _ _ _ (0, [some (.ref 94), some (.int (zI (mo / 36)))], [], es)
    refine x0 (r := (1, [some (.ref 94), some (.int (zI (mo / 36)))], [.int (zI (mo / 36))], es)) i_28_0 rfl ?_
    refine x_ifF i_28_1 (by unfold i32 iLO iHI; omega) rfl (by simp only [zC, cR]; omega) ?_
    refine x0 (r := (5, [some (.ref 94), some (.int (zI (mo / 36)))], [.int (zI (mo / 36))], es)) i_28_4 rfl ?_
    refine x0 (r := (6, [some (.ref 94), some (.int (zI (mo / 36)))], [.ref 94, .int (zI (mo / 36))], es)) i_28_5 rfl ?_
    refine x_alen (p := 30) (n := 36) i_28_6 hs_es rfl ?_
    refine x_cmpF i_28_7 (by unfold i32 iLO iHI; omega) (by unfold i32 iLO iHI; omega) rfl (by simp only [zC, cR]; omega) ?_
    refine x0 (r := (11, [some (.ref 94), some (.int (zI (mo / 36)))], [.ref 94], es)) i_28_10 rfl ?_
    refine x0 (r := (12, [some (.ref 94), some (.int (zI (mo / 36)))], [.int (zI (mo / 36)), .ref 94], es)) i_28_11 rfl ?_
    refine x_iald (p := 30) i_28_12 hs_es rfl (by unfold i32 iLO iHI; omega) (by omega) (by omega) ?_
    obtain ⟨v3, e_v3⟩ : ∃ z : Int, z = (gA es 30 (mo / 36).toNat).toInt := ⟨_, rfl⟩
    rw [← e_v3]
    have r_v3 : iLO ≤ v3 ∧ v3 ≤ iHI := by rw [e_v3]; exact i32_rng _
    unfold iLO iHI at r_v3
    refine x0 (r := (17, [some (.ref 94), some (.int (zI (mo / 36)))], [.int (zI v3)], es)) i_28_13 rfl ?_
    refine x_ret (v := some (.int (zI v3))) i_28_17 rfl (fun _ => rfl) rfl rfl rfl ?_
    show aW _ _ _ _ _ _ (42, [some (.ref (64 + lp)), some (.int (zI bk)), some (.int (zI mo)), some (.int (zI si)), some (.int (zI (mo % 36))), some (.int (zI ((mo % 36) / 6))), none], [.int (zI v3)], es)
    refine x_call (vs := [.int (zI v3)]) (rs := []) i_127_42 rfl (fun _ => rfl) rfl rfl rfl rfl rfl rfl ?_
    show aW _ _ _ _ _ _ (0, [some (.int (zI v3))], [], es)
    refine x0 (r := (1, [some (.int (zI v3))], [.int (zI v3)], es)) i_49_0 rfl ?_
    refine x0 (r := (2, [some (.int (zI v3))], [.int (zI 1), .int (zI v3)], es)) i_49_1 (by rfl) ?_
    refine x_isub i_49_2 ?_
    refine x0 (r := (4, [some (.int (zI v3))], [.int (zI 1), .int (zI (v3 - 1))], es)) i_49_3 (by rfl) ?_
    refine x_op i_49_4 (w := (zI (v3 - 1) >>> (zI 1 &&& 31))) rfl rfl ?_
    obtain ⟨v4, e_v4⟩ : ∃ z : Int, z = (zI (v3 - 1) >>> (zI 1 &&& 31)).toInt := ⟨_, rfl⟩
    rw [← e_v4]
    have r_v4 : iLO ≤ v4 ∧ v4 ≤ iHI := by rw [e_v4]; exact i32_rng _
    unfold iLO iHI at r_v4
    refine x_ret (v := some (.int (zI v4))) i_49_5 rfl (fun _ => rfl) rfl rfl rfl ?_
    show aW _ _ _ _ _ _ (45, [some (.ref (64 + lp)), some (.int (zI bk)), some (.int (zI mo)), some (.int (zI si)), some (.int (zI (mo % 36))), some (.int (zI ((mo % 36) / 6))), none], [.int (zI v4)], es)
    refine x0 (r := (47, [some (.ref (64 + lp)), some (.int (zI bk)), some (.int (zI mo)), some (.int (zI si)), some (.int (zI (mo % 36))), some (.int (zI ((mo % 36) / 6))), some (.int (zI v4))], [], es)) i_127_45 rfl ?_
    refine x0 (r := (48, [some (.ref (64 + lp)), some (.int (zI bk)), some (.int (zI mo)), some (.int (zI si)), some (.int (zI (mo % 36))), some (.int (zI ((mo % 36) / 6))), some (.int (zI v4))], [.ref (64 + lp)], es)) i_127_47 rfl ?_
    refine x_getp i_127_48 ho_es rfl ?_
    show aW _ _ _ _ _ _ (51, [some (.ref (64 + lp)), some (.int (zI bk)), some (.int (zI mo)), some (.int (zI si)), some (.int (zI (mo % 36))), some (.int (zI ((mo % 36) / 6))), some (.int (zI v4))], [.ref 71], es)
    refine x0 (r := (52, [some (.ref (64 + lp)), some (.int (zI bk)), some (.int (zI mo)), some (.int (zI si)), some (.int (zI (mo % 36))), some (.int (zI ((mo % 36) / 6))), some (.int (zI v4))], [.int (zI bk), .ref 71], es)) i_127_51 rfl ?_
    refine x0 (r := (53, [some (.ref (64 + lp)), some (.int (zI bk)), some (.int (zI mo)), some (.int (zI si)), some (.int (zI (mo % 36))), some (.int (zI ((mo % 36) / 6))), some (.int (zI v4))], [.ref (64 + lp), .int (zI bk), .ref 71], es)) i_127_52 rfl ?_
    refine x_getp i_127_53 ho_es rfl ?_
    show aW _ _ _ _ _ _ (56, [some (.ref (64 + lp)), some (.int (zI bk)), some (.int (zI mo)), some (.int (zI si)), some (.int (zI (mo % 36))), some (.int (zI ((mo % 36) / 6))), some (.int (zI v4))], [.ref 71, .int (zI bk), .ref 71], es)
    refine x0 (r := (57, [some (.ref (64 + lp)), some (.int (zI bk)), some (.int (zI mo)), some (.int (zI si)), some (.int (zI (mo % 36))), some (.int (zI ((mo % 36) / 6))), some (.int (zI v4))], [.int (zI bk), .ref 71, .int (zI bk), .ref 71], es)) i_127_56 rfl ?_
    exact K1 v1 e_v1 c2 v3 e_v3 v4 e_v4
  · refine x_cmpF i_44_2 (by unfold i32 iLO iHI; omega) (by unfold i32 iLO iHI; omega) rfl (by simp only [zC, cR]; omega) ?_
    refine x0 (r := (6, [some (.int (zI ((mo % 36) / 6))), some (.int (zI v1)), some (.int (zI si))], [.int (zI si)], es)) i_44_5 rfl ?_
    refine x0 (r := (7, [some (.int (zI ((mo % 36) / 6))), some (.int (zI v1)), some (.int (zI si))], [.int (zI 1), .int (zI si)], es)) i_44_6 (by rfl) ?_
    by_cases c5 : si ≠ 1
    · refine x_cmpT i_44_7 (by unfold i32 iLO iHI; omega) (by unfold i32 iLO iHI; omega) rfl (by simp only [zC, cR]; omega) ?_
      refine x0 (r := (17, [some (.int (zI ((mo % 36) / 6))), some (.int (zI v1)), some (.int (zI si))], [.int (zI ((mo % 36) / 6))], es)) i_44_16 rfl ?_
      refine x_ret (v := some (.int (zI ((mo % 36) / 6)))) i_44_17 rfl (fun _ => rfl) rfl rfl rfl ?_
      show aW _ _ _ _ _ _ (26, [some (.ref (64 + lp)), some (.int (zI bk)), some (.int (zI mo)), some (.int (zI si)), some (.int (zI (mo % 36))), none, none], [.int (zI ((mo % 36) / 6))], es)
      refine x0 (r := (28, [some (.ref (64 + lp)), some (.int (zI bk)), some (.int (zI mo)), some (.int (zI si)), some (.int (zI (mo % 36))), some (.int (zI ((mo % 36) / 6))), none], [], es)) i_127_26 rfl ?_
      refine x0 (r := (29, [some (.ref (64 + lp)), some (.int (zI bk)), some (.int (zI mo)), some (.int (zI si)), some (.int (zI (mo % 36))), some (.int (zI ((mo % 36) / 6))), none], [.ref (64 + lp)], es)) i_127_28 rfl ?_
      refine x_getp i_127_29 ho_es rfl ?_
      show aW _ _ _ _ _ _ (32, [some (.ref (64 + lp)), some (.int (zI bk)), some (.int (zI mo)), some (.int (zI si)), some (.int (zI (mo % 36))), some (.int (zI ((mo % 36) / 6))), none], [.ref 93], es)
      refine x_getr (p := 29) (k := 94) i_127_32 hs_es rfl rfl ?_
      show aW _ _ _ _ _ _ (35, [some (.ref (64 + lp)), some (.int (zI bk)), some (.int (zI mo)), some (.int (zI si)), some (.int (zI (mo % 36))), some (.int (zI ((mo % 36) / 6))), none], [.ref 94], es)
      refine x0 (r := (36, [some (.ref (64 + lp)), some (.int (zI bk)), some (.int (zI mo)), some (.int (zI si)), some (.int (zI (mo % 36))), some (.int (zI ((mo % 36) / 6))), none], [.int (zI mo), .ref 94], es)) i_127_35 rfl ?_
      refine x0 (r := (38, [some (.ref (64 + lp)), some (.int (zI bk)), some (.int (zI mo)), some (.int (zI si)), some (.int (zI (mo % 36))), some (.int (zI ((mo % 36) / 6))), none], [.int (zI 36), .int (zI mo), .ref 94], es)) i_127_36 (by rfl) ?_
      refine x_idivn i_127_38 (by omega) (by unfold i32 iLO iHI; omega) (by unfold i32 iLO iHI; omega) (by omega) ?_
      refine x_call (vs := [.ref 94, .int (zI (mo / 36))]) (rs := []) i_127_39 rfl (fun _ => rfl) rfl rfl rfl rfl rfl rfl ?_
      show aW _ _ _ _ _ _ (0, [some (.ref 94), some (.int (zI (mo / 36)))], [], es)
      refine x0 (r := (1, [some (.ref 94), some (.int (zI (mo / 36)))], [.int (zI (mo / 36))], es)) i_28_0 rfl ?_
      refine x_ifF i_28_1 (by unfold i32 iLO iHI; omega) rfl (by simp only [zC, cR]; omega) ?_
      refine x0 (r := (5, [some (.ref 94), some (.int (zI (mo / 36)))], [.int (zI (mo / 36))], es)) i_28_4 rfl ?_
      refine x0 (r := (6, [some (.ref 94), some (.int (zI (mo / 36)))], [.ref 94, .int (zI (mo / 36))], es)) i_28_5 rfl ?_
      refine x_alen (p := 30) (n := 36) i_28_6 hs_es rfl ?_
      refine x_cmpF i_28_7 (by unfold i32 iLO iHI; omega) (by unfold i32 iLO iHI; omega) rfl (by simp only [zC, cR]; omega) ?_
      refine x0 (r := (11, [some (.ref 94), some (.int (zI (mo / 36)))], [.ref 94], es)) i_28_10 rfl ?_
      refine x0 (r := (12, [some (.ref 94), some (.int (zI (mo / 36)))], [.int (zI (mo / 36)), .ref 94], es)) i_28_11 rfl ?_
      refine x_iald (p := 30) i_28_12 hs_es rfl (by unfold i32 iLO iHI; omega) (by omega) (by omega) ?_
      obtain ⟨v6, e_v6⟩ : ∃ z : Int, z = (gA es 30 (mo / 36).toNat).toInt := ⟨_, rfl⟩
      rw [← e_v6]
      have r_v6 : iLO ≤ v6 ∧ v6 ≤ iHI := by rw [e_v6]; exact i32_rng _
      unfold iLO iHI at r_v6
      refine x0 (r := (17, [some (.ref 94), some (.int (zI (mo / 36)))], [.int (zI v6)], es)) i_28_13 rfl ?_
      refine x_ret (v := some (.int (zI v6))) i_28_17 rfl (fun _ => rfl) rfl rfl rfl ?_
      show aW _ _ _ _ _ _ (42, [some (.ref (64 + lp)), some (.int (zI bk)), some (.int (zI mo)), some (.int (zI si)), some (.int (zI (mo % 36))), some (.int (zI ((mo % 36) / 6))), none], [.int (zI v6)], es)
      refine x_call (vs := [.int (zI v6)]) (rs := []) i_127_42 rfl (fun _ => rfl) rfl rfl rfl rfl rfl rfl ?_
      show aW _ _ _ _ _ _ (0, [some (.int (zI v6))], [], es)
      refine x0 (r := (1, [some (.int (zI v6))], [.int (zI v6)], es)) i_49_0 rfl ?_
      refine x0 (r := (2, [some (.int (zI v6))], [.int (zI 1), .int (zI v6)], es)) i_49_1 (by rfl) ?_
      refine x_isub i_49_2 ?_
      refine x0 (r := (4, [some (.int (zI v6))], [.int (zI 1), .int (zI (v6 - 1))], es)) i_49_3 (by rfl) ?_
      refine x_op i_49_4 (w := (zI (v6 - 1) >>> (zI 1 &&& 31))) rfl rfl ?_
      obtain ⟨v7, e_v7⟩ : ∃ z : Int, z = (zI (v6 - 1) >>> (zI 1 &&& 31)).toInt := ⟨_, rfl⟩
      rw [← e_v7]
      have r_v7 : iLO ≤ v7 ∧ v7 ≤ iHI := by rw [e_v7]; exact i32_rng _
      unfold iLO iHI at r_v7
      refine x_ret (v := some (.int (zI v7))) i_49_5 rfl (fun _ => rfl) rfl rfl rfl ?_
      show aW _ _ _ _ _ _ (45, [some (.ref (64 + lp)), some (.int (zI bk)), some (.int (zI mo)), some (.int (zI si)), some (.int (zI (mo % 36))), some (.int (zI ((mo % 36) / 6))), none], [.int (zI v7)], es)
      refine x0 (r := (47, [some (.ref (64 + lp)), some (.int (zI bk)), some (.int (zI mo)), some (.int (zI si)), some (.int (zI (mo % 36))), some (.int (zI ((mo % 36) / 6))), some (.int (zI v7))], [], es)) i_127_45 rfl ?_
      refine x0 (r := (48, [some (.ref (64 + lp)), some (.int (zI bk)), some (.int (zI mo)), some (.int (zI si)), some (.int (zI (mo % 36))), some (.int (zI ((mo % 36) / 6))), some (.int (zI v7))], [.ref (64 + lp)], es)) i_127_47 rfl ?_
      refine x_getp i_127_48 ho_es rfl ?_
      show aW _ _ _ _ _ _ (51, [some (.ref (64 + lp)), some (.int (zI bk)), some (.int (zI mo)), some (.int (zI si)), some (.int (zI (mo % 36))), some (.int (zI ((mo % 36) / 6))), some (.int (zI v7))], [.ref 71], es)
      refine x0 (r := (52, [some (.ref (64 + lp)), some (.int (zI bk)), some (.int (zI mo)), some (.int (zI si)), some (.int (zI (mo % 36))), some (.int (zI ((mo % 36) / 6))), some (.int (zI v7))], [.int (zI bk), .ref 71], es)) i_127_51 rfl ?_
      refine x0 (r := (53, [some (.ref (64 + lp)), some (.int (zI bk)), some (.int (zI mo)), some (.int (zI si)), some (.int (zI (mo % 36))), some (.int (zI ((mo % 36) / 6))), some (.int (zI v7))], [.ref (64 + lp), .int (zI bk), .ref 71], es)) i_127_52 rfl ?_
      refine x_getp i_127_53 ho_es rfl ?_
      show aW _ _ _ _ _ _ (56, [some (.ref (64 + lp)), some (.int (zI bk)), some (.int (zI mo)), some (.int (zI si)), some (.int (zI (mo % 36))), some (.int (zI ((mo % 36) / 6))), some (.int (zI v7))], [.ref 71, .int (zI bk), .ref 71], es)
      refine x0 (r := (57, [some (.ref (64 + lp)), some (.int (zI bk)), some (.int (zI mo)), some (.int (zI si)), some (.int (zI (mo % 36))), some (.int (zI ((mo % 36) / 6))), some (.int (zI v7))], [.int (zI bk), .ref 71, .int (zI bk), .ref 71], es)) i_127_56 rfl ?_
      exact K2 v1 e_v1 c2 c5 v6 e_v6 v7 e_v7
    · refine x_cmpF i_44_7 (by unfold i32 iLO iHI; omega) (by unfold i32 iLO iHI; omega) rfl (by simp only [zC, cR]; omega) ?_
      refine x0 (r := (11, [some (.int (zI ((mo % 36) / 6))), some (.int (zI v1)), some (.int (zI si))], [.int (zI 5)], es)) i_44_10 (by rfl) ?_
      refine x0 (r := (12, [some (.int (zI ((mo % 36) / 6))), some (.int (zI v1)), some (.int (zI si))], [.int (zI ((mo % 36) / 6)), .int (zI 5)], es)) i_44_11 rfl ?_
      refine x_isub i_44_12 ?_
      refine x0 (r := (17, [some (.int (zI ((mo % 36) / 6))), some (.int (zI v1)), some (.int (zI si))], [.int (zI (5 - ((mo % 36) / 6)))], es)) i_44_13 rfl ?_
      refine x_ret (v := some (.int (zI (5 - ((mo % 36) / 6))))) i_44_17 rfl (fun _ => rfl) rfl rfl rfl ?_
      show aW _ _ _ _ _ _ (26, [some (.ref (64 + lp)), some (.int (zI bk)), some (.int (zI mo)), some (.int (zI si)), some (.int (zI (mo % 36))), none, none], [.int (zI (5 - ((mo % 36) / 6)))], es)
      refine x0 (r := (28, [some (.ref (64 + lp)), some (.int (zI bk)), some (.int (zI mo)), some (.int (zI si)), some (.int (zI (mo % 36))), some (.int (zI (5 - ((mo % 36) / 6)))), none], [], es)) i_127_26 rfl ?_
      refine x0 (r := (29, [some (.ref (64 + lp)), some (.int (zI bk)), some (.int (zI mo)), some (.int (zI si)), some (.int (zI (mo % 36))), some (.int (zI (5 - ((mo % 36) / 6)))), none], [.ref (64 + lp)], es)) i_127_28 rfl ?_
      refine x_getp i_127_29 ho_es rfl ?_
      show aW _ _ _ _ _ _ (32, [some (.ref (64 + lp)), some (.int (zI bk)), some (.int (zI mo)), some (.int (zI si)), some (.int (zI (mo % 36))), some (.int (zI (5 - ((mo % 36) / 6)))), none], [.ref 93], es)
      refine x_getr (p := 29) (k := 94) i_127_32 hs_es rfl rfl ?_
      show aW _ _ _ _ _ _ (35, [some (.ref (64 + lp)), some (.int (zI bk)), some (.int (zI mo)), some (.int (zI si)), some (.int (zI (mo % 36))), some (.int (zI (5 - ((mo % 36) / 6)))), none], [.ref 94], es)
      refine x0 (r := (36, [some (.ref (64 + lp)), some (.int (zI bk)), some (.int (zI mo)), some (.int (zI si)), some (.int (zI (mo % 36))), some (.int (zI (5 - ((mo % 36) / 6)))), none], [.int (zI mo), .ref 94], es)) i_127_35 rfl ?_
      refine x0 (r := (38, [some (.ref (64 + lp)), some (.int (zI bk)), some (.int (zI mo)), some (.int (zI si)), some (.int (zI (mo % 36))), some (.int (zI (5 - ((mo % 36) / 6)))), none], [.int (zI 36), .int (zI mo), .ref 94], es)) i_127_36 (by rfl) ?_
      refine x_idivn i_127_38 (by omega) (by unfold i32 iLO iHI; omega) (by unfold i32 iLO iHI; omega) (by omega) ?_
      refine x_call (vs := [.ref 94, .int (zI (mo / 36))]) (rs := []) i_127_39 rfl (fun _ => rfl) rfl rfl rfl rfl rfl rfl ?_
      show aW _ _ _ _ _ _ (0, [some (.ref 94), some (.int (zI (mo / 36)))], [], es)
      refine x0 (r := (1, [some (.ref 94), some (.int (zI (mo / 36)))], [.int (zI (mo / 36))], es)) i_28_0 rfl ?_
      refine x_ifF i_28_1 (by unfold i32 iLO iHI; omega) rfl (by simp only [zC, cR]; omega) ?_
      refine x0 (r := (5, [some (.ref 94), some (.int (zI (mo / 36)))], [.int (zI (mo / 36))], es)) i_28_4 rfl ?_
      refine x0 (r := (6, [some (.ref 94), some (.int (zI (mo / 36)))], [.ref 94, .int (zI (mo / 36))], es)) i_28_5 rfl ?_
      refine x_alen (p := 30) (n := 36) i_28_6 hs_es rfl ?_
      refine x_cmpF i_28_7 (by unfold i32 iLO iHI; omega) (by unfold i32 iLO iHI; omega) rfl (by simp only [zC, cR]; omega) ?_
      refine x0 (r := (11, [some (.ref 94), some (.int (zI (mo / 36)))], [.ref 94], es)) i_28_10 rfl ?_
      refine x0 (r := (12, [some (.ref 94), some (.int (zI (mo / 36)))], [.int (zI (mo / 36)), .ref 94], es)) i_28_11 rfl ?_
      refine x_iald (p := 30) i_28_12 hs_es rfl (by unfold i32 iLO iHI; omega) (by omega) (by omega) ?_
      obtain ⟨v8, e_v8⟩ : ∃ z : Int, z = (gA es 30 (mo / 36).toNat).toInt := ⟨_, rfl⟩
      rw [← e_v8]
      have r_v8 : iLO ≤ v8 ∧ v8 ≤ iHI := by rw [e_v8]; exact i32_rng _
      unfold iLO iHI at r_v8
      refine x0 (r := (17, [some (.ref 94), some (.int (zI (mo / 36)))], [.int (zI v8)], es)) i_28_13 rfl ?_
      refine x_ret (v := some (.int (zI v8))) i_28_17 rfl (fun _ => rfl) rfl rfl rfl ?_
      show aW _ _ _ _ _ _ (42, [some (.ref (64 + lp)), some (.int (zI bk)), some (.int (zI mo)), some (.int (zI si)), some (.int (zI (mo % 36))), some (.int (zI (5 - ((mo % 36) / 6)))), none], [.int (zI v8)], es)
      refine x_call (vs := [.int (zI v8)]) (rs := []) i_127_42 rfl (fun _ => rfl) rfl rfl rfl rfl rfl rfl ?_
      show aW _ _ _ _ _ _ (0, [some (.int (zI v8))], [], es)
      refine x0 (r := (1, [some (.int (zI v8))], [.int (zI v8)], es)) i_49_0 rfl ?_
      refine x0 (r := (2, [some (.int (zI v8))], [.int (zI 1), .int (zI v8)], es)) i_49_1 (by rfl) ?_
      refine x_isub i_49_2 ?_
      refine x0 (r := (4, [some (.int (zI v8))], [.int (zI 1), .int (zI (v8 - 1))], es)) i_49_3 (by rfl) ?_
      refine x_op i_49_4 (w := (zI (v8 - 1) >>> (zI 1 &&& 31))) rfl rfl ?_
      obtain ⟨v9, e_v9⟩ : ∃ z : Int, z = (zI (v8 - 1) >>> (zI 1 &&& 31)).toInt := ⟨_, rfl⟩
      rw [← e_v9]
      have r_v9 : iLO ≤ v9 ∧ v9 ≤ iHI := by rw [e_v9]; exact i32_rng _
      unfold iLO iHI at r_v9
      refine x_ret (v := some (.int (zI v9))) i_49_5 rfl (fun _ => rfl) rfl rfl rfl ?_
      show aW _ _ _ _ _ _ (45, [some (.ref (64 + lp)), some (.int (zI bk)), some (.int (zI mo)), some (.int (zI si)), some (.int (zI (mo % 36))), some (.int (zI (5 - ((mo % 36) / 6)))), none], [.int (zI v9)], es)
      refine x0 (r := (47, [some (.ref (64 + lp)), some (.int (zI bk)), some (.int (zI mo)), some (.int (zI si)), some (.int (zI (mo % 36))), some (.int (zI (5 - ((mo % 36) / 6)))), some (.int (zI v9))], [], es)) i_127_45 rfl ?_
      refine x0 (r := (48, [some (.ref (64 + lp)), some (.int (zI bk)), some (.int (zI mo)), some (.int (zI si)), some (.int (zI (mo % 36))), some (.int (zI (5 - ((mo % 36) / 6)))), some (.int (zI v9))], [.ref (64 + lp)], es)) i_127_47 rfl ?_
      refine x_getp i_127_48 ho_es rfl ?_
      show aW _ _ _ _ _ _ (51, [some (.ref (64 + lp)), some (.int (zI bk)), some (.int (zI mo)), some (.int (zI si)), some (.int (zI (mo % 36))), some (.int (zI (5 - ((mo % 36) / 6)))), some (.int (zI v9))], [.ref 71], es)
      refine x0 (r := (52, [some (.ref (64 + lp)), some (.int (zI bk)), some (.int (zI mo)), some (.int (zI si)), some (.int (zI (mo % 36))), some (.int (zI (5 - ((mo % 36) / 6)))), some (.int (zI v9))], [.int (zI bk), .ref 71], es)) i_127_51 rfl ?_
      refine x0 (r := (53, [some (.ref (64 + lp)), some (.int (zI bk)), some (.int (zI mo)), some (.int (zI si)), some (.int (zI (mo % 36))), some (.int (zI (5 - ((mo % 36) / 6)))), some (.int (zI v9))], [.ref (64 + lp), .int (zI bk), .ref 71], es)) i_127_52 rfl ?_
      refine x_getp i_127_53 ho_es rfl ?_
      show aW _ _ _ _ _ _ (56, [some (.ref (64 + lp)), some (.int (zI bk)), some (.int (zI mo)), some (.int (zI si)), some (.int (zI (mo % 36))), some (.int (zI (5 - ((mo % 36) / 6)))), some (.int (zI v9))], [.ref 71, .int (zI bk), .ref 71], es)
      refine x0 (r := (57, [some (.ref (64 + lp)), some (.int (zI bk)), some (.int (zI mo)), some (.int (zI si)), some (.int (zI (mo % 36))), some (.int (zI (5 - ((mo % 36) / 6)))), some (.int (zI v9))], [.int (zI bk), .ref 71, .int (zI bk), .ref 71], es)) i_127_56 rfl ?_
      exact K3 v1 e_v1 c2 c5 v8 e_v8 v9 e_v9

theorem s_wn60 {O : pOut} {d kc ks : Nat} {Q : pRes → Prop} {es : PH} {bk mo si to rk kd a : Int} {lp : Nat} (hs_es : sh es) (h2 : 0 ≤ to ∧ to ≤ 35)
    (K1 : aW O d 127 kc ks Q (70, [some (.ref (64 + lp)), some (.int (zI bk)), some (.int (zI mo)), some (.int (zI si)), some (.int (zI to)), some (.int (zI rk)), some (.int (zI kd))], [.int (zI rk), .int (zI (to % 6)), .int (zI (-1)), .int (zI kd), .int (zI a), .int (zI bk), .ref 71], es)) :
    aW O d 127 kc ks Q (60, [some (.ref (64 + lp)), some (.int (zI bk)), some (.int (zI mo)), some (.int (zI si)), some (.int (zI to)), some (.int (zI rk)), some (.int (zI kd))], [.int (zI a), .int (zI bk), .ref 71], es) := by
  refine x0 (r := (62, [some (.ref (64 + lp)), some (.int (zI bk)), some (.int (zI mo)), some (.int (zI si)), some (.int (zI to)), some (.int (zI rk)), some (.int (zI kd))], [.int (zI kd), .int (zI a), .int (zI bk), .ref 71], es)) i_127_60 rfl ?_
  refine x0 (r := (63, [some (.ref (64 + lp)), some (.int (zI bk)), some (.int (zI mo)), some (.int (zI si)), some (.int (zI to)), some (.int (zI rk)), some (.int (zI kd))], [.int (zI (-1)), .int (zI kd), .int (zI a), .int (zI bk), .ref 71], es)) i_127_62 (by rfl) ?_
  refine x0 (r := (65, [some (.ref (64 + lp)), some (.int (zI bk)), some (.int (zI mo)), some (.int (zI si)), some (.int (zI to)), some (.int (zI rk)), some (.int (zI kd))], [.int (zI to), .int (zI (-1)), .int (zI kd), .int (zI a), .int (zI bk), .ref 71], es)) i_127_63 rfl ?_
  refine x0 (r := (67, [some (.ref (64 + lp)), some (.int (zI bk)), some (.int (zI mo)), some (.int (zI si)), some (.int (zI to)), some (.int (zI rk)), some (.int (zI kd))], [.int (zI 6), .int (zI to), .int (zI (-1)), .int (zI kd), .int (zI a), .int (zI bk), .ref 71], es)) i_127_65 (by rfl) ?_
  refine x_iremn i_127_67 (by omega) (by unfold i32 iLO iHI; omega) (by unfold i32 iLO iHI; omega) (by omega) ?_
  refine x0 (r := (70, [some (.ref (64 + lp)), some (.int (zI bk)), some (.int (zI mo)), some (.int (zI si)), some (.int (zI to)), some (.int (zI rk)), some (.int (zI kd))], [.int (zI rk), .int (zI (to % 6)), .int (zI (-1)), .int (zI kd), .int (zI a), .int (zI bk), .ref 71], es)) i_127_68 rfl ?_
  exact K1

theorem s_wn73 {O : pOut} {d kc ks : Nat} {Q : pRes → Prop} {es : PH} {bk mo si to rk kd : Int} {lp : Nat} (hs_es : sh es)
    (K1 : Q (.inl (none), es, kc, ks)) :
    aW O d 127 kc ks Q (73, [some (.ref (64 + lp)), some (.int (zI bk)), some (.int (zI mo)), some (.int (zI si)), some (.int (zI to)), some (.int (zI rk)), some (.int (zI kd))], [], es) := by
  refine x_ret (v := none) i_127_73 rfl (fun _ => rfl) rfl rfl rfl ?_
  exact K1

theorem s_addNote {O : pOut} {d kc ks : Nat} {Q : pRes → Prop} {es : PH} {bk : Int} (hs_es : sh es) (h1 : 0 ≤ bk ∧ bk ≤ 2)
    (K1 : ∀ v1 : Int, v1 = (gA es 13 bk.toNat).toInt → ∀ es2 : PH, es2 = sA es 13 bk.toNat (zI (v1 + 1)) → Q (.inl (some (.int (zI v1))), es2, kc, ks)) :
    aW O (d + 2) 118 kc ks Q (0, [some (.ref 71), some (.int (zI bk)), none], [], es) := by
  refine x0 (r := (1, [some (.ref 71), some (.int (zI bk)), none], [.ref 71], es)) i_118_0 rfl ?_
  refine x0 (r := (2, [some (.ref 71), some (.int (zI bk)), none], [.int (zI bk), .ref 71], es)) i_118_1 rfl ?_
  refine x_call (vs := [.ref 71, .int (zI bk)]) (rs := []) i_118_2 rfl (fun _ => rfl) rfl rfl rfl rfl rfl (pCall_v (p := 7) hs_es rfl rfl rfl rfl rfl (by decide) rfl rfl rfl rfl rfl) ?_
  show aW _ _ _ _ _ _ (0, [some (.ref 71), some (.int (zI bk))], [], es)
  refine x0 (r := (1, [some (.ref 71), some (.int (zI bk))], [.ref 71], es)) i_35_0 rfl ?_
  refine x_getr (p := 7) (k := 77) i_35_1 hs_es rfl rfl ?_
  show aW _ _ _ _ _ _ (4, [some (.ref 71), some (.int (zI bk))], [.ref 77], es)
  refine x0 (r := (5, [some (.ref 71), some (.int (zI bk))], [.int (zI bk), .ref 77], es)) i_35_4 rfl ?_
  refine x_call (vs := [.ref 77, .int (zI bk)]) (rs := []) i_35_5 rfl (fun _ => rfl) rfl rfl rfl rfl rfl rfl ?_
  show aW _ _ _ _ _ _ (0, [some (.ref 77), some (.int (zI bk))], [], es)
  refine x0 (r := (1, [some (.ref 77), some (.int (zI bk))], [.int (zI bk)], es)) i_28_0 rfl ?_
  refine x_ifF i_28_1 (by unfold i32 iLO iHI; omega) rfl (by simp only [zC, cR]; omega) ?_
  refine x0 (r := (5, [some (.ref 77), some (.int (zI bk))], [.int (zI bk)], es)) i_28_4 rfl ?_
  refine x0 (r := (6, [some (.ref 77), some (.int (zI bk))], [.ref 77, .int (zI bk)], es)) i_28_5 rfl ?_
  refine x_alen (p := 13) (n := 3) i_28_6 hs_es rfl ?_
  refine x_cmpF i_28_7 (by unfold i32 iLO iHI; omega) (by unfold i32 iLO iHI; omega) rfl (by simp only [zC, cR]; omega) ?_
  refine x0 (r := (11, [some (.ref 77), some (.int (zI bk))], [.ref 77], es)) i_28_10 rfl ?_
  refine x0 (r := (12, [some (.ref 77), some (.int (zI bk))], [.int (zI bk), .ref 77], es)) i_28_11 rfl ?_
  refine x_iald (p := 13) i_28_12 hs_es rfl (by unfold i32 iLO iHI; omega) (by omega) (by omega) ?_
  obtain ⟨v1, e_v1⟩ : ∃ z : Int, z = (gA es 13 bk.toNat).toInt := ⟨_, rfl⟩
  rw [← e_v1]
  have r_v1 : iLO ≤ v1 ∧ v1 ≤ iHI := by rw [e_v1]; exact i32_rng _
  unfold iLO iHI at r_v1
  refine x0 (r := (17, [some (.ref 77), some (.int (zI bk))], [.int (zI v1)], es)) i_28_13 rfl ?_
  refine x_ret (v := some (.int (zI v1))) i_28_17 rfl (fun _ => rfl) rfl rfl rfl ?_
  show aW _ _ _ _ _ _ (8, [some (.ref 71), some (.int (zI bk))], [.int (zI v1)], es)
  refine x_ret (v := some (.int (zI v1))) i_35_8 rfl (fun _ => rfl) rfl rfl rfl ?_
  show aW _ _ _ _ _ _ (5, [some (.ref 71), some (.int (zI bk)), none], [.int (zI v1)], es)
  refine x0 (r := (6, [some (.ref 71), some (.int (zI bk)), some (.int (zI v1))], [], es)) i_118_5 rfl ?_
  refine x0 (r := (7, [some (.ref 71), some (.int (zI bk)), some (.int (zI v1))], [.ref 71], es)) i_118_6 rfl ?_
  refine x_getr (p := 7) (k := 77) i_118_7 hs_es rfl rfl ?_
  show aW _ _ _ _ _ _ (10, [some (.ref 71), some (.int (zI bk)), some (.int (zI v1))], [.ref 77], es)
  refine x0 (r := (11, [some (.ref 71), some (.int (zI bk)), some (.int (zI v1))], [.int (zI bk), .ref 77], es)) i_118_10 rfl ?_
  refine x0 (r := (12, [some (.ref 71), some (.int (zI bk)), some (.int (zI v1))], [.int (zI v1), .int (zI bk), .ref 77], es)) i_118_11 rfl ?_
  refine x0 (r := (13, [some (.ref 71), some (.int (zI bk)), some (.int (zI v1))], [.int (zI 1), .int (zI v1), .int (zI bk), .ref 77], es)) i_118_12 (by rfl) ?_
  refine x_iadd i_118_13 ?_
  refine x_call (vs := [.ref 77, .int (zI bk), .int (zI (v1 + 1))]) (rs := []) i_118_14 rfl (fun _ => rfl) rfl rfl rfl rfl rfl rfl ?_
  show aW _ _ _ _ _ _ (0, [some (.ref 77), some (.int (zI bk)), some (.int (zI (v1 + 1)))], [], es)
  refine x0 (r := (1, [some (.ref 77), some (.int (zI bk)), some (.int (zI (v1 + 1)))], [.int (zI bk)], es)) i_14_0 rfl ?_
  refine x_ifF i_14_1 (by unfold i32 iLO iHI; omega) rfl (by simp only [zC, cR]; omega) ?_
  refine x0 (r := (5, [some (.ref 77), some (.int (zI bk)), some (.int (zI (v1 + 1)))], [.int (zI bk)], es)) i_14_4 rfl ?_
  refine x0 (r := (6, [some (.ref 77), some (.int (zI bk)), some (.int (zI (v1 + 1)))], [.ref 77, .int (zI bk)], es)) i_14_5 rfl ?_
  refine x_alen (p := 13) (n := 3) i_14_6 hs_es rfl ?_
  refine x_cmpF i_14_7 (by unfold i32 iLO iHI; omega) (by unfold i32 iLO iHI; omega) rfl (by simp only [zC, cR]; omega) ?_
  refine x0 (r := (11, [some (.ref 77), some (.int (zI bk)), some (.int (zI (v1 + 1)))], [.ref 77], es)) i_14_10 rfl ?_
  refine x0 (r := (12, [some (.ref 77), some (.int (zI bk)), some (.int (zI (v1 + 1)))], [.int (zI bk), .ref 77], es)) i_14_11 rfl ?_
  refine x0 (r := (13, [some (.ref 77), some (.int (zI bk)), some (.int (zI (v1 + 1)))], [.int (zI (v1 + 1)), .int (zI bk), .ref 77], es)) i_14_12 rfl ?_
  refine x_iast (p := 13) i_14_13 hs_es rfl (by unfold i32 iLO iHI; omega) (by omega) (by omega) ?_
  obtain ⟨es2, e_es2⟩ : ∃ z : PH, z = sA es 13 bk.toNat (zI (v1 + 1)) := ⟨_, rfl⟩
  have hs_es2 : sh es2 := by rw [e_es2]; exact sh_sA hs_es
  rw [← e_es2]
  refine x_ret (v := none) i_14_14 rfl (fun _ => rfl) rfl rfl rfl ?_
  show aW _ _ _ _ _ _ (17, [some (.ref 71), some (.int (zI bk)), some (.int (zI v1))], [], es2)
  refine x0 (r := (18, [some (.ref 71), some (.int (zI bk)), some (.int (zI v1))], [.int (zI v1)], es2)) i_118_17 rfl ?_
  refine x_ret (v := some (.int (zI v1))) i_118_18 rfl (fun _ => rfl) rfl rfl rfl ?_
  exact K1 v1 e_v1 es2 e_es2

theorem s_as0 {O : pOut} {d kc ks : Nat} {Q : pRes → Prop} {es : PH} {sd bk nn so : Int} {lp : Nat} (hs_es : sh es) (ho_es : es[lp]? = some (.inr (10, [.ref 71, .ref 93, .int (zI sd)])))
    (K1 : aW O d 128 kc ks Q (7, [some (.ref (64 + lp)), some (.int (zI bk)), some (.int (zI nn)), some (.int (zI so)), none, none, none], [.int (zI 0), .int (zI nn), .int (zI bk), .ref 71], es)) :
    aW O d 128 kc ks Q (0, [some (.ref (64 + lp)), some (.int (zI bk)), some (.int (zI nn)), some (.int (zI so)), none, none, none], [], es) := by
  refine x0 (r := (1, [some (.ref (64 + lp)), some (.int (zI bk)), some (.int (zI nn)), some (.int (zI so)), none, none, none], [.ref (64 + lp)], es)) i_128_0 rfl ?_
  refine x_getp i_128_1 ho_es rfl ?_
  show aW _ _ _ _ _ _ (4, [some (.ref (64 + lp)), some (.int (zI bk)), some (.int (zI nn)), some (.int (zI so)), none, none, none], [.ref 71], es)
  refine x0 (r := (5, [some (.ref (64 + lp)), some (.int (zI bk)), some (.int (zI nn)), some (.int (zI so)), none, none, none], [.int (zI bk), .ref 71], es)) i_128_4 rfl ?_
  refine x0 (r := (6, [some (.ref (64 + lp)), some (.int (zI bk)), some (.int (zI nn)), some (.int (zI so)), none, none, none], [.int (zI nn), .int (zI bk), .ref 71], es)) i_128_5 rfl ?_
  refine x0 (r := (7, [some (.ref (64 + lp)), some (.int (zI bk)), some (.int (zI nn)), some (.int (zI so)), none, none, none], [.int (zI 0), .int (zI nn), .int (zI bk), .ref 71], es)) i_128_6 (by rfl) ?_
  exact K1

theorem s_as10 {O : pOut} {d kc ks : Nat} {Q : pRes → Prop} {es : PH} {sd bk nn so a : Int} {lp : Nat} (hs_es : sh es) (ho_es : es[lp]? = some (.inr (10, [.ref 71, .ref 93, .int (zI sd)])))
    (K1 : aW O d 128 kc ks Q (19, [some (.ref (64 + lp)), some (.int (zI bk)), some (.int (zI nn)), some (.int (zI so)), some (.int (zI a)), none, none], [.int (zI 2), .int (zI nn), .int (zI bk), .ref 71], es)) :
    aW O d 128 kc ks Q (10, [some (.ref (64 + lp)), some (.int (zI bk)), some (.int (zI nn)), some (.int (zI so)), none, none, none], [.int (zI a)], es) := by
  refine x0 (r := (12, [some (.ref (64 + lp)), some (.int (zI bk)), some (.int (zI nn)), some (.int (zI so)), some (.int (zI a)), none, none], [], es)) i_128_10 rfl ?_
  refine x0 (r := (13, [some (.ref (64 + lp)), some (.int (zI bk)), some (.int (zI nn)), some (.int (zI so)), some (.int (zI a)), none, none], [.ref (64 + lp)], es)) i_128_12 rfl ?_
  refine x_getp i_128_13 ho_es rfl ?_
  show aW _ _ _ _ _ _ (16, [some (.ref (64 + lp)), some (.int (zI bk)), some (.int (zI nn)), some (.int (zI so)), some (.int (zI a)), none, none], [.ref 71], es)
  refine x0 (r := (17, [some (.ref (64 + lp)), some (.int (zI bk)), some (.int (zI nn)), some (.int (zI so)), some (.int (zI a)), none, none], [.int (zI bk), .ref 71], es)) i_128_16 rfl ?_
  refine x0 (r := (18, [some (.ref (64 + lp)), some (.int (zI bk)), some (.int (zI nn)), some (.int (zI so)), some (.int (zI a)), none, none], [.int (zI nn), .int (zI bk), .ref 71], es)) i_128_17 rfl ?_
  refine x0 (r := (19, [some (.ref (64 + lp)), some (.int (zI bk)), some (.int (zI nn)), some (.int (zI so)), some (.int (zI a)), none, none], [.int (zI 2), .int (zI nn), .int (zI bk), .ref 71], es)) i_128_18 (by rfl) ?_
  exact K1

theorem s_as22 {O : pOut} {d kc ks : Nat} {Q : pRes → Prop} {es : PH} {sd bk nn so kd a : Int} {lp : Nat} (hs_es : sh es) (ho_es : es[lp]? = some (.inr (10, [.ref 71, .ref 93, .int (zI sd)])))
    (K1 : aW O d 128 kc ks Q (31, [some (.ref (64 + lp)), some (.int (zI bk)), some (.int (zI nn)), some (.int (zI so)), some (.int (zI kd)), some (.int (zI a)), none], [.int (zI 3), .int (zI nn), .int (zI bk), .ref 71], es)) :
    aW O d 128 kc ks Q (22, [some (.ref (64 + lp)), some (.int (zI bk)), some (.int (zI nn)), some (.int (zI so)), some (.int (zI kd)), none, none], [.int (zI a)], es) := by
  refine x0 (r := (24, [some (.ref (64 + lp)), some (.int (zI bk)), some (.int (zI nn)), some (.int (zI so)), some (.int (zI kd)), some (.int (zI a)), none], [], es)) i_128_22 rfl ?_
  refine x0 (r := (25, [some (.ref (64 + lp)), some (.int (zI bk)), some (.int (zI nn)), some (.int (zI so)), some (.int (zI kd)), some (.int (zI a)), none], [.ref (64 + lp)], es)) i_128_24 rfl ?_
  refine x_getp i_128_25 ho_es rfl ?_
  show aW _ _ _ _ _ _ (28, [some (.ref (64 + lp)), some (.int (zI bk)), some (.int (zI nn)), some (.int (zI so)), some (.int (zI kd)), some (.int (zI a)), none], [.ref 71], es)
  refine x0 (r := (29, [some (.ref (64 + lp)), some (.int (zI bk)), some (.int (zI nn)), some (.int (zI so)), some (.int (zI kd)), some (.int (zI a)), none], [.int (zI bk), .ref 71], es)) i_128_28 rfl ?_
  refine x0 (r := (30, [some (.ref (64 + lp)), some (.int (zI bk)), some (.int (zI nn)), some (.int (zI so)), some (.int (zI kd)), some (.int (zI a)), none], [.int (zI nn), .int (zI bk), .ref 71], es)) i_128_29 rfl ?_
  refine x0 (r := (31, [some (.ref (64 + lp)), some (.int (zI bk)), some (.int (zI nn)), some (.int (zI so)), some (.int (zI kd)), some (.int (zI a)), none], [.int (zI 3), .int (zI nn), .int (zI bk), .ref 71], es)) i_128_30 (by rfl) ?_
  exact K1

theorem s_as34 {O : pOut} {d kc ks : Nat} {Q : pRes → Prop} {es : PH} {sd bk nn so kd fl a : Int} {lp : Nat} (hs_es : sh es) (ho_es : es[lp]? = some (.inr (10, [.ref 71, .ref 93, .int (zI sd)]))) (hT_es : hOK tT es) (h1 : -2147483648 ≤ so ∧ so ≤ 2147483647) (h2 : -2147483648 ≤ kd ∧ kd ≤ 2147483647) (h3 : -2147483648 ≤ fl ∧ fl ≤ 2147483647) (h4 : -2147483648 ≤ a ∧ a ≤ 2147483647)
    (K1 : so ≠ 0 → so ≠ 1 → a ≠ 5 → aW O (d + 1) 128 kc ks Q (102, [some (.ref (64 + lp)), some (.int (zI bk)), some (.int (zI nn)), some (.int (zI so)), some (.int (zI kd)), some (.int (zI fl)), some (.int (zI (a + 1)))], [.int (zI (a + 1)), .int (zI fl), .int (zI (-1)), .int (zI kd), .int (zI nn), .int (zI bk), .ref 71], es))
    (K2 : so ≠ 0 → so ≠ 1 → ¬ (a ≠ 5) → aW O (d + 1) 128 kc ks Q (102, [some (.ref (64 + lp)), some (.int (zI bk)), some (.int (zI nn)), some (.int (zI so)), some (.int (zI kd)), some (.int (zI fl)), some (.int (zI (a - 1)))], [.int (zI (a - 1)), .int (zI fl), .int (zI (-1)), .int (zI kd), .int (zI nn), .int (zI bk), .ref 71], es))
    (K3 : so ≠ 0 → ¬ (so ≠ 1) → fl ≠ 5 → aW O (d + 1) 128 kc ks Q (102, [some (.ref (64 + lp)), some (.int (zI bk)), some (.int (zI nn)), some (.int (zI so)), some (.int (zI kd)), some (.int (zI (fl + 1))), some (.int (zI a))], [.int (zI a), .int (zI (fl + 1)), .int (zI (-1)), .int (zI kd), .int (zI nn), .int (zI bk), .ref 71], es))
    (K4 : so ≠ 0 → ¬ (so ≠ 1) → ¬ (fl ≠ 5) → aW O (d + 1) 128 kc ks Q (102, [some (.ref (64 + lp)), some (.int (zI bk)), some (.int (zI nn)), some (.int (zI so)), some (.int (zI kd)), some (.int (zI (fl - 1))), some (.int (zI a))], [.int (zI a), .int (zI (fl - 1)), .int (zI (-1)), .int (zI kd), .int (zI nn), .int (zI bk), .ref 71], es))
    (K5 : ¬ (so ≠ 0) → ∀ v5 : Int, v5 = (zI (kd + 1)).toInt → ∀ v6 : Int, v6 = (gI es 7 0).toInt → v5 < v6 → aW O (d + 1) 128 kc ks Q (102, [some (.ref (64 + lp)), some (.int (zI bk)), some (.int (zI nn)), some (.int (zI so)), some (.int (zI (kd + 1))), some (.int (zI fl)), some (.int (zI a))], [.int (zI a), .int (zI fl), .int (zI (-1)), .int (zI (kd + 1)), .int (zI nn), .int (zI bk), .ref 71], es))
    (K6 : ¬ (so ≠ 0) → ∀ v5 : Int, v5 = (zI (kd + 1)).toInt → ∀ v6 : Int, v6 = (gI es 7 0).toInt → ¬ (v5 < v6) → aW O (d + 1) 128 kc ks Q (102, [some (.ref (64 + lp)), some (.int (zI bk)), some (.int (zI nn)), some (.int (zI so)), some (.int (zI 0)), some (.int (zI fl)), some (.int (zI a))], [.int (zI a), .int (zI fl), .int (zI (-1)), .int (zI 0), .int (zI nn), .int (zI bk), .ref 71], es)) :
    aW O (d + 1) 128 kc ks Q (34, [some (.ref (64 + lp)), some (.int (zI bk)), some (.int (zI nn)), some (.int (zI so)), some (.int (zI kd)), some (.int (zI fl)), none], [.int (zI a)], es) := by
  refine x0 (r := (36, [some (.ref (64 + lp)), some (.int (zI bk)), some (.int (zI nn)), some (.int (zI so)), some (.int (zI kd)), some (.int (zI fl)), some (.int (zI a))], [], es)) i_128_34 rfl ?_
  refine x0 (r := (37, [some (.ref (64 + lp)), some (.int (zI bk)), some (.int (zI nn)), some (.int (zI so)), some (.int (zI kd)), some (.int (zI fl)), some (.int (zI a))], [.int (zI so)], es)) i_128_36 rfl ?_
  by_cases c1 : so ≠ 0
  · refine x_ifT i_128_37 (by unfold i32 iLO iHI; omega) rfl (by simp only [zC, cR]; omega) ?_
    refine x0 (r := (68, [some (.ref (64 + lp)), some (.int (zI bk)), some (.int (zI nn)), some (.int (zI so)), some (.int (zI kd)), some (.int (zI fl)), some (.int (zI a))], [.int (zI so)], es)) i_128_67 rfl ?_
    refine x0 (r := (69, [some (.ref (64 + lp)), some (.int (zI bk)), some (.int (zI nn)), some (.int (zI so)), some (.int (zI kd)), some (.int (zI fl)), some (.int (zI a))], [.int (zI 1), .int (zI so)], es)) i_128_68 (by rfl) ?_
    by_cases c2 : so ≠ 1
    · refine x_cmpT i_128_69 (by unfold i32 iLO iHI; omega) (by unfold i32 iLO iHI; omega) rfl (by simp only [zC, cR]; omega) ?_
      refine x0 (r := (84, [some (.ref (64 + lp)), some (.int (zI bk)), some (.int (zI nn)), some (.int (zI so)), some (.int (zI kd)), some (.int (zI fl)), some (.int (zI a))], [.int (zI a)], es)) i_128_82 rfl ?_
      refine x_call (vs := [.int (zI a)]) (rs := []) i_128_84 rfl (fun _ => rfl) rfl rfl rfl rfl rfl rfl ?_
      show aW _ _ _ _ _ _ (0, [some (.int (zI a))], [], es)
      refine x0 (r := (1, [some (.int (zI a))], [.int (zI a)], es)) i_129_0 rfl ?_
      refine x0 (r := (2, [some (.int (zI a))], [.int (zI 5), .int (zI a)], es)) i_129_1 (by rfl) ?_
      by_cases c3 : a ≠ 5
      · refine x_cmpT i_129_2 (by unfold i32 iLO iHI; omega) (by unfold i32 iLO iHI; omega) rfl (by simp only [zC, cR]; omega) ?_
        refine x0 (r := (12, [some (.int (zI a))], [.int (zI a)], es)) i_129_11 rfl ?_
        refine x0 (r := (13, [some (.int (zI a))], [.int (zI 1), .int (zI a)], es)) i_129_12 (by rfl) ?_
        refine x_iadd i_129_13 ?_
        refine x_ret (v := some (.int (zI (a + 1)))) i_129_14 rfl (fun _ => rfl) rfl rfl rfl ?_
        show aW _ _ _ _ _ _ (87, [some (.ref (64 + lp)), some (.int (zI bk)), some (.int (zI nn)), some (.int (zI so)), some (.int (zI kd)), some (.int (zI fl)), some (.int (zI a))], [.int (zI (a + 1))], es)
        refine x0 (r := (89, [some (.ref (64 + lp)), some (.int (zI bk)), some (.int (zI nn)), some (.int (zI so)), some (.int (zI kd)), some (.int (zI fl)), some (.int (zI (a + 1)))], [], es)) i_128_87 rfl ?_
        refine x0 (r := (90, [some (.ref (64 + lp)), some (.int (zI bk)), some (.int (zI nn)), some (.int (zI so)), some (.int (zI kd)), some (.int (zI fl)), some (.int (zI (a + 1)))], [.ref (64 + lp)], es)) i_128_89 rfl ?_
        refine x_getp i_128_90 ho_es rfl ?_
        show aW _ _ _ _ _ _ (93, [some (.ref (64 + lp)), some (.int (zI bk)), some (.int (zI nn)), some (.int (zI so)), some (.int (zI kd)), some (.int (zI fl)), some (.int (zI (a + 1)))], [.ref 71], es)
        refine x0 (r := (94, [some (.ref (64 + lp)), some (.int (zI bk)), some (.int (zI nn)), some (.int (zI so)), some (.int (zI kd)), some (.int (zI fl)), some (.int (zI (a + 1)))], [.int (zI bk), .ref 71], es)) i_128_93 rfl ?_
        refine x0 (r := (95, [some (.ref (64 + lp)), some (.int (zI bk)), some (.int (zI nn)), some (.int (zI so)), some (.int (zI kd)), some (.int (zI fl)), some (.int (zI (a + 1)))], [.int (zI nn), .int (zI bk), .ref 71], es)) i_128_94 rfl ?_
        refine x0 (r := (97, [some (.ref (64 + lp)), some (.int (zI bk)), some (.int (zI nn)), some (.int (zI so)), some (.int (zI kd)), some (.int (zI fl)), some (.int (zI (a + 1)))], [.int (zI kd), .int (zI nn), .int (zI bk), .ref 71], es)) i_128_95 rfl ?_
        refine x0 (r := (98, [some (.ref (64 + lp)), some (.int (zI bk)), some (.int (zI nn)), some (.int (zI so)), some (.int (zI kd)), some (.int (zI fl)), some (.int (zI (a + 1)))], [.int (zI (-1)), .int (zI kd), .int (zI nn), .int (zI bk), .ref 71], es)) i_128_97 (by rfl) ?_
        refine x0 (r := (100, [some (.ref (64 + lp)), some (.int (zI bk)), some (.int (zI nn)), some (.int (zI so)), some (.int (zI kd)), some (.int (zI fl)), some (.int (zI (a + 1)))], [.int (zI fl), .int (zI (-1)), .int (zI kd), .int (zI nn), .int (zI bk), .ref 71], es)) i_128_98 rfl ?_
        refine x0 (r := (102, [some (.ref (64 + lp)), some (.int (zI bk)), some (.int (zI nn)), some (.int (zI so)), some (.int (zI kd)), some (.int (zI fl)), some (.int (zI (a + 1)))], [.int (zI (a + 1)), .int (zI fl), .int (zI (-1)), .int (zI kd), .int (zI nn), .int (zI bk), .ref 71], es)) i_128_100 rfl ?_
        exact K1 c1 c2 c3
      · refine x_cmpF i_129_2 (by unfold i32 iLO iHI; omega) (by unfold i32 iLO iHI; omega) rfl (by simp only [zC, cR]; omega) ?_
        refine x0 (r := (6, [some (.int (zI a))], [.int (zI a)], es)) i_129_5 rfl ?_
        refine x0 (r := (7, [some (.int (zI a))], [.int (zI 1), .int (zI a)], es)) i_129_6 (by rfl) ?_
        refine x_isub i_129_7 ?_
        refine x0 (r := (14, [some (.int (zI a))], [.int (zI (a - 1))], es)) i_129_8 rfl ?_
        refine x_ret (v := some (.int (zI (a - 1)))) i_129_14 rfl (fun _ => rfl) rfl rfl rfl ?_
        show aW _ _ _ _ _ _ (87, [some (.ref (64 + lp)), some (.int (zI bk)), some (.int (zI nn)), some (.int (zI so)), some (.int (zI kd)), some (.int (zI fl)), some (.int (zI a))], [.int (zI (a - 1))], es)
        refine x0 (r := (89, [some (.ref (64 + lp)), some (.int (zI bk)), some (.int (zI nn)), some (.int (zI so)), some (.int (zI kd)), some (.int (zI fl)), some (.int (zI (a - 1)))], [], es)) i_128_87 rfl ?_
        refine x0 (r := (90, [some (.ref (64 + lp)), some (.int (zI bk)), some (.int (zI nn)), some (.int (zI so)), some (.int (zI kd)), some (.int (zI fl)), some (.int (zI (a - 1)))], [.ref (64 + lp)], es)) i_128_89 rfl ?_
        refine x_getp i_128_90 ho_es rfl ?_
        show aW _ _ _ _ _ _ (93, [some (.ref (64 + lp)), some (.int (zI bk)), some (.int (zI nn)), some (.int (zI so)), some (.int (zI kd)), some (.int (zI fl)), some (.int (zI (a - 1)))], [.ref 71], es)
        refine x0 (r := (94, [some (.ref (64 + lp)), some (.int (zI bk)), some (.int (zI nn)), some (.int (zI so)), some (.int (zI kd)), some (.int (zI fl)), some (.int (zI (a - 1)))], [.int (zI bk), .ref 71], es)) i_128_93 rfl ?_
        refine x0 (r := (95, [some (.ref (64 + lp)), some (.int (zI bk)), some (.int (zI nn)), some (.int (zI so)), some (.int (zI kd)), some (.int (zI fl)), some (.int (zI (a - 1)))], [.int (zI nn), .int (zI bk), .ref 71], es)) i_128_94 rfl ?_
        refine x0 (r := (97, [some (.ref (64 + lp)), some (.int (zI bk)), some (.int (zI nn)), some (.int (zI so)), some (.int (zI kd)), some (.int (zI fl)), some (.int (zI (a - 1)))], [.int (zI kd), .int (zI nn), .int (zI bk), .ref 71], es)) i_128_95 rfl ?_
        refine x0 (r := (98, [some (.ref (64 + lp)), some (.int (zI bk)), some (.int (zI nn)), some (.int (zI so)), some (.int (zI kd)), some (.int (zI fl)), some (.int (zI (a - 1)))], [.int (zI (-1)), .int (zI kd), .int (zI nn), .int (zI bk), .ref 71], es)) i_128_97 (by rfl) ?_
        refine x0 (r := (100, [some (.ref (64 + lp)), some (.int (zI bk)), some (.int (zI nn)), some (.int (zI so)), some (.int (zI kd)), some (.int (zI fl)), some (.int (zI (a - 1)))], [.int (zI fl), .int (zI (-1)), .int (zI kd), .int (zI nn), .int (zI bk), .ref 71], es)) i_128_98 rfl ?_
        refine x0 (r := (102, [some (.ref (64 + lp)), some (.int (zI bk)), some (.int (zI nn)), some (.int (zI so)), some (.int (zI kd)), some (.int (zI fl)), some (.int (zI (a - 1)))], [.int (zI (a - 1)), .int (zI fl), .int (zI (-1)), .int (zI kd), .int (zI nn), .int (zI bk), .ref 71], es)) i_128_100 rfl ?_
        exact K2 c1 c2 c3
    · refine x_cmpF i_128_69 (by unfold i32 iLO iHI; omega) (by unfold i32 iLO iHI; omega) rfl (by simp only [zC, cR]; omega) ?_
      refine x0 (r := (74, [some (.ref (64 + lp)), some (.int (zI bk)), some (.int (zI nn)), some (.int (zI so)), some (.int (zI kd)), some (.int (zI fl)), some (.int (zI a))], [.int (zI fl)], es)) i_128_72 rfl ?_
      refine x_call (vs := [.int (zI fl)]) (rs := []) i_128_74 rfl (fun _ => rfl) rfl rfl rfl rfl rfl rfl ?_
      show aW _ _ _ _ _ _ (0, [some (.int (zI fl))], [], es)
      refine x0 (r := (1, [some (.int (zI fl))], [.int (zI fl)], es)) i_129_0 rfl ?_
      refine x0 (r := (2, [some (.int (zI fl))], [.int (zI 5), .int (zI fl)], es)) i_129_1 (by rfl) ?_
      by_cases c4 : fl ≠ 5
      · refine x_cmpT i_129_2 (by unfold i32 iLO iHI; omega) (by unfold i32 iLO iHI; omega) rfl (by simp only [zC, cR]; omega) ?_
        refine x0 (r := (12, [some (.int (zI fl))], [.int (zI fl)], es)) i_129_11 rfl ?_
        refine x0 (r := (13, [some (.int (zI fl))], [.int (zI 1), .int (zI fl)], es)) i_129_12 (by rfl) ?_
        refine x_iadd i_129_13 ?_
        refine x_ret (v := some (.int (zI (fl + 1)))) i_129_14 rfl (fun _ => rfl) rfl rfl rfl ?_
        show aW _ _ _ _ _ _ (77, [some (.ref (64 + lp)), some (.int (zI bk)), some (.int (zI nn)), some (.int (zI so)), some (.int (zI kd)), some (.int (zI fl)), some (.int (zI a))], [.int (zI (fl + 1))], es)
        refine x0 (r := (79, [some (.ref (64 + lp)), some (.int (zI bk)), some (.int (zI nn)), some (.int (zI so)), some (.int (zI kd)), some (.int (zI (fl + 1))), some (.int (zI a))], [], es)) i_128_77 rfl ?_
        refine x0 (r := (89, [some (.ref (64 + lp)), some (.int (zI bk)), some (.int (zI nn)), some (.int (zI so)), some (.int (zI kd)), some (.int (zI (fl + 1))), some (.int (zI a))], [], es)) i_128_79 rfl ?_
        refine x0 (r := (90, [some (.ref (64 + lp)), some (.int (zI bk)), some (.int (zI nn)), some (.int (zI so)), some (.int (zI kd)), some (.int (zI (fl + 1))), some (.int (zI a))], [.ref (64 + lp)], es)) i_128_89 rfl ?_
        refine x_getp i_128_90 ho_es rfl ?_
        show aW _ _ _ _ _ _ (93, [some (.ref (64 + lp)), some (.int (zI bk)), some (.int (zI nn)), some (.int (zI so)), some (.int (zI kd)), some (.int (zI (fl + 1))), some (.int (zI a))], [.ref 71], es)
        refine x0 (r := (94, [some (.ref (64 + lp)), some (.int (zI bk)), some (.int (zI nn)), some (.int (zI so)), some (.int (zI kd)), some (.int (zI (fl + 1))), some (.int (zI a))], [.int (zI bk), .ref 71], es)) i_128_93 rfl ?_
        refine x0 (r := (95, [some (.ref (64 + lp)), some (.int (zI bk)), some (.int (zI nn)), some (.int (zI so)), some (.int (zI kd)), some (.int (zI (fl + 1))), some (.int (zI a))], [.int (zI nn), .int (zI bk), .ref 71], es)) i_128_94 rfl ?_
        refine x0 (r := (97, [some (.ref (64 + lp)), some (.int (zI bk)), some (.int (zI nn)), some (.int (zI so)), some (.int (zI kd)), some (.int (zI (fl + 1))), some (.int (zI a))], [.int (zI kd), .int (zI nn), .int (zI bk), .ref 71], es)) i_128_95 rfl ?_
        refine x0 (r := (98, [some (.ref (64 + lp)), some (.int (zI bk)), some (.int (zI nn)), some (.int (zI so)), some (.int (zI kd)), some (.int (zI (fl + 1))), some (.int (zI a))], [.int (zI (-1)), .int (zI kd), .int (zI nn), .int (zI bk), .ref 71], es)) i_128_97 (by rfl) ?_
        refine x0 (r := (100, [some (.ref (64 + lp)), some (.int (zI bk)), some (.int (zI nn)), some (.int (zI so)), some (.int (zI kd)), some (.int (zI (fl + 1))), some (.int (zI a))], [.int (zI (fl + 1)), .int (zI (-1)), .int (zI kd), .int (zI nn), .int (zI bk), .ref 71], es)) i_128_98 rfl ?_
        refine x0 (r := (102, [some (.ref (64 + lp)), some (.int (zI bk)), some (.int (zI nn)), some (.int (zI so)), some (.int (zI kd)), some (.int (zI (fl + 1))), some (.int (zI a))], [.int (zI a), .int (zI (fl + 1)), .int (zI (-1)), .int (zI kd), .int (zI nn), .int (zI bk), .ref 71], es)) i_128_100 rfl ?_
        exact K3 c1 c2 c4
      · refine x_cmpF i_129_2 (by unfold i32 iLO iHI; omega) (by unfold i32 iLO iHI; omega) rfl (by simp only [zC, cR]; omega) ?_
        refine x0 (r := (6, [some (.int (zI fl))], [.int (zI fl)], es)) i_129_5 rfl ?_
        refine x0 (r := (7, [some (.int (zI fl))], [.int (zI 1), .int (zI fl)], es)) i_129_6 (by rfl) ?_
        refine x_isub i_129_7 ?_
        refine x0 (r := (14, [some (.int (zI fl))], [.int (zI (fl - 1))], es)) i_129_8 rfl ?_
        refine x_ret (v := some (.int (zI (fl - 1)))) i_129_14 rfl (fun _ => rfl) rfl rfl rfl ?_
        show aW _ _ _ _ _ _ (77, [some (.ref (64 + lp)), some (.int (zI bk)), some (.int (zI nn)), some (.int (zI so)), some (.int (zI kd)), some (.int (zI fl)), some (.int (zI a))], [.int (zI (fl - 1))], es)
        refine x0 (r := (79, [some (.ref (64 + lp)), some (.int (zI bk)), some (.int (zI nn)), some (.int (zI so)), some (.int (zI kd)), some (.int (zI (fl - 1))), some (.int (zI a))], [], es)) i_128_77 rfl ?_
        refine x0 (r := (89, [some (.ref (64 + lp)), some (.int (zI bk)), some (.int (zI nn)), some (.int (zI so)), some (.int (zI kd)), some (.int (zI (fl - 1))), some (.int (zI a))], [], es)) i_128_79 rfl ?_
        refine x0 (r := (90, [some (.ref (64 + lp)), some (.int (zI bk)), some (.int (zI nn)), some (.int (zI so)), some (.int (zI kd)), some (.int (zI (fl - 1))), some (.int (zI a))], [.ref (64 + lp)], es)) i_128_89 rfl ?_
        refine x_getp i_128_90 ho_es rfl ?_
        show aW _ _ _ _ _ _ (93, [some (.ref (64 + lp)), some (.int (zI bk)), some (.int (zI nn)), some (.int (zI so)), some (.int (zI kd)), some (.int (zI (fl - 1))), some (.int (zI a))], [.ref 71], es)
        refine x0 (r := (94, [some (.ref (64 + lp)), some (.int (zI bk)), some (.int (zI nn)), some (.int (zI so)), some (.int (zI kd)), some (.int (zI (fl - 1))), some (.int (zI a))], [.int (zI bk), .ref 71], es)) i_128_93 rfl ?_
        refine x0 (r := (95, [some (.ref (64 + lp)), some (.int (zI bk)), some (.int (zI nn)), some (.int (zI so)), some (.int (zI kd)), some (.int (zI (fl - 1))), some (.int (zI a))], [.int (zI nn), .int (zI bk), .ref 71], es)) i_128_94 rfl ?_
        refine x0 (r := (97, [some (.ref (64 + lp)), some (.int (zI bk)), some (.int (zI nn)), some (.int (zI so)), some (.int (zI kd)), some (.int (zI (fl - 1))), some (.int (zI a))], [.int (zI kd), .int (zI nn), .int (zI bk), .ref 71], es)) i_128_95 rfl ?_
        refine x0 (r := (98, [some (.ref (64 + lp)), some (.int (zI bk)), some (.int (zI nn)), some (.int (zI so)), some (.int (zI kd)), some (.int (zI (fl - 1))), some (.int (zI a))], [.int (zI (-1)), .int (zI kd), .int (zI nn), .int (zI bk), .ref 71], es)) i_128_97 (by rfl) ?_
        refine x0 (r := (100, [some (.ref (64 + lp)), some (.int (zI bk)), some (.int (zI nn)), some (.int (zI so)), some (.int (zI kd)), some (.int (zI (fl - 1))), some (.int (zI a))], [.int (zI (fl - 1)), .int (zI (-1)), .int (zI kd), .int (zI nn), .int (zI bk), .ref 71], es)) i_128_98 rfl ?_
        refine x0 (r := (102, [some (.ref (64 + lp)), some (.int (zI bk)), some (.int (zI nn)), some (.int (zI so)), some (.int (zI kd)), some (.int (zI (fl - 1))), some (.int (zI a))], [.int (zI a), .int (zI (fl - 1)), .int (zI (-1)), .int (zI kd), .int (zI nn), .int (zI bk), .ref 71], es)) i_128_100 rfl ?_
        exact K4 c1 c2 c4
  · refine x_ifF i_128_37 (by unfold i32 iLO iHI; omega) rfl (by simp only [zC, cR]; omega) ?_
    refine x0 (r := (42, [some (.ref (64 + lp)), some (.int (zI bk)), some (.int (zI nn)), some (.int (zI so)), some (.int (zI kd)), some (.int (zI fl)), some (.int (zI a))], [.int (zI kd)], es)) i_128_40 rfl ?_
    refine x0 (r := (43, [some (.ref (64 + lp)), some (.int (zI bk)), some (.int (zI nn)), some (.int (zI so)), some (.int (zI kd)), some (.int (zI fl)), some (.int (zI a))], [.int (zI 1), .int (zI kd)], es)) i_128_42 (by rfl) ?_
    refine x_iadd i_128_43 ?_
    rw [← zI_id (zI (kd + 1))]
    obtain ⟨v5, e_v5⟩ : ∃ z : Int, z = (zI (kd + 1)).toInt := ⟨_, rfl⟩
    rw [← e_v5]
    have r_v5 : iLO ≤ v5 ∧ v5 ≤ iHI := by rw [e_v5]; exact i32_rng _
    unfold iLO iHI at r_v5
    refine x0 (r := (45, [some (.ref (64 + lp)), some (.int (zI bk)), some (.int (zI nn)), some (.int (zI so)), some (.int (zI kd)), some (.int (zI fl)), some (.int (zI a))], [.ref (64 + lp), .int (zI v5)], es)) i_128_44 rfl ?_
    refine x_getp i_128_45 ho_es rfl ?_
    show aW _ _ _ _ _ _ (48, [some (.ref (64 + lp)), some (.int (zI bk)), some (.int (zI nn)), some (.int (zI so)), some (.int (zI kd)), some (.int (zI fl)), some (.int (zI a))], [.ref 71, .int (zI v5)], es)
    refine x_geti (p := 7) i_128_48 hs_es rfl rfl ?_
    obtain ⟨v6, e_v6⟩ : ∃ z : Int, z = (gI es 7 0).toInt := ⟨_, rfl⟩
    rw [← e_v6]
    have r_v6 : iLO ≤ v6 ∧ v6 ≤ iHI := by rw [e_v6]; exact i32_rng _
    unfold iLO iHI at r_v6
    by_cases c7 : v5 < v6
    · refine x_cmpT i_128_51 (by unfold i32 iLO iHI; omega) (by unfold i32 iLO iHI; omega) rfl (by simp only [zC, cR]; omega) ?_
      refine x0 (r := (60, [some (.ref (64 + lp)), some (.int (zI bk)), some (.int (zI nn)), some (.int (zI so)), some (.int (zI kd)), some (.int (zI fl)), some (.int (zI a))], [.int (zI kd)], es)) i_128_58 rfl ?_
      refine x0 (r := (61, [some (.ref (64 + lp)), some (.int (zI bk)), some (.int (zI nn)), some (.int (zI so)), some (.int (zI kd)), some (.int (zI fl)), some (.int (zI a))], [.int (zI 1), .int (zI kd)], es)) i_128_60 (by rfl) ?_
      refine x_iadd i_128_61 ?_
      refine x0 (r := (64, [some (.ref (64 + lp)), some (.int (zI bk)), some (.int (zI nn)), some (.int (zI so)), some (.int (zI (kd + 1))), some (.int (zI fl)), some (.int (zI a))], [], es)) i_128_62 rfl ?_
      refine x0 (r := (89, [some (.ref (64 + lp)), some (.int (zI bk)), some (.int (zI nn)), some (.int (zI so)), some (.int (zI (kd + 1))), some (.int (zI fl)), some (.int (zI a))], [], es)) i_128_64 rfl ?_
      refine x0 (r := (90, [some (.ref (64 + lp)), some (.int (zI bk)), some (.int (zI nn)), some (.int (zI so)), some (.int (zI (kd + 1))), some (.int (zI fl)), some (.int (zI a))], [.ref (64 + lp)], es)) i_128_89 rfl ?_
      refine x_getp i_128_90 ho_es rfl ?_
      show aW _ _ _ _ _ _ (93, [some (.ref (64 + lp)), some (.int (zI bk)), some (.int (zI nn)), some (.int (zI so)), some (.int (zI (kd + 1))), some (.int (zI fl)), some (.int (zI a))], [.ref 71], es)
      refine x0 (r := (94, [some (.ref (64 + lp)), some (.int (zI bk)), some (.int (zI nn)), some (.int (zI so)), some (.int (zI (kd + 1))), some (.int (zI fl)), some (.int (zI a))], [.int (zI bk), .ref 71], es)) i_128_93 rfl ?_
      refine x0 (r := (95, [some (.ref (64 + lp)), some (.int (zI bk)), some (.int (zI nn)), some (.int (zI so)), some (.int (zI (kd + 1))), some (.int (zI fl)), some (.int (zI a))], [.int (zI nn), .int (zI bk), .ref 71], es)) i_128_94 rfl ?_
      refine x0 (r := (97, [some (.ref (64 + lp)), some (.int (zI bk)), some (.int (zI nn)), some (.int (zI so)), some (.int (zI (kd + 1))), some (.int (zI fl)), some (.int (zI a))], [.int (zI (kd + 1)), .int (zI nn), .int (zI bk), .ref 71], es)) i_128_95 rfl ?_
      refine x0 (r := (98, [some (.ref (64 + lp)), some (.int (zI bk)), some (.int (zI nn)), some (.int (zI so)), some (.int (zI (kd + 1))), some (.int (zI fl)), some (.int (zI a))], [.int (zI (-1)), .int (zI (kd + 1)), .int (zI nn), .int (zI bk), .ref 71], es)) i_128_97 (by rfl) ?_
      refine x0 (r := (100, [some (.ref (64 + lp)), some (.int (zI bk)), some (.int (zI nn)), some (.int (zI so)), some (.int (zI (kd + 1))), some (.int (zI fl)), some (.int (zI a))], [.int (zI fl), .int (zI (-1)), .int (zI (kd + 1)), .int (zI nn), .int (zI bk), .ref 71], es)) i_128_98 rfl ?_
      refine x0 (r := (102, [some (.ref (64 + lp)), some (.int (zI bk)), some (.int (zI nn)), some (.int (zI so)), some (.int (zI (kd + 1))), some (.int (zI fl)), some (.int (zI a))], [.int (zI a), .int (zI fl), .int (zI (-1)), .int (zI (kd + 1)), .int (zI nn), .int (zI bk), .ref 71], es)) i_128_100 rfl ?_
      exact K5 c1 v5 e_v5 v6 e_v6 c7
    · refine x_cmpF i_128_51 (by unfold i32 iLO iHI; omega) (by unfold i32 iLO iHI; omega) rfl (by simp only [zC, cR]; omega) ?_
      refine x0 (r := (55, [some (.ref (64 + lp)), some (.int (zI bk)), some (.int (zI nn)), some (.int (zI so)), some (.int (zI kd)), some (.int (zI fl)), some (.int (zI a))], [.int (zI 0)], es)) i_128_54 (by rfl) ?_
      refine x0 (r := (62, [some (.ref (64 + lp)), some (.int (zI bk)), some (.int (zI nn)), some (.int (zI so)), some (.int (zI kd)), some (.int (zI fl)), some (.int (zI a))], [.int (zI 0)], es)) i_128_55 rfl ?_
      refine x0 (r := (64, [some (.ref (64 + lp)), some (.int (zI bk)), some (.int (zI nn)), some (.int (zI so)), some (.int (zI 0)), some (.int (zI fl)), some (.int (zI a))], [], es)) i_128_62 rfl ?_
      refine x0 (r := (89, [some (.ref (64 + lp)), some (.int (zI bk)), some (.int (zI nn)), some (.int (zI so)), some (.int (zI 0)), some (.int (zI fl)), some (.int (zI a))], [], es)) i_128_64 rfl ?_
      refine x0 (r := (90, [some (.ref (64 + lp)), some (.int (zI bk)), some (.int (zI nn)), some (.int (zI so)), some (.int (zI 0)), some (.int (zI fl)), some (.int (zI a))], [.ref (64 + lp)], es)) i_128_89 rfl ?_
      refine x_getp i_128_90 ho_es rfl ?_
      show aW _ _ _ _ _ _ (93, [some (.ref (64 + lp)), some (.int (zI bk)), some (.int (zI nn)), some (.int (zI so)), some (.int (zI 0)), some (.int (zI fl)), some (.int (zI a))], [.ref 71], es)
      refine x0 (r := (94, [some (.ref (64 + lp)), some (.int (zI bk)), some (.int (zI nn)), some (.int (zI so)), some (.int (zI 0)), some (.int (zI fl)), some (.int (zI a))], [.int (zI bk), .ref 71], es)) i_128_93 rfl ?_
      refine x0 (r := (95, [some (.ref (64 + lp)), some (.int (zI bk)), some (.int (zI nn)), some (.int (zI so)), some (.int (zI 0)), some (.int (zI fl)), some (.int (zI a))], [.int (zI nn), .int (zI bk), .ref 71], es)) i_128_94 rfl ?_
      refine x0 (r := (97, [some (.ref (64 + lp)), some (.int (zI bk)), some (.int (zI nn)), some (.int (zI so)), some (.int (zI 0)), some (.int (zI fl)), some (.int (zI a))], [.int (zI 0), .int (zI nn), .int (zI bk), .ref 71], es)) i_128_95 rfl ?_
      refine x0 (r := (98, [some (.ref (64 + lp)), some (.int (zI bk)), some (.int (zI nn)), some (.int (zI so)), some (.int (zI 0)), some (.int (zI fl)), some (.int (zI a))], [.int (zI (-1)), .int (zI 0), .int (zI nn), .int (zI bk), .ref 71], es)) i_128_97 (by rfl) ?_
      refine x0 (r := (100, [some (.ref (64 + lp)), some (.int (zI bk)), some (.int (zI nn)), some (.int (zI so)), some (.int (zI 0)), some (.int (zI fl)), some (.int (zI a))], [.int (zI fl), .int (zI (-1)), .int (zI 0), .int (zI nn), .int (zI bk), .ref 71], es)) i_128_98 rfl ?_
      refine x0 (r := (102, [some (.ref (64 + lp)), some (.int (zI bk)), some (.int (zI nn)), some (.int (zI so)), some (.int (zI 0)), some (.int (zI fl)), some (.int (zI a))], [.int (zI a), .int (zI fl), .int (zI (-1)), .int (zI 0), .int (zI nn), .int (zI bk), .ref 71], es)) i_128_100 rfl ?_
      exact K6 c1 v5 e_v5 v6 e_v6 c7

theorem s_as105 {O : pOut} {d kc ks : Nat} {Q : pRes → Prop} {es : PH} {bk nn so kd fl rk : Int} {lp : Nat} (hs_es : sh es)
    (K1 : Q (.inl (none), es, kc, ks)) :
    aW O d 128 kc ks Q (105, [some (.ref (64 + lp)), some (.int (zI bk)), some (.int (zI nn)), some (.int (zI so)), some (.int (zI kd)), some (.int (zI fl)), some (.int (zI rk))], [], es) := by
  refine x_ret (v := none) i_128_105 rfl (fun _ => rfl) rfl rfl rfl ?_
  exact K1

theorem s_cw0 {O : pOut} {d kc ks : Nat} {Q : pRes → Prop} {es : PH} {wy mv sl se : Int} (hs_es : sh es) (h0 : -2147483648 ≤ wy ∧ wy ≤ 2147483647) (h1 : -2147483648 ≤ mv ∧ mv ≤ 2147483647) (h2 : -2147483648 ≤ sl ∧ sl ≤ 2147483647) (h3 : -2147483648 ≤ se ∧ se ≤ 2147483647) (hT_es : hOK tT es)
    (K1 : wy = 0 → mv < 1 → Q (.inr 0, es, kc + 1, ks + 6))
    (K2 : wy = 0 → ¬ (mv < 1) → 24 < mv → Q (.inr 0, es, kc + 1, ks + 6))
    (K3 : wy = 0 → ¬ (mv < 1) → ¬ (24 < mv) → sl < 0 → Q (.inr 0, es, kc + 1, ks + 6))
    (K4 : wy = 0 → ¬ (mv < 1) → ¬ (24 < mv) → ¬ (sl < 0) → sl ≤ 9 → ∀ v6 : Int, v6 = (gI es 7 5).toInt → v6 < 3 → aW O (d + 1) 123 kc ks Q (60, [some (.ref 64), some (.int (zI wy)), some (.int (zI mv)), some (.int (zI sl)), some (.int (zI se)), none], [.ref 64], es))
    (K5 : wy = 0 → ¬ (mv < 1) → ¬ (24 < mv) → ¬ (sl < 0) → sl ≤ 9 → ∀ v6 : Int, v6 = (gI es 7 5).toInt → ¬ (v6 < 3) → Q (.inr 1, es, kc + 1, ks + 6))
    (K6 : wy = 0 → ¬ (mv < 1) → ¬ (24 < mv) → ¬ (sl < 0) → ¬ (sl ≤ 9) → Q (.inr 0, es, kc + 1, ks + 6))
    (K7 : ¬ (wy = 0) → wy ≠ 1 → Q (.inr 0, es, kc + 1, ks + 6))
    (K8 : ¬ (wy = 0) → ¬ (wy ≠ 1) → mv < 1 → Q (.inr 0, es, kc + 1, ks + 6))
    (K9 : ¬ (wy = 0) → ¬ (wy ≠ 1) → ¬ (mv < 1) → 24 < mv → Q (.inr 0, es, kc + 1, ks + 6))
    (K10 : ¬ (wy = 0) → ¬ (wy ≠ 1) → ¬ (mv < 1) → ¬ (24 < mv) → sl < 0 → Q (.inr 0, es, kc + 1, ks + 6))
    (K11 : ¬ (wy = 0) → ¬ (wy ≠ 1) → ¬ (mv < 1) → ¬ (24 < mv) → ¬ (sl < 0) → sl ≤ 9 → ∀ v13 : Int, v13 = (gI es 7 5).toInt → v13 < 3 → aW O (d + 1) 123 kc ks Q (60, [some (.ref 64), some (.int (zI wy)), some (.int (zI mv)), some (.int (zI sl)), some (.int (zI se)), none], [.ref 64], es))
    (K12 : ¬ (wy = 0) → ¬ (wy ≠ 1) → ¬ (mv < 1) → ¬ (24 < mv) → ¬ (sl < 0) → sl ≤ 9 → ∀ v13 : Int, v13 = (gI es 7 5).toInt → ¬ (v13 < 3) → Q (.inr 1, es, kc + 1, ks + 6))
    (K13 : ¬ (wy = 0) → ¬ (wy ≠ 1) → ¬ (mv < 1) → ¬ (24 < mv) → ¬ (sl < 0) → ¬ (sl ≤ 9) → Q (.inr 0, es, kc + 1, ks + 6)) :
    aW O (d + 1) 123 kc ks Q (0, [some (.ref 64), some (.int (zI wy)), some (.int (zI mv)), some (.int (zI sl)), some (.int (zI se)), none], [], es) := by
  refine x0 (r := (1, [some (.ref 64), some (.int (zI wy)), some (.int (zI mv)), some (.int (zI sl)), some (.int (zI se)), none], [.int (zI wy)], es)) i_123_0 rfl ?_
  refine x_call (vs := [.int (zI wy)]) (rs := []) i_123_1 rfl (fun _ => rfl) rfl rfl rfl rfl rfl rfl ?_
  show aW _ _ _ _ _ _ (0, [some (.int (zI wy))], [], es)
  refine x0 (r := (1, [some (.int (zI wy))], [.int (zI wy)], es)) i_113_0 rfl ?_
  by_cases c1 : wy = 0
  · refine x_ifT i_113_1 (by unfold i32 iLO iHI; omega) rfl (by simp only [zC, cR]; omega) ?_
    refine x0 (r := (10, [some (.int (zI wy))], [.int (zI 1)], es)) i_113_9 (by rfl) ?_
    refine x0 (r := (14, [some (.int (zI wy))], [.int (zI 1)], es)) i_113_10 rfl ?_
    refine x_ret (v := some (.int (zI 1))) i_113_14 rfl (fun _ => rfl) rfl rfl (pFin_b (by omega)) ?_
    show aW _ _ _ _ _ _ (4, [some (.ref 64), some (.int (zI wy)), some (.int (zI mv)), some (.int (zI sl)), some (.int (zI se)), none], [.int (zI 1)], es)
    refine x_ifF i_123_4 (by unfold i32 iLO iHI; omega) rfl (by simp only [zC, cR]; omega) ?_
    refine x0 (r := (8, [some (.ref 64), some (.int (zI wy)), some (.int (zI mv)), some (.int (zI sl)), some (.int (zI se)), none], [.int (zI mv)], es)) i_123_7 rfl ?_
    refine x0 (r := (9, [some (.ref 64), some (.int (zI wy)), some (.int (zI mv)), some (.int (zI sl)), some (.int (zI se)), none], [.int (zI 1), .int (zI mv)], es)) i_123_8 (by rfl) ?_
    by_cases c2 : mv < 1
    · refine x_cmpT i_123_9 (by unfold i32 iLO iHI; omega) (by unfold i32 iLO iHI; omega) rfl (by simp only [zC, cR]; omega) ?_
      refine x_thr i_123_28 rfl (fun _ => rfl) rfl rfl rfl rfl ?_
      exact K1 c1 c2
    · refine x_cmpF i_123_9 (by unfold i32 iLO iHI; omega) (by unfold i32 iLO iHI; omega) rfl (by simp only [zC, cR]; omega) ?_
      refine x0 (r := (13, [some (.ref 64), some (.int (zI wy)), some (.int (zI mv)), some (.int (zI sl)), some (.int (zI se)), none], [.int (zI mv)], es)) i_123_12 rfl ?_
      refine x0 (r := (15, [some (.ref 64), some (.int (zI wy)), some (.int (zI mv)), some (.int (zI sl)), some (.int (zI se)), none], [.int (zI 24), .int (zI mv)], es)) i_123_13 (by rfl) ?_
      by_cases c3 : 24 < mv
      · refine x_cmpT i_123_15 (by unfold i32 iLO iHI; omega) (by unfold i32 iLO iHI; omega) rfl (by simp only [zC, cR]; omega) ?_
        refine x_thr i_123_28 rfl (fun _ => rfl) rfl rfl rfl rfl ?_
        exact K2 c1 c2 c3
      · refine x_cmpF i_123_15 (by unfold i32 iLO iHI; omega) (by unfold i32 iLO iHI; omega) rfl (by simp only [zC, cR]; omega) ?_
        refine x0 (r := (19, [some (.ref 64), some (.int (zI wy)), some (.int (zI mv)), some (.int (zI sl)), some (.int (zI se)), none], [.int (zI sl)], es)) i_123_18 rfl ?_
        by_cases c4 : sl < 0
        · refine x_ifT i_123_19 (by unfold i32 iLO iHI; omega) rfl (by simp only [zC, cR]; omega) ?_
          refine x_thr i_123_28 rfl (fun _ => rfl) rfl rfl rfl rfl ?_
          exact K3 c1 c2 c3 c4
        · refine x_ifF i_123_19 (by unfold i32 iLO iHI; omega) rfl (by simp only [zC, cR]; omega) ?_
          refine x0 (r := (23, [some (.ref 64), some (.int (zI wy)), some (.int (zI mv)), some (.int (zI sl)), some (.int (zI se)), none], [.int (zI sl)], es)) i_123_22 rfl ?_
          refine x0 (r := (25, [some (.ref 64), some (.int (zI wy)), some (.int (zI mv)), some (.int (zI sl)), some (.int (zI se)), none], [.int (zI 9), .int (zI sl)], es)) i_123_23 (by rfl) ?_
          by_cases c5 : sl ≤ 9
          · refine x_cmpT i_123_25 (by unfold i32 iLO iHI; omega) (by unfold i32 iLO iHI; omega) rfl (by simp only [zC, cR]; omega) ?_
            refine x0 (r := (39, [some (.ref 64), some (.int (zI wy)), some (.int (zI mv)), some (.int (zI sl)), some (.int (zI se)), none], [.ref 64], es)) i_123_38 rfl ?_
            refine x_getr (p := 0) (k := 71) i_123_39 hs_es rfl rfl ?_
            show aW _ _ _ _ _ _ (42, [some (.ref 64), some (.int (zI wy)), some (.int (zI mv)), some (.int (zI sl)), some (.int (zI se)), none], [.ref 71], es)
            refine x_geti (p := 7) i_123_42 hs_es rfl rfl ?_
            obtain ⟨v6, e_v6⟩ : ∃ z : Int, z = (gI es 7 5).toInt := ⟨_, rfl⟩
            rw [← e_v6]
            have r_v6 : iLO ≤ v6 ∧ v6 ≤ iHI := by rw [e_v6]; exact i32_rng _
            unfold iLO iHI at r_v6
            have b_v6 : (0 : Int) ≤ v6 ∧ v6 ≤ (3 : Int) := by rw [e_v6]; exact gI_bd hT_es (p := 7) (b := 5) rfl rfl
            refine x0 (r := (46, [some (.ref 64), some (.int (zI wy)), some (.int (zI mv)), some (.int (zI sl)), some (.int (zI se)), none], [.int (zI 3), .int (zI v6)], es)) i_123_45 (by rfl) ?_
            by_cases c7 : v6 < 3
            · refine x_cmpT i_123_46 (by unfold i32 iLO iHI; omega) (by unfold i32 iLO iHI; omega) rfl (by simp only [zC, cR]; omega) ?_
              refine x0 (r := (60, [some (.ref 64), some (.int (zI wy)), some (.int (zI mv)), some (.int (zI sl)), some (.int (zI se)), none], [.ref 64], es)) i_123_59 rfl ?_
              exact K4 c1 c2 c3 c4 c5 v6 e_v6 c7
            · refine x_cmpF i_123_46 (by unfold i32 iLO iHI; omega) (by unfold i32 iLO iHI; omega) rfl (by simp only [zC, cR]; omega) ?_
              refine x_thr i_123_49 rfl (fun _ => rfl) rfl rfl rfl rfl ?_
              exact K5 c1 c2 c3 c4 c5 v6 e_v6 c7
          · refine x_cmpF i_123_25 (by unfold i32 iLO iHI; omega) (by unfold i32 iLO iHI; omega) rfl (by simp only [zC, cR]; omega) ?_
            refine x_thr i_123_28 rfl (fun _ => rfl) rfl rfl rfl rfl ?_
            exact K6 c1 c2 c3 c4 c5
  · refine x_ifF i_113_1 (by unfold i32 iLO iHI; omega) rfl (by simp only [zC, cR]; omega) ?_
    refine x0 (r := (5, [some (.int (zI wy))], [.int (zI wy)], es)) i_113_4 rfl ?_
    refine x0 (r := (6, [some (.int (zI wy))], [.int (zI 1), .int (zI wy)], es)) i_113_5 (by rfl) ?_
    by_cases c8 : wy ≠ 1
    · refine x_cmpT i_113_6 (by unfold i32 iLO iHI; omega) (by unfold i32 iLO iHI; omega) rfl (by simp only [zC, cR]; omega) ?_
      refine x0 (r := (14, [some (.int (zI wy))], [.int (zI 0)], es)) i_113_13 (by rfl) ?_
      refine x_ret (v := some (.int (zI 0))) i_113_14 rfl (fun _ => rfl) rfl rfl (pFin_b (by omega)) ?_
      show aW _ _ _ _ _ _ (4, [some (.ref 64), some (.int (zI wy)), some (.int (zI mv)), some (.int (zI sl)), some (.int (zI se)), none], [.int (zI 0)], es)
      refine x_ifT i_123_4 (by unfold i32 iLO iHI; omega) rfl (by simp only [zC, cR]; omega) ?_
      refine x_thr i_123_28 rfl (fun _ => rfl) rfl rfl rfl rfl ?_
      exact K7 c1 c8
    · refine x_cmpF i_113_6 (by unfold i32 iLO iHI; omega) (by unfold i32 iLO iHI; omega) rfl (by simp only [zC, cR]; omega) ?_
      refine x0 (r := (10, [some (.int (zI wy))], [.int (zI 1)], es)) i_113_9 (by rfl) ?_
      refine x0 (r := (14, [some (.int (zI wy))], [.int (zI 1)], es)) i_113_10 rfl ?_
      refine x_ret (v := some (.int (zI 1))) i_113_14 rfl (fun _ => rfl) rfl rfl (pFin_b (by omega)) ?_
      show aW _ _ _ _ _ _ (4, [some (.ref 64), some (.int (zI wy)), some (.int (zI mv)), some (.int (zI sl)), some (.int (zI se)), none], [.int (zI 1)], es)
      refine x_ifF i_123_4 (by unfold i32 iLO iHI; omega) rfl (by simp only [zC, cR]; omega) ?_
      refine x0 (r := (8, [some (.ref 64), some (.int (zI wy)), some (.int (zI mv)), some (.int (zI sl)), some (.int (zI se)), none], [.int (zI mv)], es)) i_123_7 rfl ?_
      refine x0 (r := (9, [some (.ref 64), some (.int (zI wy)), some (.int (zI mv)), some (.int (zI sl)), some (.int (zI se)), none], [.int (zI 1), .int (zI mv)], es)) i_123_8 (by rfl) ?_
      by_cases c9 : mv < 1
      · refine x_cmpT i_123_9 (by unfold i32 iLO iHI; omega) (by unfold i32 iLO iHI; omega) rfl (by simp only [zC, cR]; omega) ?_
        refine x_thr i_123_28 rfl (fun _ => rfl) rfl rfl rfl rfl ?_
        exact K8 c1 c8 c9
      · refine x_cmpF i_123_9 (by unfold i32 iLO iHI; omega) (by unfold i32 iLO iHI; omega) rfl (by simp only [zC, cR]; omega) ?_
        refine x0 (r := (13, [some (.ref 64), some (.int (zI wy)), some (.int (zI mv)), some (.int (zI sl)), some (.int (zI se)), none], [.int (zI mv)], es)) i_123_12 rfl ?_
        refine x0 (r := (15, [some (.ref 64), some (.int (zI wy)), some (.int (zI mv)), some (.int (zI sl)), some (.int (zI se)), none], [.int (zI 24), .int (zI mv)], es)) i_123_13 (by rfl) ?_
        by_cases c10 : 24 < mv
        · refine x_cmpT i_123_15 (by unfold i32 iLO iHI; omega) (by unfold i32 iLO iHI; omega) rfl (by simp only [zC, cR]; omega) ?_
          refine x_thr i_123_28 rfl (fun _ => rfl) rfl rfl rfl rfl ?_
          exact K9 c1 c8 c9 c10
        · refine x_cmpF i_123_15 (by unfold i32 iLO iHI; omega) (by unfold i32 iLO iHI; omega) rfl (by simp only [zC, cR]; omega) ?_
          refine x0 (r := (19, [some (.ref 64), some (.int (zI wy)), some (.int (zI mv)), some (.int (zI sl)), some (.int (zI se)), none], [.int (zI sl)], es)) i_123_18 rfl ?_
          by_cases c11 : sl < 0
          · refine x_ifT i_123_19 (by unfold i32 iLO iHI; omega) rfl (by simp only [zC, cR]; omega) ?_
            refine x_thr i_123_28 rfl (fun _ => rfl) rfl rfl rfl rfl ?_
            exact K10 c1 c8 c9 c10 c11
          · refine x_ifF i_123_19 (by unfold i32 iLO iHI; omega) rfl (by simp only [zC, cR]; omega) ?_
            refine x0 (r := (23, [some (.ref 64), some (.int (zI wy)), some (.int (zI mv)), some (.int (zI sl)), some (.int (zI se)), none], [.int (zI sl)], es)) i_123_22 rfl ?_
            refine x0 (r := (25, [some (.ref 64), some (.int (zI wy)), some (.int (zI mv)), some (.int (zI sl)), some (.int (zI se)), none], [.int (zI 9), .int (zI sl)], es)) i_123_23 (by rfl) ?_
            by_cases c12 : sl ≤ 9
            · refine x_cmpT i_123_25 (by unfold i32 iLO iHI; omega) (by unfold i32 iLO iHI; omega) rfl (by simp only [zC, cR]; omega) ?_
              refine x0 (r := (39, [some (.ref 64), some (.int (zI wy)), some (.int (zI mv)), some (.int (zI sl)), some (.int (zI se)), none], [.ref 64], es)) i_123_38 rfl ?_
              refine x_getr (p := 0) (k := 71) i_123_39 hs_es rfl rfl ?_
              show aW _ _ _ _ _ _ (42, [some (.ref 64), some (.int (zI wy)), some (.int (zI mv)), some (.int (zI sl)), some (.int (zI se)), none], [.ref 71], es)
              refine x_geti (p := 7) i_123_42 hs_es rfl rfl ?_
              obtain ⟨v13, e_v13⟩ : ∃ z : Int, z = (gI es 7 5).toInt := ⟨_, rfl⟩
              rw [← e_v13]
              have r_v13 : iLO ≤ v13 ∧ v13 ≤ iHI := by rw [e_v13]; exact i32_rng _
              unfold iLO iHI at r_v13
              have b_v13 : (0 : Int) ≤ v13 ∧ v13 ≤ (3 : Int) := by rw [e_v13]; exact gI_bd hT_es (p := 7) (b := 5) rfl rfl
              refine x0 (r := (46, [some (.ref 64), some (.int (zI wy)), some (.int (zI mv)), some (.int (zI sl)), some (.int (zI se)), none], [.int (zI 3), .int (zI v13)], es)) i_123_45 (by rfl) ?_
              by_cases c14 : v13 < 3
              · refine x_cmpT i_123_46 (by unfold i32 iLO iHI; omega) (by unfold i32 iLO iHI; omega) rfl (by simp only [zC, cR]; omega) ?_
                refine x0 (r := (60, [some (.ref 64), some (.int (zI wy)), some (.int (zI mv)), some (.int (zI sl)), some (.int (zI se)), none], [.ref 64], es)) i_123_59 rfl ?_
                exact K11 c1 c8 c9 c10 c11 c12 v13 e_v13 c14
              · refine x_cmpF i_123_46 (by unfold i32 iLO iHI; omega) (by unfold i32 iLO iHI; omega) rfl (by simp only [zC, cR]; omega) ?_
                refine x_thr i_123_49 rfl (fun _ => rfl) rfl rfl rfl rfl ?_
                exact K12 c1 c8 c9 c10 c11 c12 v13 e_v13 c14
            · refine x_cmpF i_123_25 (by unfold i32 iLO iHI; omega) (by unfold i32 iLO iHI; omega) rfl (by simp only [zC, cR]; omega) ?_
              refine x_thr i_123_28 rfl (fun _ => rfl) rfl rfl rfl rfl ?_
              exact K13 c1 c8 c9 c10 c11 c12

theorem s_forget {O : pOut} {d kc ks : Nat} {Q : pRes → Prop} {es : PH} (hs_es : sh es) (hT_es : hOK tT es)
    (K1 : ∀ es1 : PH, es1 = sI es 0 10 (.int (zI 0)) → ∀ es2 : PH, es2 = sI es1 73 3 (.int (zI 0)) → Q (.inl (none), es2, kc, ks)) :
    aW O d 73 kc ks Q (0, [some (.ref 64)], [], es) := by
  refine x0 (r := (1, [some (.ref 64)], [.ref 64], es)) i_73_0 rfl ?_
  refine x0 (r := (2, [some (.ref 64)], [.int (zI 0), .ref 64], es)) i_73_1 (by rfl) ?_
  refine x_puti (p := 0) (ty := .boolean) i_73_2 hs_es rfl rfl rfl (Or.inr ⟨rfl, by omega⟩) ?_
  obtain ⟨es1, e_es1⟩ : ∃ z : PH, z = sI es 0 10 (.int (zI 0)) := ⟨_, rfl⟩
  have hs_es1 : sh es1 := by rw [e_es1]; exact sh_sI hs_es (p := 0) (b := 10) rfl rfl
  have hT_es1 : hOK tT es1 := by rw [e_es1]; exact hOK_sI hT_es (p := 0) (b := 10) rfl rfl (by rw [zI_toInt (by unfold i32 iLO iHI; omega)]; exact ⟨by show (0 : Int) ≤ 0; omega, by show 0 ≤ (1 : Int); omega⟩)
  rw [← e_es1]
  refine x0 (r := (6, [some (.ref 64)], [.ref 64], es1)) i_73_5 rfl ?_
  refine x_getr (p := 0) (k := 137) i_73_6 hs_es1 rfl rfl ?_
  show aW _ _ _ _ _ _ (9, [some (.ref 64)], [.ref 137], es1)
  refine x0 (r := (10, [some (.ref 64)], [.int (zI 0), .ref 137], es1)) i_73_9 (by rfl) ?_
  refine x_puti (p := 73) (ty := .boolean) i_73_10 hs_es1 rfl rfl rfl (Or.inr ⟨rfl, by omega⟩) ?_
  obtain ⟨es2, e_es2⟩ : ∃ z : PH, z = sI es1 73 3 (.int (zI 0)) := ⟨_, rfl⟩
  have hs_es2 : sh es2 := by rw [e_es2]; exact sh_sI hs_es1 (p := 73) (b := 3) rfl rfl
  have hT_es2 : hOK tT es2 := by rw [e_es2]; exact hOK_sI hT_es1 (p := 73) (b := 3) rfl rfl (by rw [zI_toInt (by unfold i32 iLO iHI; omega)]; exact ⟨by show (0 : Int) ≤ 0; omega, by show 0 ≤ (1 : Int); omega⟩)
  rw [← e_es2]
  refine x_ret (v := none) i_73_13 rfl (fun _ => rfl) rfl rfl rfl ?_
  exact K1 es1 e_es1 es2 e_es2

theorem s_cw63 {O : pOut} {d kc ks : Nat} {Q : pRes → Prop} {es : PH} {wy mv sl se : Int} (hs_es : sh es)
    (K1 : aW O d 123 kc ks Q (68, [some (.ref 64), some (.int (zI wy)), some (.int (zI mv)), some (.int (zI sl)), some (.int (zI se)), none], [.int (zI wy), .ref 71], es)) :
    aW O d 123 kc ks Q (63, [some (.ref 64), some (.int (zI wy)), some (.int (zI mv)), some (.int (zI sl)), some (.int (zI se)), none], [], es) := by
  refine x0 (r := (64, [some (.ref 64), some (.int (zI wy)), some (.int (zI mv)), some (.int (zI sl)), some (.int (zI se)), none], [.ref 64], es)) i_123_63 rfl ?_
  refine x_getr (p := 0) (k := 71) i_123_64 hs_es rfl rfl ?_
  show aW _ _ _ _ _ _ (67, [some (.ref 64), some (.int (zI wy)), some (.int (zI mv)), some (.int (zI sl)), some (.int (zI se)), none], [.ref 71], es)
  refine x0 (r := (68, [some (.ref 64), some (.int (zI wy)), some (.int (zI mv)), some (.int (zI sl)), some (.int (zI se)), none], [.int (zI wy), .ref 71], es)) i_123_67 rfl ?_
  exact K1

theorem s_addBook {O : pOut} {d kc ks : Nat} {Q : pRes → Prop} {es : PH} {wy : Int} (hs_es : sh es) (h0 : 0 ≤ wy ∧ wy ≤ 1) (hT_es : hOK tT es)
    (K1 : ∀ v1 : Int, v1 = (gI es 7 5).toInt → 3 ≤ v1 → ∀ v3 : Int, v3 = (gI es 7 5).toInt → 3 ≤ v3 → ∀ v5 : Int, v5 = (gI es 7 5).toInt → ∀ es6 : PH, es6 = sI es 7 5 (.int (zI (v5 + 1))) → ∀ v7 : Int, v7 = (gI es6 7 5).toInt → Q (.inl (some (.int (zI (v7 - 1)))), es6, kc, ks))
    (K2 : ∀ v1 : Int, v1 = (gI es 7 5).toInt → 3 ≤ v1 → ∀ v3 : Int, v3 = (gI es 7 5).toInt → ¬ (3 ≤ v3) → ∀ es8 : PH, es8 = sA es 13 v3.toNat (zI 0) → ∀ v9 : Int, v9 = (gI es8 7 5).toInt → ∀ es10 : PH, es10 = sI es8 7 5 (.int (zI (v9 + 1))) → ∀ v11 : Int, v11 = (gI es10 7 5).toInt → Q (.inl (some (.int (zI (v11 - 1)))), es10, kc, ks))
    (K3 : ∀ v1 : Int, v1 = (gI es 7 5).toInt → ¬ (3 ≤ v1) → ∀ es12 : PH, es12 = sA es 12 v1.toNat (zI wy) → ∀ v13 : Int, v13 = (gI es12 7 5).toInt → 3 ≤ v13 → ∀ v15 : Int, v15 = (gI es12 7 5).toInt → ∀ es16 : PH, es16 = sI es12 7 5 (.int (zI (v15 + 1))) → ∀ v17 : Int, v17 = (gI es16 7 5).toInt → Q (.inl (some (.int (zI (v17 - 1)))), es16, kc, ks))
    (K4 : ∀ v1 : Int, v1 = (gI es 7 5).toInt → ¬ (3 ≤ v1) → ∀ es12 : PH, es12 = sA es 12 v1.toNat (zI wy) → ∀ v13 : Int, v13 = (gI es12 7 5).toInt → ¬ (3 ≤ v13) → ∀ es18 : PH, es18 = sA es12 13 v13.toNat (zI 0) → ∀ v19 : Int, v19 = (gI es18 7 5).toInt → ∀ es20 : PH, es20 = sI es18 7 5 (.int (zI (v19 + 1))) → ∀ v21 : Int, v21 = (gI es20 7 5).toInt → Q (.inl (some (.int (zI (v21 - 1)))), es20, kc, ks)) :
    aW O (d + 1) 114 kc ks Q (0, [some (.ref 71), some (.int (zI wy))], [], es) := by
  refine x0 (r := (1, [some (.ref 71), some (.int (zI wy))], [.ref 71], es)) i_114_0 rfl ?_
  refine x_getr (p := 7) (k := 76) i_114_1 hs_es rfl rfl ?_
  show aW _ _ _ _ _ _ (4, [some (.ref 71), some (.int (zI wy))], [.ref 76], es)
  refine x0 (r := (5, [some (.ref 71), some (.int (zI wy))], [.ref 71, .ref 76], es)) i_114_4 rfl ?_
  refine x_geti (p := 7) i_114_5 hs_es rfl rfl ?_
  obtain ⟨v1, e_v1⟩ : ∃ z : Int, z = (gI es 7 5).toInt := ⟨_, rfl⟩
  rw [← e_v1]
  have r_v1 : iLO ≤ v1 ∧ v1 ≤ iHI := by rw [e_v1]; exact i32_rng _
  unfold iLO iHI at r_v1
  have b_v1 : (0 : Int) ≤ v1 ∧ v1 ≤ (3 : Int) := by rw [e_v1]; exact gI_bd hT_es (p := 7) (b := 5) rfl rfl
  refine x0 (r := (9, [some (.ref 71), some (.int (zI wy))], [.int (zI wy), .int (zI v1), .ref 76], es)) i_114_8 rfl ?_
  refine x_call (vs := [.ref 76, .int (zI v1), .int (zI wy)]) (rs := []) i_114_9 rfl (fun _ => rfl) rfl rfl rfl rfl rfl rfl ?_
  show aW _ _ _ _ _ _ (0, [some (.ref 76), some (.int (zI v1)), some (.int (zI wy))], [], es)
  refine x0 (r := (1, [some (.ref 76), some (.int (zI v1)), some (.int (zI wy))], [.int (zI v1)], es)) i_14_0 rfl ?_
  refine x_ifF i_14_1 (by unfold i32 iLO iHI; omega) rfl (by simp only [zC, cR]; omega) ?_
  refine x0 (r := (5, [some (.ref 76), some (.int (zI v1)), some (.int (zI wy))], [.int (zI v1)], es)) i_14_4 rfl ?_
  refine x0 (r := (6, [some (.ref 76), some (.int (zI v1)), some (.int (zI wy))], [.ref 76, .int (zI v1)], es)) i_14_5 rfl ?_
  refine x_alen (p := 12) (n := 3) i_14_6 hs_es rfl ?_
  by_cases c2 : 3 ≤ v1
  · refine x_cmpT i_14_7 (by unfold i32 iLO iHI; omega) (by unfold i32 iLO iHI; omega) rfl (by simp only [zC, cR]; omega) ?_
    refine x_ret (v := none) i_14_14 rfl (fun _ => rfl) rfl rfl rfl ?_
    show aW _ _ _ _ _ _ (12, [some (.ref 71), some (.int (zI wy))], [], es)
    refine x0 (r := (13, [some (.ref 71), some (.int (zI wy))], [.ref 71], es)) i_114_12 rfl ?_
    refine x_getr (p := 7) (k := 77) i_114_13 hs_es rfl rfl ?_
    show aW _ _ _ _ _ _ (16, [some (.ref 71), some (.int (zI wy))], [.ref 77], es)
    refine x0 (r := (17, [some (.ref 71), some (.int (zI wy))], [.ref 71, .ref 77], es)) i_114_16 rfl ?_
    refine x_geti (p := 7) i_114_17 hs_es rfl rfl ?_
    obtain ⟨v3, e_v3⟩ : ∃ z : Int, z = (gI es 7 5).toInt := ⟨_, rfl⟩
    rw [← e_v3]
    have r_v3 : iLO ≤ v3 ∧ v3 ≤ iHI := by rw [e_v3]; exact i32_rng _
    unfold iLO iHI at r_v3
    have b_v3 : (0 : Int) ≤ v3 ∧ v3 ≤ (3 : Int) := by rw [e_v3]; exact gI_bd hT_es (p := 7) (b := 5) rfl rfl
    refine x0 (r := (21, [some (.ref 71), some (.int (zI wy))], [.int (zI 0), .int (zI v3), .ref 77], es)) i_114_20 (by rfl) ?_
    refine x_call (vs := [.ref 77, .int (zI v3), .int (zI 0)]) (rs := []) i_114_21 rfl (fun _ => rfl) rfl rfl rfl rfl rfl rfl ?_
    show aW _ _ _ _ _ _ (0, [some (.ref 77), some (.int (zI v3)), some (.int (zI 0))], [], es)
    refine x0 (r := (1, [some (.ref 77), some (.int (zI v3)), some (.int (zI 0))], [.int (zI v3)], es)) i_14_0 rfl ?_
    refine x_ifF i_14_1 (by unfold i32 iLO iHI; omega) rfl (by simp only [zC, cR]; omega) ?_
    refine x0 (r := (5, [some (.ref 77), some (.int (zI v3)), some (.int (zI 0))], [.int (zI v3)], es)) i_14_4 rfl ?_
    refine x0 (r := (6, [some (.ref 77), some (.int (zI v3)), some (.int (zI 0))], [.ref 77, .int (zI v3)], es)) i_14_5 rfl ?_
    refine x_alen (p := 13) (n := 3) i_14_6 hs_es rfl ?_
    by_cases c4 : 3 ≤ v3
    · refine x_cmpT i_14_7 (by unfold i32 iLO iHI; omega) (by unfold i32 iLO iHI; omega) rfl (by simp only [zC, cR]; omega) ?_
      refine x_ret (v := none) i_14_14 rfl (fun _ => rfl) rfl rfl rfl ?_
      show aW _ _ _ _ _ _ (24, [some (.ref 71), some (.int (zI wy))], [], es)
      refine x0 (r := (25, [some (.ref 71), some (.int (zI wy))], [.ref 71], es)) i_114_24 rfl ?_
      refine x0 (r := (26, [some (.ref 71), some (.int (zI wy))], [.ref 71, .ref 71], es)) i_114_25 rfl ?_
      refine x_geti (p := 7) i_114_26 hs_es rfl rfl ?_
      obtain ⟨v5, e_v5⟩ : ∃ z : Int, z = (gI es 7 5).toInt := ⟨_, rfl⟩
      rw [← e_v5]
      have r_v5 : iLO ≤ v5 ∧ v5 ≤ iHI := by rw [e_v5]; exact i32_rng _
      unfold iLO iHI at r_v5
      have b_v5 : (0 : Int) ≤ v5 ∧ v5 ≤ (3 : Int) := by rw [e_v5]; exact gI_bd hT_es (p := 7) (b := 5) rfl rfl
      refine x0 (r := (30, [some (.ref 71), some (.int (zI wy))], [.int (zI 1), .int (zI v5), .ref 71], es)) i_114_29 (by rfl) ?_
      refine x_iadd i_114_30 ?_
      refine x_puti (p := 7) (ty := .int) i_114_31 hs_es rfl rfl rfl (Or.inl rfl) ?_
      obtain ⟨es6, e_es6⟩ : ∃ z : PH, z = sI es 7 5 (.int (zI (v5 + 1))) := ⟨_, rfl⟩
      have hs_es6 : sh es6 := by rw [e_es6]; exact sh_sI hs_es (p := 7) (b := 5) rfl rfl
      rw [← e_es6]
      refine x0 (r := (35, [some (.ref 71), some (.int (zI wy))], [.ref 71], es6)) i_114_34 rfl ?_
      refine x_geti (p := 7) i_114_35 hs_es6 rfl rfl ?_
      obtain ⟨v7, e_v7⟩ : ∃ z : Int, z = (gI es6 7 5).toInt := ⟨_, rfl⟩
      rw [← e_v7]
      have r_v7 : iLO ≤ v7 ∧ v7 ≤ iHI := by rw [e_v7]; exact i32_rng _
      unfold iLO iHI at r_v7
      refine x0 (r := (39, [some (.ref 71), some (.int (zI wy))], [.int (zI 1), .int (zI v7)], es6)) i_114_38 (by rfl) ?_
      refine x_isub i_114_39 ?_
      refine x_ret (v := some (.int (zI (v7 - 1)))) i_114_40 rfl (fun _ => rfl) rfl rfl rfl ?_
      exact K1 v1 e_v1 c2 v3 e_v3 c4 v5 e_v5 es6 e_es6 v7 e_v7
    · refine x_cmpF i_14_7 (by unfold i32 iLO iHI; omega) (by unfold i32 iLO iHI; omega) rfl (by simp only [zC, cR]; omega) ?_
      refine x0 (r := (11, [some (.ref 77), some (.int (zI v3)), some (.int (zI 0))], [.ref 77], es)) i_14_10 rfl ?_
      refine x0 (r := (12, [some (.ref 77), some (.int (zI v3)), some (.int (zI 0))], [.int (zI v3), .ref 77], es)) i_14_11 rfl ?_
      refine x0 (r := (13, [some (.ref 77), some (.int (zI v3)), some (.int (zI 0))], [.int (zI 0), .int (zI v3), .ref 77], es)) i_14_12 rfl ?_
      refine x_iast (p := 13) i_14_13 hs_es rfl (by unfold i32 iLO iHI; omega) (by omega) (by omega) ?_
      obtain ⟨es8, e_es8⟩ : ∃ z : PH, z = sA es 13 v3.toNat (zI 0) := ⟨_, rfl⟩
      have hs_es8 : sh es8 := by rw [e_es8]; exact sh_sA hs_es
      have hT_es8 : hOK tT es8 := by rw [e_es8]; exact hOK_sA hT_es (p := 13) (n := 3) rfl (fun _ => by rw [zI_toInt (by unfold i32 iLO iHI; omega)]; exact ⟨by show (0 : Int) ≤ 0; omega, by show 0 ≤ (24 : Int); omega⟩)
      rw [← e_es8]
      refine x_ret (v := none) i_14_14 rfl (fun _ => rfl) rfl rfl rfl ?_
      show aW _ _ _ _ _ _ (24, [some (.ref 71), some (.int (zI wy))], [], es8)
      refine x0 (r := (25, [some (.ref 71), some (.int (zI wy))], [.ref 71], es8)) i_114_24 rfl ?_
      refine x0 (r := (26, [some (.ref 71), some (.int (zI wy))], [.ref 71, .ref 71], es8)) i_114_25 rfl ?_
      refine x_geti (p := 7) i_114_26 hs_es8 rfl rfl ?_
      obtain ⟨v9, e_v9⟩ : ∃ z : Int, z = (gI es8 7 5).toInt := ⟨_, rfl⟩
      rw [← e_v9]
      have r_v9 : iLO ≤ v9 ∧ v9 ≤ iHI := by rw [e_v9]; exact i32_rng _
      unfold iLO iHI at r_v9
      have b_v9 : (0 : Int) ≤ v9 ∧ v9 ≤ (3 : Int) := by rw [e_v9]; exact gI_bd hT_es8 (p := 7) (b := 5) rfl rfl
      refine x0 (r := (30, [some (.ref 71), some (.int (zI wy))], [.int (zI 1), .int (zI v9), .ref 71], es8)) i_114_29 (by rfl) ?_
      refine x_iadd i_114_30 ?_
      refine x_puti (p := 7) (ty := .int) i_114_31 hs_es8 rfl rfl rfl (Or.inl rfl) ?_
      obtain ⟨es10, e_es10⟩ : ∃ z : PH, z = sI es8 7 5 (.int (zI (v9 + 1))) := ⟨_, rfl⟩
      have hs_es10 : sh es10 := by rw [e_es10]; exact sh_sI hs_es8 (p := 7) (b := 5) rfl rfl
      rw [← e_es10]
      refine x0 (r := (35, [some (.ref 71), some (.int (zI wy))], [.ref 71], es10)) i_114_34 rfl ?_
      refine x_geti (p := 7) i_114_35 hs_es10 rfl rfl ?_
      obtain ⟨v11, e_v11⟩ : ∃ z : Int, z = (gI es10 7 5).toInt := ⟨_, rfl⟩
      rw [← e_v11]
      have r_v11 : iLO ≤ v11 ∧ v11 ≤ iHI := by rw [e_v11]; exact i32_rng _
      unfold iLO iHI at r_v11
      refine x0 (r := (39, [some (.ref 71), some (.int (zI wy))], [.int (zI 1), .int (zI v11)], es10)) i_114_38 (by rfl) ?_
      refine x_isub i_114_39 ?_
      refine x_ret (v := some (.int (zI (v11 - 1)))) i_114_40 rfl (fun _ => rfl) rfl rfl rfl ?_
      exact K2 v1 e_v1 c2 v3 e_v3 c4 es8 e_es8 v9 e_v9 es10 e_es10 v11 e_v11
  · refine x_cmpF i_14_7 (by unfold i32 iLO iHI; omega) (by unfold i32 iLO iHI; omega) rfl (by simp only [zC, cR]; omega) ?_
    refine x0 (r := (11, [some (.ref 76), some (.int (zI v1)), some (.int (zI wy))], [.ref 76], es)) i_14_10 rfl ?_
    refine x0 (r := (12, [some (.ref 76), some (.int (zI v1)), some (.int (zI wy))], [.int (zI v1), .ref 76], es)) i_14_11 rfl ?_
    refine x0 (r := (13, [some (.ref 76), some (.int (zI v1)), some (.int (zI wy))], [.int (zI wy), .int (zI v1), .ref 76], es)) i_14_12 rfl ?_
    refine x_iast (p := 12) i_14_13 hs_es rfl (by unfold i32 iLO iHI; omega) (by omega) (by omega) ?_
    obtain ⟨es12, e_es12⟩ : ∃ z : PH, z = sA es 12 v1.toNat (zI wy) := ⟨_, rfl⟩
    have hs_es12 : sh es12 := by rw [e_es12]; exact sh_sA hs_es
    have hT_es12 : hOK tT es12 := by rw [e_es12]; exact hOK_sA hT_es (p := 12) (n := 3) rfl (fun _ => i32_rng _)
    rw [← e_es12]
    refine x_ret (v := none) i_14_14 rfl (fun _ => rfl) rfl rfl rfl ?_
    show aW _ _ _ _ _ _ (12, [some (.ref 71), some (.int (zI wy))], [], es12)
    refine x0 (r := (13, [some (.ref 71), some (.int (zI wy))], [.ref 71], es12)) i_114_12 rfl ?_
    refine x_getr (p := 7) (k := 77) i_114_13 hs_es12 rfl rfl ?_
    show aW _ _ _ _ _ _ (16, [some (.ref 71), some (.int (zI wy))], [.ref 77], es12)
    refine x0 (r := (17, [some (.ref 71), some (.int (zI wy))], [.ref 71, .ref 77], es12)) i_114_16 rfl ?_
    refine x_geti (p := 7) i_114_17 hs_es12 rfl rfl ?_
    obtain ⟨v13, e_v13⟩ : ∃ z : Int, z = (gI es12 7 5).toInt := ⟨_, rfl⟩
    rw [← e_v13]
    have r_v13 : iLO ≤ v13 ∧ v13 ≤ iHI := by rw [e_v13]; exact i32_rng _
    unfold iLO iHI at r_v13
    have b_v13 : (0 : Int) ≤ v13 ∧ v13 ≤ (3 : Int) := by rw [e_v13]; exact gI_bd hT_es12 (p := 7) (b := 5) rfl rfl
    refine x0 (r := (21, [some (.ref 71), some (.int (zI wy))], [.int (zI 0), .int (zI v13), .ref 77], es12)) i_114_20 (by rfl) ?_
    refine x_call (vs := [.ref 77, .int (zI v13), .int (zI 0)]) (rs := []) i_114_21 rfl (fun _ => rfl) rfl rfl rfl rfl rfl rfl ?_
    show aW _ _ _ _ _ _ (0, [some (.ref 77), some (.int (zI v13)), some (.int (zI 0))], [], es12)
    refine x0 (r := (1, [some (.ref 77), some (.int (zI v13)), some (.int (zI 0))], [.int (zI v13)], es12)) i_14_0 rfl ?_
    refine x_ifF i_14_1 (by unfold i32 iLO iHI; omega) rfl (by simp only [zC, cR]; omega) ?_
    refine x0 (r := (5, [some (.ref 77), some (.int (zI v13)), some (.int (zI 0))], [.int (zI v13)], es12)) i_14_4 rfl ?_
    refine x0 (r := (6, [some (.ref 77), some (.int (zI v13)), some (.int (zI 0))], [.ref 77, .int (zI v13)], es12)) i_14_5 rfl ?_
    refine x_alen (p := 13) (n := 3) i_14_6 hs_es12 rfl ?_
    by_cases c14 : 3 ≤ v13
    · refine x_cmpT i_14_7 (by unfold i32 iLO iHI; omega) (by unfold i32 iLO iHI; omega) rfl (by simp only [zC, cR]; omega) ?_
      refine x_ret (v := none) i_14_14 rfl (fun _ => rfl) rfl rfl rfl ?_
      show aW _ _ _ _ _ _ (24, [some (.ref 71), some (.int (zI wy))], [], es12)
      refine x0 (r := (25, [some (.ref 71), some (.int (zI wy))], [.ref 71], es12)) i_114_24 rfl ?_
      refine x0 (r := (26, [some (.ref 71), some (.int (zI wy))], [.ref 71, .ref 71], es12)) i_114_25 rfl ?_
      refine x_geti (p := 7) i_114_26 hs_es12 rfl rfl ?_
      obtain ⟨v15, e_v15⟩ : ∃ z : Int, z = (gI es12 7 5).toInt := ⟨_, rfl⟩
      rw [← e_v15]
      have r_v15 : iLO ≤ v15 ∧ v15 ≤ iHI := by rw [e_v15]; exact i32_rng _
      unfold iLO iHI at r_v15
      have b_v15 : (0 : Int) ≤ v15 ∧ v15 ≤ (3 : Int) := by rw [e_v15]; exact gI_bd hT_es12 (p := 7) (b := 5) rfl rfl
      refine x0 (r := (30, [some (.ref 71), some (.int (zI wy))], [.int (zI 1), .int (zI v15), .ref 71], es12)) i_114_29 (by rfl) ?_
      refine x_iadd i_114_30 ?_
      refine x_puti (p := 7) (ty := .int) i_114_31 hs_es12 rfl rfl rfl (Or.inl rfl) ?_
      obtain ⟨es16, e_es16⟩ : ∃ z : PH, z = sI es12 7 5 (.int (zI (v15 + 1))) := ⟨_, rfl⟩
      have hs_es16 : sh es16 := by rw [e_es16]; exact sh_sI hs_es12 (p := 7) (b := 5) rfl rfl
      rw [← e_es16]
      refine x0 (r := (35, [some (.ref 71), some (.int (zI wy))], [.ref 71], es16)) i_114_34 rfl ?_
      refine x_geti (p := 7) i_114_35 hs_es16 rfl rfl ?_
      obtain ⟨v17, e_v17⟩ : ∃ z : Int, z = (gI es16 7 5).toInt := ⟨_, rfl⟩
      rw [← e_v17]
      have r_v17 : iLO ≤ v17 ∧ v17 ≤ iHI := by rw [e_v17]; exact i32_rng _
      unfold iLO iHI at r_v17
      refine x0 (r := (39, [some (.ref 71), some (.int (zI wy))], [.int (zI 1), .int (zI v17)], es16)) i_114_38 (by rfl) ?_
      refine x_isub i_114_39 ?_
      refine x_ret (v := some (.int (zI (v17 - 1)))) i_114_40 rfl (fun _ => rfl) rfl rfl rfl ?_
      exact K3 v1 e_v1 c2 es12 e_es12 v13 e_v13 c14 v15 e_v15 es16 e_es16 v17 e_v17
    · refine x_cmpF i_14_7 (by unfold i32 iLO iHI; omega) (by unfold i32 iLO iHI; omega) rfl (by simp only [zC, cR]; omega) ?_
      refine x0 (r := (11, [some (.ref 77), some (.int (zI v13)), some (.int (zI 0))], [.ref 77], es12)) i_14_10 rfl ?_
      refine x0 (r := (12, [some (.ref 77), some (.int (zI v13)), some (.int (zI 0))], [.int (zI v13), .ref 77], es12)) i_14_11 rfl ?_
      refine x0 (r := (13, [some (.ref 77), some (.int (zI v13)), some (.int (zI 0))], [.int (zI 0), .int (zI v13), .ref 77], es12)) i_14_12 rfl ?_
      refine x_iast (p := 13) i_14_13 hs_es12 rfl (by unfold i32 iLO iHI; omega) (by omega) (by omega) ?_
      obtain ⟨es18, e_es18⟩ : ∃ z : PH, z = sA es12 13 v13.toNat (zI 0) := ⟨_, rfl⟩
      have hs_es18 : sh es18 := by rw [e_es18]; exact sh_sA hs_es12
      have hT_es18 : hOK tT es18 := by rw [e_es18]; exact hOK_sA hT_es12 (p := 13) (n := 3) rfl (fun _ => by rw [zI_toInt (by unfold i32 iLO iHI; omega)]; exact ⟨by show (0 : Int) ≤ 0; omega, by show 0 ≤ (24 : Int); omega⟩)
      rw [← e_es18]
      refine x_ret (v := none) i_14_14 rfl (fun _ => rfl) rfl rfl rfl ?_
      show aW _ _ _ _ _ _ (24, [some (.ref 71), some (.int (zI wy))], [], es18)
      refine x0 (r := (25, [some (.ref 71), some (.int (zI wy))], [.ref 71], es18)) i_114_24 rfl ?_
      refine x0 (r := (26, [some (.ref 71), some (.int (zI wy))], [.ref 71, .ref 71], es18)) i_114_25 rfl ?_
      refine x_geti (p := 7) i_114_26 hs_es18 rfl rfl ?_
      obtain ⟨v19, e_v19⟩ : ∃ z : Int, z = (gI es18 7 5).toInt := ⟨_, rfl⟩
      rw [← e_v19]
      have r_v19 : iLO ≤ v19 ∧ v19 ≤ iHI := by rw [e_v19]; exact i32_rng _
      unfold iLO iHI at r_v19
      have b_v19 : (0 : Int) ≤ v19 ∧ v19 ≤ (3 : Int) := by rw [e_v19]; exact gI_bd hT_es18 (p := 7) (b := 5) rfl rfl
      refine x0 (r := (30, [some (.ref 71), some (.int (zI wy))], [.int (zI 1), .int (zI v19), .ref 71], es18)) i_114_29 (by rfl) ?_
      refine x_iadd i_114_30 ?_
      refine x_puti (p := 7) (ty := .int) i_114_31 hs_es18 rfl rfl rfl (Or.inl rfl) ?_
      obtain ⟨es20, e_es20⟩ : ∃ z : PH, z = sI es18 7 5 (.int (zI (v19 + 1))) := ⟨_, rfl⟩
      have hs_es20 : sh es20 := by rw [e_es20]; exact sh_sI hs_es18 (p := 7) (b := 5) rfl rfl
      rw [← e_es20]
      refine x0 (r := (35, [some (.ref 71), some (.int (zI wy))], [.ref 71], es20)) i_114_34 rfl ?_
      refine x_geti (p := 7) i_114_35 hs_es20 rfl rfl ?_
      obtain ⟨v21, e_v21⟩ : ∃ z : Int, z = (gI es20 7 5).toInt := ⟨_, rfl⟩
      rw [← e_v21]
      have r_v21 : iLO ≤ v21 ∧ v21 ≤ iHI := by rw [e_v21]; exact i32_rng _
      unfold iLO iHI at r_v21
      refine x0 (r := (39, [some (.ref 71), some (.int (zI wy))], [.int (zI 1), .int (zI v21)], es20)) i_114_38 (by rfl) ?_
      refine x_isub i_114_39 ?_
      refine x_ret (v := some (.int (zI (v21 - 1)))) i_114_40 rfl (fun _ => rfl) rfl rfl rfl ?_
      exact K4 v1 e_v1 c2 es12 e_es12 v13 e_v13 c14 es18 e_es18 v19 e_v19 es20 e_es20 v21 e_v21

theorem s_cw71 {O : pOut} {d kc ks : Nat} {Q : pRes → Prop} {es : PH} {wy mv sl se b : Int} (hs_es : sh es)
    (K1 : aW O d 123 kc ks Q (77, [some (.ref 64), some (.int (zI wy)), some (.int (zI mv)), some (.int (zI sl)), some (.int (zI se)), some (.int (zI b))], [.ref 93], es)) :
    aW O d 123 kc ks Q (71, [some (.ref 64), some (.int (zI wy)), some (.int (zI mv)), some (.int (zI sl)), some (.int (zI se)), none], [.int (zI b)], es) := by
  refine x0 (r := (73, [some (.ref 64), some (.int (zI wy)), some (.int (zI mv)), some (.int (zI sl)), some (.int (zI se)), some (.int (zI b))], [], es)) i_123_71 rfl ?_
  refine x0 (r := (74, [some (.ref 64), some (.int (zI wy)), some (.int (zI mv)), some (.int (zI sl)), some (.int (zI se)), some (.int (zI b))], [.ref 64], es)) i_123_73 rfl ?_
  refine x_getr (p := 0) (k := 93) i_123_74 hs_es rfl rfl ?_
  show aW _ _ _ _ _ _ (77, [some (.ref 64), some (.int (zI wy)), some (.int (zI mv)), some (.int (zI sl)), some (.int (zI se)), some (.int (zI b))], [.ref 93], es)
  exact K1

theorem s_setUp {O : pOut} {d kc ks : Nat} {Q : pRes → Prop} {es : PH} (hs_es : sh es)
    (K1 : aW O d 24 kc ks Q (11, [some (.ref 93)], [.ref 94, .ref 75], es)) :
    aW O d 24 kc ks Q (0, [some (.ref 93)], [], es) := by
  refine x0 (r := (1, [some (.ref 93)], [.ref 93], es)) i_24_0 rfl ?_
  refine x_getr (p := 29) (k := 71) i_24_1 hs_es rfl rfl ?_
  show aW _ _ _ _ _ _ (4, [some (.ref 93)], [.ref 71], es)
  refine x_getr (p := 7) (k := 75) i_24_4 hs_es rfl rfl ?_
  show aW _ _ _ _ _ _ (7, [some (.ref 93)], [.ref 75], es)
  refine x0 (r := (8, [some (.ref 93)], [.ref 93, .ref 75], es)) i_24_7 rfl ?_
  refine x_getr (p := 29) (k := 94) i_24_8 hs_es rfl rfl ?_
  show aW _ _ _ _ _ _ (11, [some (.ref 93)], [.ref 94, .ref 75], es)
  exact K1

theorem s_setUp14 {O : pOut} {d kc ks : Nat} {Q : pRes → Prop} {es : PH} (hs_es : sh es)
    (K1 : Q (.inl (none), es, kc, ks)) :
    aW O d 24 kc ks Q (14, [some (.ref 93)], [], es) := by
  refine x_ret (v := none) i_24_14 rfl (fun _ => rfl) rfl rfl rfl ?_
  exact K1
