/-! SEGMENTS of methods by hand, printed by wip/ai2/hand8.py -/
section
variable {O : pOut} {d j kc ks pc q a b : Nat} {Q : pRes → Prop} {L : PL} {s : List Value} {es : PH} {ins : Instr} {ret : Option FieldType} {r : pSt}
theorem x_new (hi : iRow j pc = some (ins, q, a, b, ret)) (h0 : pS0 ins pc L s es = none) (h1 : ∀ ini, pS1 O ini ins q a b pc L s es = none) (h2 : pS2 ins a b pc L s es = some r) (K : aW O d j (kc + 1) (ks + pNew ins a s) Q r) : aW O d j kc ks Q (pc, L, s, es) := by
  obtain ⟨rw_, len, r1, r2, r3⟩ := iRow_at hi
  refine aW_go (c1 := 1) (k1 := pNew ins a s) (nd := false) ?_ (fun h => by cases h) K
  unfold pAct
  simp only [r1, r2, h0, h1, h2]
theorem x_thr (hi : iRow j pc = some (ins, q, a, b, ret)) (h0 : pS0 ins pc L s es = none) (h1 : ∀ ini, pS1 O ini ins q a b pc L s es = none) (h2 : pS2 ins a b pc L s es = none) (h3 : pS3 ins a b pc L s es = none) (h4 : pFin ins s ret = none) (h5 : pIsT ins b s = true) (K : Q (.inr a, es, kc + 1, ks + 6)) : aW O d j kc ks Q (pc, L, s, es) := by
  obtain ⟨rw_, len, r1, r2, r3⟩ := iRow_at hi
  subst r3
  refine aW_throw (a := a) ?_ K
  unfold pAct
  simp only [r1, r2, h0, h1, h2, h3, h4, h5, if_true]
end
theorem i_14_0 : iRow 14 0 = some (.iload_n 1, 0, 0, 0, none) := rfl
theorem i_14_1 : iRow 14 1 = some (.ifCond .lt 13, 0, 0, 0, none) := rfl
theorem i_14_4 : iRow 14 4 = some (.iload_n 1, 0, 0, 0, none) := rfl
theorem i_14_5 : iRow 14 5 = some (.aload_n 0, 0, 0, 0, none) := rfl
theorem i_14_6 : iRow 14 6 = some (.arraylength, 0, 0, 0, none) := rfl
theorem i_14_7 : iRow 14 7 = some (.if_icmp .ge 7, 0, 0, 0, none) := rfl
theorem i_14_10 : iRow 14 10 = some (.aload_n 0, 0, 0, 0, none) := rfl
theorem i_14_11 : iRow 14 11 = some (.iload_n 1, 0, 0, 0, none) := rfl
theorem i_14_12 : iRow 14 12 = some (.iload_n 2, 0, 0, 0, none) := rfl
theorem i_14_13 : iRow 14 13 = some (.iastore, 0, 0, 0, none) := rfl
theorem i_14_14 : iRow 14 14 = some (.return_, 0, 0, 0, none) := rfl
theorem i_28_0 : iRow 28 0 = some (.iload_n 1, 0, 0, 0, (some (Jvm.ClassFile.FieldType.int))) := rfl
theorem i_28_1 : iRow 28 1 = some (.ifCond .lt 15, 0, 0, 0, (some (Jvm.ClassFile.FieldType.int))) := rfl
theorem i_28_4 : iRow 28 4 = some (.iload_n 1, 0, 0, 0, (some (Jvm.ClassFile.FieldType.int))) := rfl
theorem i_28_5 : iRow 28 5 = some (.aload_n 0, 0, 0, 0, (some (Jvm.ClassFile.FieldType.int))) := rfl
theorem i_28_6 : iRow 28 6 = some (.arraylength, 0, 0, 0, (some (Jvm.ClassFile.FieldType.int))) := rfl
theorem i_28_7 : iRow 28 7 = some (.if_icmp .ge 9, 0, 0, 0, (some (Jvm.ClassFile.FieldType.int))) := rfl
theorem i_28_10 : iRow 28 10 = some (.aload_n 0, 0, 0, 0, (some (Jvm.ClassFile.FieldType.int))) := rfl
theorem i_28_11 : iRow 28 11 = some (.iload_n 1, 0, 0, 0, (some (Jvm.ClassFile.FieldType.int))) := rfl
theorem i_28_12 : iRow 28 12 = some (.iaload, 0, 0, 0, (some (Jvm.ClassFile.FieldType.int))) := rfl
theorem i_28_13 : iRow 28 13 = some (.goto 4, 0, 0, 0, (some (Jvm.ClassFile.FieldType.int))) := rfl
theorem i_28_16 : iRow 28 16 = some (.iconst 0, 0, 0, 0, (some (Jvm.ClassFile.FieldType.int))) := rfl
theorem i_28_17 : iRow 28 17 = some (.ireturn, 0, 0, 0, (some (Jvm.ClassFile.FieldType.int))) := rfl
theorem i_35_0 : iRow 35 0 = some (.aload_n 0, 0, 0, 0, (some (Jvm.ClassFile.FieldType.int))) := rfl
theorem i_35_1 : iRow 35 1 = some (.getfield 27, 36, 1, 7, (some (Jvm.ClassFile.FieldType.int))) := rfl
theorem i_35_4 : iRow 35 4 = some (.iload_n 1, 0, 0, 0, (some (Jvm.ClassFile.FieldType.int))) := rfl
theorem i_35_5 : iRow 35 5 = some (.invokestatic 73, 11, 28, 3, (some (Jvm.ClassFile.FieldType.int))) := rfl
theorem i_35_8 : iRow 35 8 = some (.ireturn, 0, 0, 0, (some (Jvm.ClassFile.FieldType.int))) := rfl
theorem i_116_0 : iRow 116 0 = some (.iload_n 1, 0, 0, 0, (some (Jvm.ClassFile.FieldType.boolean))) := rfl
theorem i_116_1 : iRow 116 1 = some (.ifCond .lt 18, 0, 0, 0, (some (Jvm.ClassFile.FieldType.boolean))) := rfl
theorem i_116_4 : iRow 116 4 = some (.iload_n 1, 0, 0, 0, (some (Jvm.ClassFile.FieldType.boolean))) := rfl
theorem i_116_5 : iRow 116 5 = some (.aload_n 0, 0, 0, 0, (some (Jvm.ClassFile.FieldType.boolean))) := rfl
theorem i_116_6 : iRow 116 6 = some (.getfield 28, 139, 11, 2, (some (Jvm.ClassFile.FieldType.boolean))) := rfl
theorem i_116_9 : iRow 116 9 = some (.getfield 164, 32, 1, 5, (some (Jvm.ClassFile.FieldType.boolean))) := rfl
theorem i_116_12 : iRow 116 12 = some (.if_icmp .ge 7, 0, 0, 0, (some (Jvm.ClassFile.FieldType.boolean))) := rfl
theorem i_116_15 : iRow 116 15 = some (.iconst 1, 0, 0, 0, (some (Jvm.ClassFile.FieldType.boolean))) := rfl
theorem i_116_16 : iRow 116 16 = some (.goto 4, 0, 0, 0, (some (Jvm.ClassFile.FieldType.boolean))) := rfl
theorem i_116_19 : iRow 116 19 = some (.iconst 0, 0, 0, 0, (some (Jvm.ClassFile.FieldType.boolean))) := rfl
theorem i_116_20 : iRow 116 20 = some (.ireturn, 0, 0, 0, (some (Jvm.ClassFile.FieldType.boolean))) := rfl
theorem i_162_0 : iRow 162 0 = some (.aload_n 0, 0, 0, 0, (some (Jvm.ClassFile.FieldType.int))) := rfl
theorem i_162_1 : iRow 162 1 = some (.iload_n 1, 0, 0, 0, (some (Jvm.ClassFile.FieldType.int))) := rfl
theorem i_162_2 : iRow 162 2 = some (.invokevirtual 172, 155, 116, 1, (some (Jvm.ClassFile.FieldType.int))) := rfl
theorem i_162_5 : iRow 162 5 = some (.ifCond .eq 11, 0, 0, 0, (some (Jvm.ClassFile.FieldType.int))) := rfl
theorem i_162_8 : iRow 162 8 = some (.aload_n 0, 0, 0, 0, (some (Jvm.ClassFile.FieldType.int))) := rfl
theorem i_162_9 : iRow 162 9 = some (.iload_n 2, 0, 0, 0, (some (Jvm.ClassFile.FieldType.int))) := rfl
theorem i_162_10 : iRow 162 10 = some (.invokevirtual 172, 155, 116, 1, (some (Jvm.ClassFile.FieldType.int))) := rfl
theorem i_162_13 : iRow 162 13 = some (.ifCond .ne 14, 0, 0, 0, (some (Jvm.ClassFile.FieldType.int))) := rfl
theorem i_162_16 : iRow 162 16 = some (.new 125, 18, 2, 1, (some (Jvm.ClassFile.FieldType.int))) := rfl
theorem i_162_27 : iRow 162 27 = some (.aload_n 0, 0, 0, 0, (some (Jvm.ClassFile.FieldType.int))) := rfl
theorem i_162_28 : iRow 162 28 = some (.getfield 28, 139, 11, 2, (some (Jvm.ClassFile.FieldType.int))) := rfl
theorem i_162_31 : iRow 162 31 = some (.iload_n 1, 0, 0, 0, (some (Jvm.ClassFile.FieldType.int))) := rfl
theorem i_162_32 : iRow 162 32 = some (.iload_n 2, 0, 0, 0, (some (Jvm.ClassFile.FieldType.int))) := rfl
theorem i_162_33 : iRow 162 33 = some (.bipush 25, 0, 0, 0, (some (Jvm.ClassFile.FieldType.int))) := rfl
theorem i_162_35 : iRow 162 35 = some (.newarray .int, 0, 0, 0, (some (Jvm.ClassFile.FieldType.int))) := rfl
theorem i_162_37 : iRow 162 37 = some (.invokevirtual 353, 245, 163, 1, (some (Jvm.ClassFile.FieldType.int))) := rfl
theorem i_162_40 : iRow 162 40 = some (.ireturn, 0, 0, 0, (some (Jvm.ClassFile.FieldType.int))) := rfl
theorem i_163_0 : iRow 163 0 = some (.iconst 0, 0, 0, 0, (some (Jvm.ClassFile.FieldType.int))) := rfl
theorem i_163_1 : iRow 163 1 = some (.istore 4, 0, 0, 0, (some (Jvm.ClassFile.FieldType.int))) := rfl
theorem i_163_3 : iRow 163 3 = some (.iload 4, 0, 0, 0, (some (Jvm.ClassFile.FieldType.int))) := rfl
theorem i_163_5 : iRow 163 5 = some (.aload_n 0, 0, 0, 0, (some (Jvm.ClassFile.FieldType.int))) := rfl
theorem i_163_6 : iRow 163 6 = some (.iload_n 1, 0, 0, 0, (some (Jvm.ClassFile.FieldType.int))) := rfl
theorem i_163_7 : iRow 163 7 = some (.invokevirtual 80, 82, 35, 1, (some (Jvm.ClassFile.FieldType.int))) := rfl
theorem i_163_10 : iRow 163 10 = some (.if_icmp .ge 88, 0, 0, 0, (some (Jvm.ClassFile.FieldType.int))) := rfl
theorem i_163_13 : iRow 163 13 = some (.iconst 0, 0, 0, 0, (some (Jvm.ClassFile.FieldType.int))) := rfl
theorem i_163_14 : iRow 163 14 = some (.istore 5, 0, 0, 0, (some (Jvm.ClassFile.FieldType.int))) := rfl
theorem i_163_16 : iRow 163 16 = some (.iconst 1, 0, 0, 0, (some (Jvm.ClassFile.FieldType.int))) := rfl
theorem i_163_17 : iRow 163 17 = some (.istore 6, 0, 0, 0, (some (Jvm.ClassFile.FieldType.int))) := rfl
theorem i_163_19 : iRow 163 19 = some (.iload 6, 0, 0, 0, (some (Jvm.ClassFile.FieldType.int))) := rfl
theorem i_163_21 : iRow 163 21 = some (.aload_n 0, 0, 0, 0, (some (Jvm.ClassFile.FieldType.int))) := rfl
theorem i_163_22 : iRow 163 22 = some (.iload_n 2, 0, 0, 0, (some (Jvm.ClassFile.FieldType.int))) := rfl
theorem i_163_23 : iRow 163 23 = some (.invokevirtual 80, 82, 35, 1, (some (Jvm.ClassFile.FieldType.int))) := rfl
theorem i_163_26 : iRow 163 26 = some (.if_icmp .gt 66, 0, 0, 0, (some (Jvm.ClassFile.FieldType.int))) := rfl
theorem i_163_29 : iRow 163 29 = some (.aload_n 3, 0, 0, 0, (some (Jvm.ClassFile.FieldType.int))) := rfl
theorem i_163_30 : iRow 163 30 = some (.iload 6, 0, 0, 0, (some (Jvm.ClassFile.FieldType.int))) := rfl
theorem i_163_32 : iRow 163 32 = some (.invokestatic 73, 11, 28, 3, (some (Jvm.ClassFile.FieldType.int))) := rfl
theorem i_163_35 : iRow 163 35 = some (.istore 7, 0, 0, 0, (some (Jvm.ClassFile.FieldType.int))) := rfl
theorem i_163_37 : iRow 163 37 = some (.aload_n 0, 0, 0, 0, (some (Jvm.ClassFile.FieldType.int))) := rfl
theorem i_163_38 : iRow 163 38 = some (.iload_n 1, 0, 0, 0, (some (Jvm.ClassFile.FieldType.int))) := rfl
theorem i_163_39 : iRow 163 39 = some (.iload 4, 0, 0, 0, (some (Jvm.ClassFile.FieldType.int))) := rfl
theorem i_163_41 : iRow 163 41 = some (.iload_n 2, 0, 0, 0, (some (Jvm.ClassFile.FieldType.int))) := rfl
theorem i_163_42 : iRow 163 42 = some (.iload 6, 0, 0, 0, (some (Jvm.ClassFile.FieldType.int))) := rfl
theorem i_163_44 : iRow 163 44 = some (.iconst 1, 0, 0, 0, (some (Jvm.ClassFile.FieldType.int))) := rfl
theorem i_163_45 : iRow 163 45 = some (.isub, 0, 0, 0, (some (Jvm.ClassFile.FieldType.int))) := rfl
theorem i_163_46 : iRow 163 46 = some (.invokevirtual 88, 246, 56, 1, (some (Jvm.ClassFile.FieldType.int))) := rfl
theorem i_163_49 : iRow 163 49 = some (.ifCond .eq 10, 0, 0, 0, (some (Jvm.ClassFile.FieldType.int))) := rfl
theorem i_163_52 : iRow 163 52 = some (.iload 5, 0, 0, 0, (some (Jvm.ClassFile.FieldType.int))) := rfl
theorem i_163_54 : iRow 163 54 = some (.iconst 1, 0, 0, 0, (some (Jvm.ClassFile.FieldType.int))) := rfl
theorem i_163_55 : iRow 163 55 = some (.iadd, 0, 0, 0, (some (Jvm.ClassFile.FieldType.int))) := rfl
theorem i_163_56 : iRow 163 56 = some (.goto 16, 0, 0, 0, (some (Jvm.ClassFile.FieldType.int))) := rfl
theorem i_163_59 : iRow 163 59 = some (.iload 7, 0, 0, 0, (some (Jvm.ClassFile.FieldType.int))) := rfl
theorem i_163_61 : iRow 163 61 = some (.aload_n 3, 0, 0, 0, (some (Jvm.ClassFile.FieldType.int))) := rfl
theorem i_163_62 : iRow 163 62 = some (.iload 6, 0, 0, 0, (some (Jvm.ClassFile.FieldType.int))) := rfl
theorem i_163_64 : iRow 163 64 = some (.iconst 1, 0, 0, 0, (some (Jvm.ClassFile.FieldType.int))) := rfl
theorem i_163_65 : iRow 163 65 = some (.isub, 0, 0, 0, (some (Jvm.ClassFile.FieldType.int))) := rfl
theorem i_163_66 : iRow 163 66 = some (.invokestatic 73, 11, 28, 3, (some (Jvm.ClassFile.FieldType.int))) := rfl
theorem i_163_69 : iRow 163 69 = some (.invokestatic 91, 247, 30, 0, (some (Jvm.ClassFile.FieldType.int))) := rfl
theorem i_163_72 : iRow 163 72 = some (.istore 8, 0, 0, 0, (some (Jvm.ClassFile.FieldType.int))) := rfl
theorem i_163_74 : iRow 163 74 = some (.aload_n 3, 0, 0, 0, (some (Jvm.ClassFile.FieldType.int))) := rfl
theorem i_163_75 : iRow 163 75 = some (.iload 6, 0, 0, 0, (some (Jvm.ClassFile.FieldType.int))) := rfl
theorem i_163_77 : iRow 163 77 = some (.iload 8, 0, 0, 0, (some (Jvm.ClassFile.FieldType.int))) := rfl
theorem i_163_79 : iRow 163 79 = some (.invokestatic 62, 28, 14, 3, (some (Jvm.ClassFile.FieldType.int))) := rfl
theorem i_163_82 : iRow 163 82 = some (.iload 7, 0, 0, 0, (some (Jvm.ClassFile.FieldType.int))) := rfl
theorem i_163_84 : iRow 163 84 = some (.istore 5, 0, 0, 0, (some (Jvm.ClassFile.FieldType.int))) := rfl
theorem i_163_86 : iRow 163 86 = some (.iinc 6 1, 0, 0, 0, (some (Jvm.ClassFile.FieldType.int))) := rfl
theorem i_163_89 : iRow 163 89 = some (.goto (-70), 0, 0, 0, (some (Jvm.ClassFile.FieldType.int))) := rfl
theorem i_163_92 : iRow 163 92 = some (.iinc 4 1, 0, 0, 0, (some (Jvm.ClassFile.FieldType.int))) := rfl
theorem i_163_95 : iRow 163 95 = some (.goto (-92), 0, 0, 0, (some (Jvm.ClassFile.FieldType.int))) := rfl
theorem i_163_98 : iRow 163 98 = some (.aload_n 3, 0, 0, 0, (some (Jvm.ClassFile.FieldType.int))) := rfl
theorem i_163_99 : iRow 163 99 = some (.aload_n 0, 0, 0, 0, (some (Jvm.ClassFile.FieldType.int))) := rfl
theorem i_163_100 : iRow 163 100 = some (.iload_n 2, 0, 0, 0, (some (Jvm.ClassFile.FieldType.int))) := rfl
theorem i_163_101 : iRow 163 101 = some (.invokevirtual 80, 82, 35, 1, (some (Jvm.ClassFile.FieldType.int))) := rfl
theorem i_163_104 : iRow 163 104 = some (.invokestatic 73, 11, 28, 3, (some (Jvm.ClassFile.FieldType.int))) := rfl
theorem i_163_107 : iRow 163 107 = some (.ireturn, 0, 0, 0, (some (Jvm.ClassFile.FieldType.int))) := rfl
theorem s_mic0 {O : pOut} {d kc ks : Nat} {Q : pRes → Prop} {es : PH} {fi se : Int} {lp : Nat} (hs_es : sh es) (hf : -2147483648 ≤ fi ∧ fi ≤ 2147483647) (hg : -2147483648 ≤ se ∧ se ≤ 2147483647)
    (K1 : aW O d 163 kc ks Q (3, [some (.ref 71), some (.int (zI fi)), some (.int (zI se)), some (.ref (64 + lp)), some (.int (zI 0)), none, none, none, none], [], es)) :
    aW O d 163 kc ks Q (0, [some (.ref 71), some (.int (zI fi)), some (.int (zI se)), some (.ref (64 + lp)), none, none, none, none, none], [], es) := by
  refine x0 (r := (1, [some (.ref 71), some (.int (zI fi)), some (.int (zI se)), some (.ref (64 + lp)), none, none, none, none, none], [.int (zI 0)], es)) i_163_0 (by rfl) ?_
  refine x0 (r := (3, [some (.ref 71), some (.int (zI fi)), some (.int (zI se)), some (.ref (64 + lp)), some (.int (zI 0)), none, none, none, none], [], es)) i_163_1 rfl ?_
  exact K1

theorem s_mic3 {O : pOut} {d kc ks : Nat} {Q : pRes → Prop} {es : PH} {fi se n : Int} {lp : Nat} {x5 x6 x7 x8 : Option Value} (hs_es : sh es) (hf : -2147483648 ≤ fi ∧ fi ≤ 2147483647) (hg : -2147483648 ≤ se ∧ se ≤ 2147483647) (h1 : 0 ≤ n ∧ n ≤ 24) (hT_es : hOK tT es)
    (K1 : fi < 0 → 0 ≤ n → aW O (d + 2) 163 kc ks Q (98, [some (.ref 71), some (.int (zI fi)), some (.int (zI se)), some (.ref (64 + lp)), some (.int (zI n)), x5, x6, x7, x8], [], es))
    (K2 : fi < 0 → ¬ (0 ≤ n) → aW O (d + 2) 163 kc ks Q (19, [some (.ref 71), some (.int (zI fi)), some (.int (zI se)), some (.ref (64 + lp)), some (.int (zI n)), some (.int (zI 0)), some (.int (zI 1)), x7, x8], [], es))
    (K3 : ¬ (fi < 0) → 3 ≤ fi → 0 ≤ n → aW O (d + 2) 163 kc ks Q (98, [some (.ref 71), some (.int (zI fi)), some (.int (zI se)), some (.ref (64 + lp)), some (.int (zI n)), x5, x6, x7, x8], [], es))
    (K4 : ¬ (fi < 0) → 3 ≤ fi → ¬ (0 ≤ n) → aW O (d + 2) 163 kc ks Q (19, [some (.ref 71), some (.int (zI fi)), some (.int (zI se)), some (.ref (64 + lp)), some (.int (zI n)), some (.int (zI 0)), some (.int (zI 1)), x7, x8], [], es))
    (K5 : ¬ (fi < 0) → ¬ (3 ≤ fi) → ∀ v5 : Int, v5 = (gA es 13 fi.toNat).toInt → v5 ≤ n → aW O (d + 2) 163 kc ks Q (98, [some (.ref 71), some (.int (zI fi)), some (.int (zI se)), some (.ref (64 + lp)), some (.int (zI n)), x5, x6, x7, x8], [], es))
    (K6 : ¬ (fi < 0) → ¬ (3 ≤ fi) → ∀ v5 : Int, v5 = (gA es 13 fi.toNat).toInt → ¬ (v5 ≤ n) → aW O (d + 2) 163 kc ks Q (19, [some (.ref 71), some (.int (zI fi)), some (.int (zI se)), some (.ref (64 + lp)), some (.int (zI n)), some (.int (zI 0)), some (.int (zI 1)), x7, x8], [], es)) :
    aW O (d + 2) 163 kc ks Q (3, [some (.ref 71), some (.int (zI fi)), some (.int (zI se)), some (.ref (64 + lp)), some (.int (zI n)), x5, x6, x7, x8], [], es) := by
  refine x0 (r := (5, [some (.ref 71), some (.int (zI fi)), some (.int (zI se)), some (.ref (64 + lp)), some (.int (zI n)), x5, x6, x7, x8], [.int (zI n)], es)) i_163_3 rfl ?_
  refine x0 (r := (6, [some (.ref 71), some (.int (zI fi)), some (.int (zI se)), some (.ref (64 + lp)), some (.int (zI n)), x5, x6, x7, x8], [.ref 71, .int (zI n)], es)) i_163_5 rfl ?_
  refine x0 (r := (7, [some (.ref 71), some (.int (zI fi)), some (.int (zI se)), some (.ref (64 + lp)), some (.int (zI n)), x5, x6, x7, x8], [.int (zI fi), .ref 71, .int (zI n)], es)) i_163_6 rfl ?_
  refine x_call (vs := [.ref 71, .int (zI fi)]) (rs := [.int (zI n)]) i_163_7 rfl (fun _ => rfl) rfl rfl rfl rfl rfl (pCall_v (p := 7) hs_es rfl rfl rfl rfl rfl (by decide) rfl rfl rfl rfl rfl) ?_
  show aW _ _ _ _ _ _ (0, [some (.ref 71), some (.int (zI fi))], [], es)
  refine x0 (r := (1, [some (.ref 71), some (.int (zI fi))], [.ref 71], es)) i_35_0 rfl ?_
  refine x_getr (p := 7) (k := 77) i_35_1 hs_es rfl rfl ?_
  show aW _ _ _ _ _ _ (4, [some (.ref 71), some (.int (zI fi))], [.ref 77], es)
  refine x0 (r := (5, [some (.ref 71), some (.int (zI fi))], [.int (zI fi), .ref 77], es)) i_35_4 rfl ?_
  refine x_call (vs := [.ref 77, .int (zI fi)]) (rs := []) i_35_5 rfl (fun _ => rfl) rfl rfl rfl rfl rfl rfl ?_
  show aW _ _ _ _ _ _ (0, [some (.ref 77), some (.int (zI fi))], [], es)
  refine x0 (r := (1, [some (.ref 77), some (.int (zI fi))], [.int (zI fi)], es)) i_28_0 rfl ?_
  by_cases c1 : fi < 0
  · refine x_ifT i_28_1 (by unfold i32 iLO iHI; omega) rfl (by simp only [zC, cR]; omega) ?_
    refine x0 (r := (17, [some (.ref 77), some (.int (zI fi))], [.int (zI 0)], es)) i_28_16 (by rfl) ?_
    refine x_ret (v := some (.int (zI 0))) i_28_17 rfl (fun _ => rfl) rfl rfl rfl ?_
    show aW _ _ _ _ _ _ (8, [some (.ref 71), some (.int (zI fi))], [.int (zI 0)], es)
    refine x_ret (v := some (.int (zI 0))) i_35_8 rfl (fun _ => rfl) rfl rfl rfl ?_
    show aW _ _ _ _ _ _ (10, [some (.ref 71), some (.int (zI fi)), some (.int (zI se)), some (.ref (64 + lp)), some (.int (zI n)), x5, x6, x7, x8], [.int (zI 0), .int (zI n)], es)
    by_cases c2 : 0 ≤ n
    · refine x_cmpT i_163_10 (by unfold i32 iLO iHI; omega) (by unfold i32 iLO iHI; omega) rfl (by simp only [zC, cR]; omega) ?_
      exact K1 c1 c2
    · refine x_cmpF i_163_10 (by unfold i32 iLO iHI; omega) (by unfold i32 iLO iHI; omega) rfl (by simp only [zC, cR]; omega) ?_
      refine x0 (r := (14, [some (.ref 71), some (.int (zI fi)), some (.int (zI se)), some (.ref (64 + lp)), some (.int (zI n)), x5, x6, x7, x8], [.int (zI 0)], es)) i_163_13 (by rfl) ?_
      refine x0 (r := (16, [some (.ref 71), some (.int (zI fi)), some (.int (zI se)), some (.ref (64 + lp)), some (.int (zI n)), some (.int (zI 0)), x6, x7, x8], [], es)) i_163_14 rfl ?_
      refine x0 (r := (17, [some (.ref 71), some (.int (zI fi)), some (.int (zI se)), some (.ref (64 + lp)), some (.int (zI n)), some (.int (zI 0)), x6, x7, x8], [.int (zI 1)], es)) i_163_16 (by rfl) ?_
      refine x0 (r := (19, [some (.ref 71), some (.int (zI fi)), some (.int (zI se)), some (.ref (64 + lp)), some (.int (zI n)), some (.int (zI 0)), some (.int (zI 1)), x7, x8], [], es)) i_163_17 rfl ?_
      exact K2 c1 c2
  · refine x_ifF i_28_1 (by unfold i32 iLO iHI; omega) rfl (by simp only [zC, cR]; omega) ?_
    refine x0 (r := (5, [some (.ref 77), some (.int (zI fi))], [.int (zI fi)], es)) i_28_4 rfl ?_
    refine x0 (r := (6, [some (.ref 77), some (.int (zI fi))], [.ref 77, .int (zI fi)], es)) i_28_5 rfl ?_
    refine x_alen (p := 13) (n := 3) i_28_6 hs_es rfl ?_
    by_cases c3 : 3 ≤ fi
    · refine x_cmpT i_28_7 (by unfold i32 iLO iHI; omega) (by unfold i32 iLO iHI; omega) rfl (by simp only [zC, cR]; omega) ?_
      refine x0 (r := (17, [some (.ref 77), some (.int (zI fi))], [.int (zI 0)], es)) i_28_16 (by rfl) ?_
      refine x_ret (v := some (.int (zI 0))) i_28_17 rfl (fun _ => rfl) rfl rfl rfl ?_
      show aW _ _ _ _ _ _ (8, [some (.ref 71), some (.int (zI fi))], [.int (zI 0)], es)
      refine x_ret (v := some (.int (zI 0))) i_35_8 rfl (fun _ => rfl) rfl rfl rfl ?_
      show aW _ _ _ _ _ _ (10, [some (.ref 71), some (.int (zI fi)), some (.int (zI se)), some (.ref (64 + lp)), some (.int (zI n)), x5, x6, x7, x8], [.int (zI 0), .int (zI n)], es)
      by_cases c4 : 0 ≤ n
      · refine x_cmpT i_163_10 (by unfold i32 iLO iHI; omega) (by unfold i32 iLO iHI; omega) rfl (by simp only [zC, cR]; omega) ?_
        exact K3 c1 c3 c4
      · refine x_cmpF i_163_10 (by unfold i32 iLO iHI; omega) (by unfold i32 iLO iHI; omega) rfl (by simp only [zC, cR]; omega) ?_
        refine x0 (r := (14, [some (.ref 71), some (.int (zI fi)), some (.int (zI se)), some (.ref (64 + lp)), some (.int (zI n)), x5, x6, x7, x8], [.int (zI 0)], es)) i_163_13 (by rfl) ?_
        refine x0 (r := (16, [some (.ref 71), some (.int (zI fi)), some (.int (zI se)), some (.ref (64 + lp)), some (.int (zI n)), some (.int (zI 0)), x6, x7, x8], [], es)) i_163_14 rfl ?_
        refine x0 (r := (17, [some (.ref 71), some (.int (zI fi)), some (.int (zI se)), some (.ref (64 + lp)), some (.int (zI n)), some (.int (zI 0)), x6, x7, x8], [.int (zI 1)], es)) i_163_16 (by rfl) ?_
        refine x0 (r := (19, [some (.ref 71), some (.int (zI fi)), some (.int (zI se)), some (.ref (64 + lp)), some (.int (zI n)), some (.int (zI 0)), some (.int (zI 1)), x7, x8], [], es)) i_163_17 rfl ?_
        exact K4 c1 c3 c4
    · refine x_cmpF i_28_7 (by unfold i32 iLO iHI; omega) (by unfold i32 iLO iHI; omega) rfl (by simp only [zC, cR]; omega) ?_
      refine x0 (r := (11, [some (.ref 77), some (.int (zI fi))], [.ref 77], es)) i_28_10 rfl ?_
      refine x0 (r := (12, [some (.ref 77), some (.int (zI fi))], [.int (zI fi), .ref 77], es)) i_28_11 rfl ?_
      refine x_iald (p := 13) i_28_12 hs_es rfl (by unfold i32 iLO iHI; omega) (by omega) (by omega) ?_
      obtain ⟨v5, e_v5⟩ : ∃ z : Int, z = (gA es 13 fi.toNat).toInt := ⟨_, rfl⟩
      rw [← e_v5]
      have r_v5 : iLO ≤ v5 ∧ v5 ≤ iHI := by rw [e_v5]; exact i32_rng _
      unfold iLO iHI at r_v5
      have b_v5 : (0 : Int) ≤ v5 ∧ v5 ≤ (24 : Int) := by rw [e_v5]; exact gA_bd hT_es (p := 13) (k := fi.toNat) rfl (by omega) (by decide)
      refine x0 (r := (17, [some (.ref 77), some (.int (zI fi))], [.int (zI v5)], es)) i_28_13 rfl ?_
      refine x_ret (v := some (.int (zI v5))) i_28_17 rfl (fun _ => rfl) rfl rfl rfl ?_
      show aW _ _ _ _ _ _ (8, [some (.ref 71), some (.int (zI fi))], [.int (zI v5)], es)
      refine x_ret (v := some (.int (zI v5))) i_35_8 rfl (fun _ => rfl) rfl rfl rfl ?_
      show aW _ _ _ _ _ _ (10, [some (.ref 71), some (.int (zI fi)), some (.int (zI se)), some (.ref (64 + lp)), some (.int (zI n)), x5, x6, x7, x8], [.int (zI v5), .int (zI n)], es)
      by_cases c6 : v5 ≤ n
      · refine x_cmpT i_163_10 (by unfold i32 iLO iHI; omega) (by unfold i32 iLO iHI; omega) rfl (by simp only [zC, cR]; omega) ?_
        exact K5 c1 c3 v5 e_v5 c6
      · refine x_cmpF i_163_10 (by unfold i32 iLO iHI; omega) (by unfold i32 iLO iHI; omega) rfl (by simp only [zC, cR]; omega) ?_
        refine x0 (r := (14, [some (.ref 71), some (.int (zI fi)), some (.int (zI se)), some (.ref (64 + lp)), some (.int (zI n)), x5, x6, x7, x8], [.int (zI 0)], es)) i_163_13 (by rfl) ?_
        refine x0 (r := (16, [some (.ref 71), some (.int (zI fi)), some (.int (zI se)), some (.ref (64 + lp)), some (.int (zI n)), some (.int (zI 0)), x6, x7, x8], [], es)) i_163_14 rfl ?_
        refine x0 (r := (17, [some (.ref 71), some (.int (zI fi)), some (.int (zI se)), some (.ref (64 + lp)), some (.int (zI n)), some (.int (zI 0)), x6, x7, x8], [.int (zI 1)], es)) i_163_16 (by rfl) ?_
        refine x0 (r := (19, [some (.ref 71), some (.int (zI fi)), some (.int (zI se)), some (.ref (64 + lp)), some (.int (zI n)), some (.int (zI 0)), some (.int (zI 1)), x7, x8], [], es)) i_163_17 rfl ?_
        exact K6 c1 c3 v5 e_v5 c6

theorem s_mic19 {O : pOut} {d kc ks : Nat} {Q : pRes → Prop} {es : PH} {fi se n sl m : Int} {lp : Nat} {x7 x8 : Option Value} (hs_es : sh es) (hf : -2147483648 ≤ fi ∧ fi ≤ 2147483647) (hg : -2147483648 ≤ se ∧ se ≤ 2147483647) (h1 : 0 ≤ n ∧ n ≤ 24) (h2 : 1 ≤ m ∧ m ≤ 25) (hT_es : hOK tT es)
    (K1 : se < 0 → 0 < m → aW O (d + 2) 163 kc ks Q (3, [some (.ref 71), some (.int (zI fi)), some (.int (zI se)), some (.ref (64 + lp)), some (.int (zI (n + 1))), some (.int (zI sl)), some (.int (zI m)), x7, x8], [], es))
    (K2 : se < 0 → ¬ (0 < m) → aW O (d + 2) 163 kc ks Q (32, [some (.ref 71), some (.int (zI fi)), some (.int (zI se)), some (.ref (64 + lp)), some (.int (zI n)), some (.int (zI sl)), some (.int (zI m)), x7, x8], [.int (zI m), .ref (64 + lp)], es))
    (K3 : ¬ (se < 0) → 3 ≤ se → 0 < m → aW O (d + 2) 163 kc ks Q (3, [some (.ref 71), some (.int (zI fi)), some (.int (zI se)), some (.ref (64 + lp)), some (.int (zI (n + 1))), some (.int (zI sl)), some (.int (zI m)), x7, x8], [], es))
    (K4 : ¬ (se < 0) → 3 ≤ se → ¬ (0 < m) → aW O (d + 2) 163 kc ks Q (32, [some (.ref 71), some (.int (zI fi)), some (.int (zI se)), some (.ref (64 + lp)), some (.int (zI n)), some (.int (zI sl)), some (.int (zI m)), x7, x8], [.int (zI m), .ref (64 + lp)], es))
    (K5 : ¬ (se < 0) → ¬ (3 ≤ se) → ∀ v5 : Int, v5 = (gA es 13 se.toNat).toInt → v5 < m → aW O (d + 2) 163 kc ks Q (3, [some (.ref 71), some (.int (zI fi)), some (.int (zI se)), some (.ref (64 + lp)), some (.int (zI (n + 1))), some (.int (zI sl)), some (.int (zI m)), x7, x8], [], es))
    (K6 : ¬ (se < 0) → ¬ (3 ≤ se) → ∀ v5 : Int, v5 = (gA es 13 se.toNat).toInt → ¬ (v5 < m) → aW O (d + 2) 163 kc ks Q (32, [some (.ref 71), some (.int (zI fi)), some (.int (zI se)), some (.ref (64 + lp)), some (.int (zI n)), some (.int (zI sl)), some (.int (zI m)), x7, x8], [.int (zI m), .ref (64 + lp)], es)) :
    aW O (d + 2) 163 kc ks Q (19, [some (.ref 71), some (.int (zI fi)), some (.int (zI se)), some (.ref (64 + lp)), some (.int (zI n)), some (.int (zI sl)), some (.int (zI m)), x7, x8], [], es) := by
  refine x0 (r := (21, [some (.ref 71), some (.int (zI fi)), some (.int (zI se)), some (.ref (64 + lp)), some (.int (zI n)), some (.int (zI sl)), some (.int (zI m)), x7, x8], [.int (zI m)], es)) i_163_19 rfl ?_
  refine x0 (r := (22, [some (.ref 71), some (.int (zI fi)), some (.int (zI se)), some (.ref (64 + lp)), some (.int (zI n)), some (.int (zI sl)), some (.int (zI m)), x7, x8], [.ref 71, .int (zI m)], es)) i_163_21 rfl ?_
  refine x0 (r := (23, [some (.ref 71), some (.int (zI fi)), some (.int (zI se)), some (.ref (64 + lp)), some (.int (zI n)), some (.int (zI sl)), some (.int (zI m)), x7, x8], [.int (zI se), .ref 71, .int (zI m)], es)) i_163_22 rfl ?_
  refine x_call (vs := [.ref 71, .int (zI se)]) (rs := [.int (zI m)]) i_163_23 rfl (fun _ => rfl) rfl rfl rfl rfl rfl (pCall_v (p := 7) hs_es rfl rfl rfl rfl rfl (by decide) rfl rfl rfl rfl rfl) ?_
  show aW _ _ _ _ _ _ (0, [some (.ref 71), some (.int (zI se))], [], es)
  refine x0 (r := (1, [some (.ref 71), some (.int (zI se))], [.ref 71], es)) i_35_0 rfl ?_
  refine x_getr (p := 7) (k := 77) i_35_1 hs_es rfl rfl ?_
  show aW _ _ _ _ _ _ (4, [some (.ref 71), some (.int (zI se))], [.ref 77], es)
  refine x0 (r := (5, [some (.ref 71), some (.int (zI se))], [.int (zI se), .ref 77], es)) i_35_4 rfl ?_
  refine x_call (vs := [.ref 77, .int (zI se)]) (rs := []) i_35_5 rfl (fun _ => rfl) rfl rfl rfl rfl rfl rfl ?_
  show aW _ _ _ _ _ _ (0, [some (.ref 77), some (.int (zI se))], [], es)
  refine x0 (r := (1, [some (.ref 77), some (.int (zI se))], [.int (zI se)], es)) i_28_0 rfl ?_
  by_cases c1 : se < 0
  · refine x_ifT i_28_1 (by unfold i32 iLO iHI; omega) rfl (by simp only [zC, cR]; omega) ?_
    refine x0 (r := (17, [some (.ref 77), some (.int (zI se))], [.int (zI 0)], es)) i_28_16 (by rfl) ?_
    refine x_ret (v := some (.int (zI 0))) i_28_17 rfl (fun _ => rfl) rfl rfl rfl ?_
    show aW _ _ _ _ _ _ (8, [some (.ref 71), some (.int (zI se))], [.int (zI 0)], es)
    refine x_ret (v := some (.int (zI 0))) i_35_8 rfl (fun _ => rfl) rfl rfl rfl ?_
    show aW _ _ _ _ _ _ (26, [some (.ref 71), some (.int (zI fi)), some (.int (zI se)), some (.ref (64 + lp)), some (.int (zI n)), some (.int (zI sl)), some (.int (zI m)), x7, x8], [.int (zI 0), .int (zI m)], es)
    by_cases c2 : 0 < m
    · refine x_cmpT i_163_26 (by unfold i32 iLO iHI; omega) (by unfold i32 iLO iHI; omega) rfl (by simp only [zC, cR]; omega) ?_
      refine x_iinc (x := n) i_163_92 rfl (by show 4 < 9; decide) ?_
      show aW _ _ _ _ _ _ (95, [some (.ref 71), some (.int (zI fi)), some (.int (zI se)), some (.ref (64 + lp)), some (.int (zI (n + 1))), some (.int (zI sl)), some (.int (zI m)), x7, x8], [], es)
      refine x0 (r := (3, [some (.ref 71), some (.int (zI fi)), some (.int (zI se)), some (.ref (64 + lp)), some (.int (zI (n + 1))), some (.int (zI sl)), some (.int (zI m)), x7, x8], [], es)) i_163_95 rfl ?_
      exact K1 c1 c2
    · refine x_cmpF i_163_26 (by unfold i32 iLO iHI; omega) (by unfold i32 iLO iHI; omega) rfl (by simp only [zC, cR]; omega) ?_
      refine x0 (r := (30, [some (.ref 71), some (.int (zI fi)), some (.int (zI se)), some (.ref (64 + lp)), some (.int (zI n)), some (.int (zI sl)), some (.int (zI m)), x7, x8], [.ref (64 + lp)], es)) i_163_29 rfl ?_
      refine x0 (r := (32, [some (.ref 71), some (.int (zI fi)), some (.int (zI se)), some (.ref (64 + lp)), some (.int (zI n)), some (.int (zI sl)), some (.int (zI m)), x7, x8], [.int (zI m), .ref (64 + lp)], es)) i_163_30 rfl ?_
      exact K2 c1 c2
  · refine x_ifF i_28_1 (by unfold i32 iLO iHI; omega) rfl (by simp only [zC, cR]; omega) ?_
    refine x0 (r := (5, [some (.ref 77), some (.int (zI se))], [.int (zI se)], es)) i_28_4 rfl ?_
    refine x0 (r := (6, [some (.ref 77), some (.int (zI se))], [.ref 77, .int (zI se)], es)) i_28_5 rfl ?_
    refine x_alen (p := 13) (n := 3) i_28_6 hs_es rfl ?_
    by_cases c3 : 3 ≤ se
    · refine x_cmpT i_28_7 (by unfold i32 iLO iHI; omega) (by unfold i32 iLO iHI; omega) rfl (by simp only [zC, cR]; omega) ?_
      refine x0 (r := (17, [some (.ref 77), some (.int (zI se))], [.int (zI 0)], es)) i_28_16 (by rfl) ?_
      refine x_ret (v := some (.int (zI 0))) i_28_17 rfl (fun _ => rfl) rfl rfl rfl ?_
      show aW _ _ _ _ _ _ (8, [some (.ref 71), some (.int (zI se))], [.int (zI 0)], es)
      refine x_ret (v := some (.int (zI 0))) i_35_8 rfl (fun _ => rfl) rfl rfl rfl ?_
      show aW _ _ _ _ _ _ (26, [some (.ref 71), some (.int (zI fi)), some (.int (zI se)), some (.ref (64 + lp)), some (.int (zI n)), some (.int (zI sl)), some (.int (zI m)), x7, x8], [.int (zI 0), .int (zI m)], es)
      by_cases c4 : 0 < m
      · refine x_cmpT i_163_26 (by unfold i32 iLO iHI; omega) (by unfold i32 iLO iHI; omega) rfl (by simp only [zC, cR]; omega) ?_
        refine x_iinc (x := n) i_163_92 rfl (by show 4 < 9; decide) ?_
        show aW _ _ _ _ _ _ (95, [some (.ref 71), some (.int (zI fi)), some (.int (zI se)), some (.ref (64 + lp)), some (.int (zI (n + 1))), some (.int (zI sl)), some (.int (zI m)), x7, x8], [], es)
        refine x0 (r := (3, [some (.ref 71), some (.int (zI fi)), some (.int (zI se)), some (.ref (64 + lp)), some (.int (zI (n + 1))), some (.int (zI sl)), some (.int (zI m)), x7, x8], [], es)) i_163_95 rfl ?_
        exact K3 c1 c3 c4
      · refine x_cmpF i_163_26 (by unfold i32 iLO iHI; omega) (by unfold i32 iLO iHI; omega) rfl (by simp only [zC, cR]; omega) ?_
        refine x0 (r := (30, [some (.ref 71), some (.int (zI fi)), some (.int (zI se)), some (.ref (64 + lp)), some (.int (zI n)), some (.int (zI sl)), some (.int (zI m)), x7, x8], [.ref (64 + lp)], es)) i_163_29 rfl ?_
        refine x0 (r := (32, [some (.ref 71), some (.int (zI fi)), some (.int (zI se)), some (.ref (64 + lp)), some (.int (zI n)), some (.int (zI sl)), some (.int (zI m)), x7, x8], [.int (zI m), .ref (64 + lp)], es)) i_163_30 rfl ?_
        exact K4 c1 c3 c4
    · refine x_cmpF i_28_7 (by unfold i32 iLO iHI; omega) (by unfold i32 iLO iHI; omega) rfl (by simp only [zC, cR]; omega) ?_
      refine x0 (r := (11, [some (.ref 77), some (.int (zI se))], [.ref 77], es)) i_28_10 rfl ?_
      refine x0 (r := (12, [some (.ref 77), some (.int (zI se))], [.int (zI se), .ref 77], es)) i_28_11 rfl ?_
      refine x_iald (p := 13) i_28_12 hs_es rfl (by unfold i32 iLO iHI; omega) (by omega) (by omega) ?_
      obtain ⟨v5, e_v5⟩ : ∃ z : Int, z = (gA es 13 se.toNat).toInt := ⟨_, rfl⟩
      rw [← e_v5]
      have r_v5 : iLO ≤ v5 ∧ v5 ≤ iHI := by rw [e_v5]; exact i32_rng _
      unfold iLO iHI at r_v5
      have b_v5 : (0 : Int) ≤ v5 ∧ v5 ≤ (24 : Int) := by rw [e_v5]; exact gA_bd hT_es (p := 13) (k := se.toNat) rfl (by omega) (by decide)
      refine x0 (r := (17, [some (.ref 77), some (.int (zI se))], [.int (zI v5)], es)) i_28_13 rfl ?_
      refine x_ret (v := some (.int (zI v5))) i_28_17 rfl (fun _ => rfl) rfl rfl rfl ?_
      show aW _ _ _ _ _ _ (8, [some (.ref 71), some (.int (zI se))], [.int (zI v5)], es)
      refine x_ret (v := some (.int (zI v5))) i_35_8 rfl (fun _ => rfl) rfl rfl rfl ?_
      show aW _ _ _ _ _ _ (26, [some (.ref 71), some (.int (zI fi)), some (.int (zI se)), some (.ref (64 + lp)), some (.int (zI n)), some (.int (zI sl)), some (.int (zI m)), x7, x8], [.int (zI v5), .int (zI m)], es)
      by_cases c6 : v5 < m
      · refine x_cmpT i_163_26 (by unfold i32 iLO iHI; omega) (by unfold i32 iLO iHI; omega) rfl (by simp only [zC, cR]; omega) ?_
        refine x_iinc (x := n) i_163_92 rfl (by show 4 < 9; decide) ?_
        show aW _ _ _ _ _ _ (95, [some (.ref 71), some (.int (zI fi)), some (.int (zI se)), some (.ref (64 + lp)), some (.int (zI (n + 1))), some (.int (zI sl)), some (.int (zI m)), x7, x8], [], es)
        refine x0 (r := (3, [some (.ref 71), some (.int (zI fi)), some (.int (zI se)), some (.ref (64 + lp)), some (.int (zI (n + 1))), some (.int (zI sl)), some (.int (zI m)), x7, x8], [], es)) i_163_95 rfl ?_
        exact K5 c1 c3 v5 e_v5 c6
      · refine x_cmpF i_163_26 (by unfold i32 iLO iHI; omega) (by unfold i32 iLO iHI; omega) rfl (by simp only [zC, cR]; omega) ?_
        refine x0 (r := (30, [some (.ref 71), some (.int (zI fi)), some (.int (zI se)), some (.ref (64 + lp)), some (.int (zI n)), some (.int (zI sl)), some (.int (zI m)), x7, x8], [.ref (64 + lp)], es)) i_163_29 rfl ?_
        refine x0 (r := (32, [some (.ref 71), some (.int (zI fi)), some (.int (zI se)), some (.ref (64 + lp)), some (.int (zI n)), some (.int (zI sl)), some (.int (zI m)), x7, x8], [.int (zI m), .ref (64 + lp)], es)) i_163_30 rfl ?_
        exact K6 c1 c3 v5 e_v5 c6

theorem s_mic35 {O : pOut} {d kc ks : Nat} {Q : pRes → Prop} {es : PH} {fi se n sl m a : Int} {lp : Nat} {x7 x8 : Option Value} (hs_es : sh es) (hf : -2147483648 ≤ fi ∧ fi ≤ 2147483647) (hg : -2147483648 ≤ se ∧ se ≤ 2147483647) (h1 : 0 ≤ n ∧ n ≤ 24) (h2 : 1 ≤ m ∧ m ≤ 25)
    (K1 : aW O d 163 kc ks Q (46, [some (.ref 71), some (.int (zI fi)), some (.int (zI se)), some (.ref (64 + lp)), some (.int (zI n)), some (.int (zI sl)), some (.int (zI m)), some (.int (zI a)), x8], [.int (zI (m - 1)), .int (zI se), .int (zI n), .int (zI fi), .ref 71], es)) :
    aW O d 163 kc ks Q (35, [some (.ref 71), some (.int (zI fi)), some (.int (zI se)), some (.ref (64 + lp)), some (.int (zI n)), some (.int (zI sl)), some (.int (zI m)), x7, x8], [.int (zI a)], es) := by
  refine x0 (r := (37, [some (.ref 71), some (.int (zI fi)), some (.int (zI se)), some (.ref (64 + lp)), some (.int (zI n)), some (.int (zI sl)), some (.int (zI m)), some (.int (zI a)), x8], [], es)) i_163_35 rfl ?_
  refine x0 (r := (38, [some (.ref 71), some (.int (zI fi)), some (.int (zI se)), some (.ref (64 + lp)), some (.int (zI n)), some (.int (zI sl)), some (.int (zI m)), some (.int (zI a)), x8], [.ref 71], es)) i_163_37 rfl ?_
  refine x0 (r := (39, [some (.ref 71), some (.int (zI fi)), some (.int (zI se)), some (.ref (64 + lp)), some (.int (zI n)), some (.int (zI sl)), some (.int (zI m)), some (.int (zI a)), x8], [.int (zI fi), .ref 71], es)) i_163_38 rfl ?_
  refine x0 (r := (41, [some (.ref 71), some (.int (zI fi)), some (.int (zI se)), some (.ref (64 + lp)), some (.int (zI n)), some (.int (zI sl)), some (.int (zI m)), some (.int (zI a)), x8], [.int (zI n), .int (zI fi), .ref 71], es)) i_163_39 rfl ?_
  refine x0 (r := (42, [some (.ref 71), some (.int (zI fi)), some (.int (zI se)), some (.ref (64 + lp)), some (.int (zI n)), some (.int (zI sl)), some (.int (zI m)), some (.int (zI a)), x8], [.int (zI se), .int (zI n), .int (zI fi), .ref 71], es)) i_163_41 rfl ?_
  refine x0 (r := (44, [some (.ref 71), some (.int (zI fi)), some (.int (zI se)), some (.ref (64 + lp)), some (.int (zI n)), some (.int (zI sl)), some (.int (zI m)), some (.int (zI a)), x8], [.int (zI m), .int (zI se), .int (zI n), .int (zI fi), .ref 71], es)) i_163_42 rfl ?_
  refine x0 (r := (45, [some (.ref 71), some (.int (zI fi)), some (.int (zI se)), some (.ref (64 + lp)), some (.int (zI n)), some (.int (zI sl)), some (.int (zI m)), some (.int (zI a)), x8], [.int (zI 1), .int (zI m), .int (zI se), .int (zI n), .int (zI fi), .ref 71], es)) i_163_44 (by rfl) ?_
  refine x_isub i_163_45 ?_
  exact K1

theorem s_mic49 {O : pOut} {d kc ks : Nat} {Q : pRes → Prop} {es : PH} {fi se n sl m a b : Int} {lp : Nat} {x8 : Option Value} (hs_es : sh es) (hf : -2147483648 ≤ fi ∧ fi ≤ 2147483647) (hg : -2147483648 ≤ se ∧ se ≤ 2147483647) (h1 : 0 ≤ n ∧ n ≤ 24) (h2 : 1 ≤ m ∧ m ≤ 25) (h3 : 0 ≤ b ∧ b ≤ 1)
    (K1 : b = 0 → aW O d 163 kc ks Q (66, [some (.ref 71), some (.int (zI fi)), some (.int (zI se)), some (.ref (64 + lp)), some (.int (zI n)), some (.int (zI sl)), some (.int (zI m)), some (.int (zI a)), x8], [.int (zI (m - 1)), .ref (64 + lp), .int (zI a)], es))
    (K2 : ¬ (b = 0) → aW O d 163 kc ks Q (72, [some (.ref 71), some (.int (zI fi)), some (.int (zI se)), some (.ref (64 + lp)), some (.int (zI n)), some (.int (zI sl)), some (.int (zI m)), some (.int (zI a)), x8], [.int (zI (sl + 1))], es)) :
    aW O d 163 kc ks Q (49, [some (.ref 71), some (.int (zI fi)), some (.int (zI se)), some (.ref (64 + lp)), some (.int (zI n)), some (.int (zI sl)), some (.int (zI m)), some (.int (zI a)), x8], [.int (zI b)], es) := by
  by_cases c1 : b = 0
  · refine x_ifT i_163_49 (by unfold i32 iLO iHI; omega) rfl (by simp only [zC, cR]; omega) ?_
    refine x0 (r := (61, [some (.ref 71), some (.int (zI fi)), some (.int (zI se)), some (.ref (64 + lp)), some (.int (zI n)), some (.int (zI sl)), some (.int (zI m)), some (.int (zI a)), x8], [.int (zI a)], es)) i_163_59 rfl ?_
    refine x0 (r := (62, [some (.ref 71), some (.int (zI fi)), some (.int (zI se)), some (.ref (64 + lp)), some (.int (zI n)), some (.int (zI sl)), some (.int (zI m)), some (.int (zI a)), x8], [.ref (64 + lp), .int (zI a)], es)) i_163_61 rfl ?_
    refine x0 (r := (64, [some (.ref 71), some (.int (zI fi)), some (.int (zI se)), some (.ref (64 + lp)), some (.int (zI n)), some (.int (zI sl)), some (.int (zI m)), some (.int (zI a)), x8], [.int (zI m), .ref (64 + lp), .int (zI a)], es)) i_163_62 rfl ?_
    refine x0 (r := (65, [some (.ref 71), some (.int (zI fi)), some (.int (zI se)), some (.ref (64 + lp)), some (.int (zI n)), some (.int (zI sl)), some (.int (zI m)), some (.int (zI a)), x8], [.int (zI 1), .int (zI m), .ref (64 + lp), .int (zI a)], es)) i_163_64 (by rfl) ?_
    refine x_isub i_163_65 ?_
    exact K1 c1
  · refine x_ifF i_163_49 (by unfold i32 iLO iHI; omega) rfl (by simp only [zC, cR]; omega) ?_
    refine x0 (r := (54, [some (.ref 71), some (.int (zI fi)), some (.int (zI se)), some (.ref (64 + lp)), some (.int (zI n)), some (.int (zI sl)), some (.int (zI m)), some (.int (zI a)), x8], [.int (zI sl)], es)) i_163_52 rfl ?_
    refine x0 (r := (55, [some (.ref 71), some (.int (zI fi)), some (.int (zI se)), some (.ref (64 + lp)), some (.int (zI n)), some (.int (zI sl)), some (.int (zI m)), some (.int (zI a)), x8], [.int (zI 1), .int (zI sl)], es)) i_163_54 (by rfl) ?_
    refine x_iadd i_163_55 ?_
    refine x0 (r := (72, [some (.ref 71), some (.int (zI fi)), some (.int (zI se)), some (.ref (64 + lp)), some (.int (zI n)), some (.int (zI sl)), some (.int (zI m)), some (.int (zI a)), x8], [.int (zI (sl + 1))], es)) i_163_56 rfl ?_
    exact K2 c1

theorem s_mic69 {O : pOut} {d kc ks : Nat} {Q : pRes → Prop} {es : PH} {fi se n sl m a b : Int} {lp : Nat} {x8 : Option Value} (hs_es : sh es) (hf : -2147483648 ≤ fi ∧ fi ≤ 2147483647) (hg : -2147483648 ≤ se ∧ se ≤ 2147483647) (h1 : 0 ≤ n ∧ n ≤ 24) (h2 : 1 ≤ m ∧ m ≤ 25) (h3 : -2147483648 ≤ a ∧ a ≤ 2147483647) (h4 : -2147483648 ≤ b ∧ b ≤ 2147483647)
    (K1 : ∀ v1 : Int, v1 = max a b → aW O (d + 1) 163 kc ks Q (72, [some (.ref 71), some (.int (zI fi)), some (.int (zI se)), some (.ref (64 + lp)), some (.int (zI n)), some (.int (zI sl)), some (.int (zI m)), some (.int (zI a)), x8], [.int (zI v1)], es)) :
    aW O (d + 1) 163 kc ks Q (69, [some (.ref 71), some (.int (zI fi)), some (.int (zI se)), some (.ref (64 + lp)), some (.int (zI n)), some (.int (zI sl)), some (.int (zI m)), some (.int (zI a)), x8], [.int (zI b), .int (zI a)], es) := by
  refine x_max i_163_69 (by unfold i32 iLO iHI; omega) (by unfold i32 iLO iHI; omega) (by decide) ?_
  obtain ⟨v1, e_v1⟩ : ∃ z : Int, z = max a b := ⟨_, rfl⟩
  rw [← e_v1]
  exact K1 v1 e_v1

theorem s_mic72 {O : pOut} {d kc ks : Nat} {Q : pRes → Prop} {es : PH} {fi se n sl m a b : Int} {lp : Nat} {x8 : Option Value} (hs_es : sh es) (hf : -2147483648 ≤ fi ∧ fi ≤ 2147483647) (hg : -2147483648 ≤ se ∧ se ≤ 2147483647) (h1 : 0 ≤ n ∧ n ≤ 24) (h2 : 1 ≤ m ∧ m ≤ 25)
    (K1 : aW O d 163 kc ks Q (79, [some (.ref 71), some (.int (zI fi)), some (.int (zI se)), some (.ref (64 + lp)), some (.int (zI n)), some (.int (zI sl)), some (.int (zI m)), some (.int (zI a)), some (.int (zI b))], [.int (zI b), .int (zI m), .ref (64 + lp)], es)) :
    aW O d 163 kc ks Q (72, [some (.ref 71), some (.int (zI fi)), some (.int (zI se)), some (.ref (64 + lp)), some (.int (zI n)), some (.int (zI sl)), some (.int (zI m)), some (.int (zI a)), x8], [.int (zI b)], es) := by
  refine x0 (r := (74, [some (.ref 71), some (.int (zI fi)), some (.int (zI se)), some (.ref (64 + lp)), some (.int (zI n)), some (.int (zI sl)), some (.int (zI m)), some (.int (zI a)), some (.int (zI b))], [], es)) i_163_72 rfl ?_
  refine x0 (r := (75, [some (.ref 71), some (.int (zI fi)), some (.int (zI se)), some (.ref (64 + lp)), some (.int (zI n)), some (.int (zI sl)), some (.int (zI m)), some (.int (zI a)), some (.int (zI b))], [.ref (64 + lp)], es)) i_163_74 rfl ?_
  refine x0 (r := (77, [some (.ref 71), some (.int (zI fi)), some (.int (zI se)), some (.ref (64 + lp)), some (.int (zI n)), some (.int (zI sl)), some (.int (zI m)), some (.int (zI a)), some (.int (zI b))], [.int (zI m), .ref (64 + lp)], es)) i_163_75 rfl ?_
  refine x0 (r := (79, [some (.ref 71), some (.int (zI fi)), some (.int (zI se)), some (.ref (64 + lp)), some (.int (zI n)), some (.int (zI sl)), some (.int (zI m)), some (.int (zI a)), some (.int (zI b))], [.int (zI b), .int (zI m), .ref (64 + lp)], es)) i_163_77 rfl ?_
  exact K1

theorem s_mic82 {O : pOut} {d kc ks : Nat} {Q : pRes → Prop} {es : PH} {fi se n sl m a b : Int} {lp : Nat} (hs_es : sh es) (hf : -2147483648 ≤ fi ∧ fi ≤ 2147483647) (hg : -2147483648 ≤ se ∧ se ≤ 2147483647) (h1 : 0 ≤ n ∧ n ≤ 24) (h2 : 1 ≤ m ∧ m ≤ 25)
    (K1 : aW O d 163 kc ks Q (19, [some (.ref 71), some (.int (zI fi)), some (.int (zI se)), some (.ref (64 + lp)), some (.int (zI n)), some (.int (zI a)), some (.int (zI (m + 1))), some (.int (zI a)), some (.int (zI b))], [], es)) :
    aW O d 163 kc ks Q (82, [some (.ref 71), some (.int (zI fi)), some (.int (zI se)), some (.ref (64 + lp)), some (.int (zI n)), some (.int (zI sl)), some (.int (zI m)), some (.int (zI a)), some (.int (zI b))], [], es) := by
  refine x0 (r := (84, [some (.ref 71), some (.int (zI fi)), some (.int (zI se)), some (.ref (64 + lp)), some (.int (zI n)), some (.int (zI sl)), some (.int (zI m)), some (.int (zI a)), some (.int (zI b))], [.int (zI a)], es)) i_163_82 rfl ?_
  refine x0 (r := (86, [some (.ref 71), some (.int (zI fi)), some (.int (zI se)), some (.ref (64 + lp)), some (.int (zI n)), some (.int (zI a)), some (.int (zI m)), some (.int (zI a)), some (.int (zI b))], [], es)) i_163_84 rfl ?_
  refine x_iinc (x := m) i_163_86 rfl (by show 6 < 9; decide) ?_
  show aW _ _ _ _ _ _ (89, [some (.ref 71), some (.int (zI fi)), some (.int (zI se)), some (.ref (64 + lp)), some (.int (zI n)), some (.int (zI a)), some (.int (zI (m + 1))), some (.int (zI a)), some (.int (zI b))], [], es)
  refine x0 (r := (19, [some (.ref 71), some (.int (zI fi)), some (.int (zI se)), some (.ref (64 + lp)), some (.int (zI n)), some (.int (zI a)), some (.int (zI (m + 1))), some (.int (zI a)), some (.int (zI b))], [], es)) i_163_89 rfl ?_
  exact K1

theorem s_mic98 {O : pOut} {d kc ks : Nat} {Q : pRes → Prop} {es : PH} {fi se n : Int} {lp : Nat} {x5 x6 x7 x8 : Option Value} (hs_es : sh es) (hf : -2147483648 ≤ fi ∧ fi ≤ 2147483647) (hg : -2147483648 ≤ se ∧ se ≤ 2147483647) (h1 : 0 ≤ n ∧ n ≤ 24) (hT_es : hOK tT es)
    (K1 : se < 0 → aW O (d + 2) 163 kc ks Q (104, [some (.ref 71), some (.int (zI fi)), some (.int (zI se)), some (.ref (64 + lp)), some (.int (zI n)), x5, x6, x7, x8], [.int (zI 0), .ref (64 + lp)], es))
    (K2 : ¬ (se < 0) → 3 ≤ se → aW O (d + 2) 163 kc ks Q (104, [some (.ref 71), some (.int (zI fi)), some (.int (zI se)), some (.ref (64 + lp)), some (.int (zI n)), x5, x6, x7, x8], [.int (zI 0), .ref (64 + lp)], es))
    (K3 : ¬ (se < 0) → ¬ (3 ≤ se) → ∀ v3 : Int, v3 = (gA es 13 se.toNat).toInt → aW O (d + 2) 163 kc ks Q (104, [some (.ref 71), some (.int (zI fi)), some (.int (zI se)), some (.ref (64 + lp)), some (.int (zI n)), x5, x6, x7, x8], [.int (zI v3), .ref (64 + lp)], es)) :
    aW O (d + 2) 163 kc ks Q (98, [some (.ref 71), some (.int (zI fi)), some (.int (zI se)), some (.ref (64 + lp)), some (.int (zI n)), x5, x6, x7, x8], [], es) := by
  refine x0 (r := (99, [some (.ref 71), some (.int (zI fi)), some (.int (zI se)), some (.ref (64 + lp)), some (.int (zI n)), x5, x6, x7, x8], [.ref (64 + lp)], es)) i_163_98 rfl ?_
  refine x0 (r := (100, [some (.ref 71), some (.int (zI fi)), some (.int (zI se)), some (.ref (64 + lp)), some (.int (zI n)), x5, x6, x7, x8], [.ref 71, .ref (64 + lp)], es)) i_163_99 rfl ?_
  refine x0 (r := (101, [some (.ref 71), some (.int (zI fi)), some (.int (zI se)), some (.ref (64 + lp)), some (.int (zI n)), x5, x6, x7, x8], [.int (zI se), .ref 71, .ref (64 + lp)], es)) i_163_100 rfl ?_
  refine x_call (vs := [.ref 71, .int (zI se)]) (rs := [.ref (64 + lp)]) i_163_101 rfl (fun _ => rfl) rfl rfl rfl rfl rfl (pCall_v (p := 7) hs_es rfl rfl rfl rfl rfl (by decide) rfl rfl rfl rfl rfl) ?_
  show aW _ _ _ _ _ _ (0, [some (.ref 71), some (.int (zI se))], [], es)
  refine x0 (r := (1, [some (.ref 71), some (.int (zI se))], [.ref 71], es)) i_35_0 rfl ?_
  refine x_getr (p := 7) (k := 77) i_35_1 hs_es rfl rfl ?_
  show aW _ _ _ _ _ _ (4, [some (.ref 71), some (.int (zI se))], [.ref 77], es)
  refine x0 (r := (5, [some (.ref 71), some (.int (zI se))], [.int (zI se), .ref 77], es)) i_35_4 rfl ?_
  refine x_call (vs := [.ref 77, .int (zI se)]) (rs := []) i_35_5 rfl (fun _ => rfl) rfl rfl rfl rfl rfl rfl ?_
  show aW _ _ _ _ _ _ (0, [some (.ref 77), some (.int (zI se))], [], es)
  refine x0 (r := (1, [some (.ref 77), some (.int (zI se))], [.int (zI se)], es)) i_28_0 rfl ?_
  by_cases c1 : se < 0
  · refine x_ifT i_28_1 (by unfold i32 iLO iHI; omega) rfl (by simp only [zC, cR]; omega) ?_
    refine x0 (r := (17, [some (.ref 77), some (.int (zI se))], [.int (zI 0)], es)) i_28_16 (by rfl) ?_
    refine x_ret (v := some (.int (zI 0))) i_28_17 rfl (fun _ => rfl) rfl rfl rfl ?_
    show aW _ _ _ _ _ _ (8, [some (.ref 71), some (.int (zI se))], [.int (zI 0)], es)
    refine x_ret (v := some (.int (zI 0))) i_35_8 rfl (fun _ => rfl) rfl rfl rfl ?_
    show aW _ _ _ _ _ _ (104, [some (.ref 71), some (.int (zI fi)), some (.int (zI se)), some (.ref (64 + lp)), some (.int (zI n)), x5, x6, x7, x8], [.int (zI 0), .ref (64 + lp)], es)
    exact K1 c1
  · refine x_ifF i_28_1 (by unfold i32 iLO iHI; omega) rfl (by simp only [zC, cR]; omega) ?_
    refine x0 (r := (5, [some (.ref 77), some (.int (zI se))], [.int (zI se)], es)) i_28_4 rfl ?_
    refine x0 (r := (6, [some (.ref 77), some (.int (zI se))], [.ref 77, .int (zI se)], es)) i_28_5 rfl ?_
    refine x_alen (p := 13) (n := 3) i_28_6 hs_es rfl ?_
    by_cases c2 : 3 ≤ se
    · refine x_cmpT i_28_7 (by unfold i32 iLO iHI; omega) (by unfold i32 iLO iHI; omega) rfl (by simp only [zC, cR]; omega) ?_
      refine x0 (r := (17, [some (.ref 77), some (.int (zI se))], [.int (zI 0)], es)) i_28_16 (by rfl) ?_
      refine x_ret (v := some (.int (zI 0))) i_28_17 rfl (fun _ => rfl) rfl rfl rfl ?_
      show aW _ _ _ _ _ _ (8, [some (.ref 71), some (.int (zI se))], [.int (zI 0)], es)
      refine x_ret (v := some (.int (zI 0))) i_35_8 rfl (fun _ => rfl) rfl rfl rfl ?_
      show aW _ _ _ _ _ _ (104, [some (.ref 71), some (.int (zI fi)), some (.int (zI se)), some (.ref (64 + lp)), some (.int (zI n)), x5, x6, x7, x8], [.int (zI 0), .ref (64 + lp)], es)
      exact K2 c1 c2
    · refine x_cmpF i_28_7 (by unfold i32 iLO iHI; omega) (by unfold i32 iLO iHI; omega) rfl (by simp only [zC, cR]; omega) ?_
      refine x0 (r := (11, [some (.ref 77), some (.int (zI se))], [.ref 77], es)) i_28_10 rfl ?_
      refine x0 (r := (12, [some (.ref 77), some (.int (zI se))], [.int (zI se), .ref 77], es)) i_28_11 rfl ?_
      refine x_iald (p := 13) i_28_12 hs_es rfl (by unfold i32 iLO iHI; omega) (by omega) (by omega) ?_
      obtain ⟨v3, e_v3⟩ : ∃ z : Int, z = (gA es 13 se.toNat).toInt := ⟨_, rfl⟩
      rw [← e_v3]
      have r_v3 : iLO ≤ v3 ∧ v3 ≤ iHI := by rw [e_v3]; exact i32_rng _
      unfold iLO iHI at r_v3
      have b_v3 : (0 : Int) ≤ v3 ∧ v3 ≤ (24 : Int) := by rw [e_v3]; exact gA_bd hT_es (p := 13) (k := se.toNat) rfl (by omega) (by decide)
      refine x0 (r := (17, [some (.ref 77), some (.int (zI se))], [.int (zI v3)], es)) i_28_13 rfl ?_
      refine x_ret (v := some (.int (zI v3))) i_28_17 rfl (fun _ => rfl) rfl rfl rfl ?_
      show aW _ _ _ _ _ _ (8, [some (.ref 71), some (.int (zI se))], [.int (zI v3)], es)
      refine x_ret (v := some (.int (zI v3))) i_35_8 rfl (fun _ => rfl) rfl rfl rfl ?_
      show aW _ _ _ _ _ _ (104, [some (.ref 71), some (.int (zI fi)), some (.int (zI se)), some (.ref (64 + lp)), some (.int (zI n)), x5, x6, x7, x8], [.int (zI v3), .ref (64 + lp)], es)
      exact K3 c1 c2 v3 e_v3

theorem s_mic107 {O : pOut} {d kc ks : Nat} {Q : pRes → Prop} {es : PH} {fi se n a : Int} {lp : Nat} {x5 x6 x7 x8 : Option Value} (hs_es : sh es) (hf : -2147483648 ≤ fi ∧ fi ≤ 2147483647) (hg : -2147483648 ≤ se ∧ se ≤ 2147483647)
    (K1 : Q (.inl (some (.int (zI a))), es, kc, ks)) :
    aW O d 163 kc ks Q (107, [some (.ref 71), some (.int (zI fi)), some (.int (zI se)), some (.ref (64 + lp)), some (.int (zI n)), x5, x6, x7, x8], [.int (zI a)], es) := by
  refine x_ret (v := some (.int (zI a))) i_163_107 rfl (fun _ => rfl) rfl rfl rfl ?_
  exact K1

theorem s_alike0 {O : pOut} {d kc ks : Nat} {Q : pRes → Prop} {es : PH} {fi se : Int} (hs_es : sh es) (hf : -2147483648 ≤ fi ∧ fi ≤ 2147483647) (hg : -2147483648 ≤ se ∧ se ≤ 2147483647) (hT_es : hOK tT es)
    (K1 : fi < 0 → Q (.inr 2, es, kc + 1, ks + 6))
    (K2 : ¬ (fi < 0) → ∀ v2 : Int, v2 = (gI es 7 5).toInt → v2 ≤ fi → Q (.inr 2, es, kc + 1, ks + 6))
    (K3 : ¬ (fi < 0) → ∀ v2 : Int, v2 = (gI es 7 5).toInt → ¬ (v2 ≤ fi) → se < 0 → Q (.inr 2, es, kc + 1, ks + 6))
    (K4 : ¬ (fi < 0) → ∀ v2 : Int, v2 = (gI es 7 5).toInt → ¬ (v2 ≤ fi) → ¬ (se < 0) → ∀ v5 : Int, v5 = (gI es 7 5).toInt → v5 ≤ se → Q (.inr 2, es, kc + 1, ks + 6))
    (K5 : ¬ (fi < 0) → ∀ v2 : Int, v2 = (gI es 7 5).toInt → ¬ (v2 ≤ fi) → ¬ (se < 0) → ∀ v5 : Int, v5 = (gI es 7 5).toInt → ¬ (v5 ≤ se) → aW O (d + 1) 162 kc ks Q (35, [some (.ref 64), some (.int (zI fi)), some (.int (zI se))], [.int (zI 25), .int (zI se), .int (zI fi), .ref 71], es)) :
    aW O (d + 1) 162 kc ks Q (0, [some (.ref 64), some (.int (zI fi)), some (.int (zI se))], [], es) := by
  refine x0 (r := (1, [some (.ref 64), some (.int (zI fi)), some (.int (zI se))], [.ref 64], es)) i_162_0 rfl ?_
  refine x0 (r := (2, [some (.ref 64), some (.int (zI fi)), some (.int (zI se))], [.int (zI fi), .ref 64], es)) i_162_1 rfl ?_
  refine x_call (vs := [.ref 64, .int (zI fi)]) (rs := []) i_162_2 rfl (fun _ => rfl) rfl rfl rfl rfl rfl (pCall_v (p := 0) hs_es rfl rfl rfl rfl rfl (by decide) rfl rfl rfl rfl rfl) ?_
  show aW _ _ _ _ _ _ (0, [some (.ref 64), some (.int (zI fi))], [], es)
  refine x0 (r := (1, [some (.ref 64), some (.int (zI fi))], [.int (zI fi)], es)) i_116_0 rfl ?_
  by_cases c1 : fi < 0
  · refine x_ifT i_116_1 (by unfold i32 iLO iHI; omega) rfl (by simp only [zC, cR]; omega) ?_
    refine x0 (r := (20, [some (.ref 64), some (.int (zI fi))], [.int (zI 0)], es)) i_116_19 (by rfl) ?_
    refine x_ret (v := some (.int (zI 0))) i_116_20 rfl (fun _ => rfl) rfl rfl (pFin_b (by omega)) ?_
    show aW _ _ _ _ _ _ (5, [some (.ref 64), some (.int (zI fi)), some (.int (zI se))], [.int (zI 0)], es)
    refine x_ifT i_162_5 (by unfold i32 iLO iHI; omega) rfl (by simp only [zC, cR]; omega) ?_
    refine x_thr i_162_16 rfl (fun _ => rfl) rfl rfl rfl rfl ?_
    exact K1 c1
  · refine x_ifF i_116_1 (by unfold i32 iLO iHI; omega) rfl (by simp only [zC, cR]; omega) ?_
    refine x0 (r := (5, [some (.ref 64), some (.int (zI fi))], [.int (zI fi)], es)) i_116_4 rfl ?_
    refine x0 (r := (6, [some (.ref 64), some (.int (zI fi))], [.ref 64, .int (zI fi)], es)) i_116_5 rfl ?_
    refine x_getr (p := 0) (k := 71) i_116_6 hs_es rfl rfl ?_
    show aW _ _ _ _ _ _ (9, [some (.ref 64), some (.int (zI fi))], [.ref 71, .int (zI fi)], es)
    refine x_geti (p := 7) i_116_9 hs_es rfl rfl ?_
    obtain ⟨v2, e_v2⟩ : ∃ z : Int, z = (gI es 7 5).toInt := ⟨_, rfl⟩
    rw [← e_v2]
    have r_v2 : iLO ≤ v2 ∧ v2 ≤ iHI := by rw [e_v2]; exact i32_rng _
    unfold iLO iHI at r_v2
    have b_v2 : (0 : Int) ≤ v2 ∧ v2 ≤ (3 : Int) := by rw [e_v2]; exact gI_bd hT_es (p := 7) (b := 5) rfl rfl
    by_cases c3 : v2 ≤ fi
    · refine x_cmpT i_116_12 (by unfold i32 iLO iHI; omega) (by unfold i32 iLO iHI; omega) rfl (by simp only [zC, cR]; omega) ?_
      refine x0 (r := (20, [some (.ref 64), some (.int (zI fi))], [.int (zI 0)], es)) i_116_19 (by rfl) ?_
      refine x_ret (v := some (.int (zI 0))) i_116_20 rfl (fun _ => rfl) rfl rfl (pFin_b (by omega)) ?_
      show aW _ _ _ _ _ _ (5, [some (.ref 64), some (.int (zI fi)), some (.int (zI se))], [.int (zI 0)], es)
      refine x_ifT i_162_5 (by unfold i32 iLO iHI; omega) rfl (by simp only [zC, cR]; omega) ?_
      refine x_thr i_162_16 rfl (fun _ => rfl) rfl rfl rfl rfl ?_
      exact K2 c1 v2 e_v2 c3
    · refine x_cmpF i_116_12 (by unfold i32 iLO iHI; omega) (by unfold i32 iLO iHI; omega) rfl (by simp only [zC, cR]; omega) ?_
      refine x0 (r := (16, [some (.ref 64), some (.int (zI fi))], [.int (zI 1)], es)) i_116_15 (by rfl) ?_
      refine x0 (r := (20, [some (.ref 64), some (.int (zI fi))], [.int (zI 1)], es)) i_116_16 rfl ?_
      refine x_ret (v := some (.int (zI 1))) i_116_20 rfl (fun _ => rfl) rfl rfl (pFin_b (by omega)) ?_
      show aW _ _ _ _ _ _ (5, [some (.ref 64), some (.int (zI fi)), some (.int (zI se))], [.int (zI 1)], es)
      refine x_ifF i_162_5 (by unfold i32 iLO iHI; omega) rfl (by simp only [zC, cR]; omega) ?_
      refine x0 (r := (9, [some (.ref 64), some (.int (zI fi)), some (.int (zI se))], [.ref 64], es)) i_162_8 rfl ?_
      refine x0 (r := (10, [some (.ref 64), some (.int (zI fi)), some (.int (zI se))], [.int (zI se), .ref 64], es)) i_162_9 rfl ?_
      refine x_call (vs := [.ref 64, .int (zI se)]) (rs := []) i_162_10 rfl (fun _ => rfl) rfl rfl rfl rfl rfl (pCall_v (p := 0) hs_es rfl rfl rfl rfl rfl (by decide) rfl rfl rfl rfl rfl) ?_
      show aW _ _ _ _ _ _ (0, [some (.ref 64), some (.int (zI se))], [], es)
      refine x0 (r := (1, [some (.ref 64), some (.int (zI se))], [.int (zI se)], es)) i_116_0 rfl ?_
      by_cases c4 : se < 0
      · refine x_ifT i_116_1 (by unfold i32 iLO iHI; omega) rfl (by simp only [zC, cR]; omega) ?_
        refine x0 (r := (20, [some (.ref 64), some (.int (zI se))], [.int (zI 0)], es)) i_116_19 (by rfl) ?_
        refine x_ret (v := some (.int (zI 0))) i_116_20 rfl (fun _ => rfl) rfl rfl (pFin_b (by omega)) ?_
        show aW _ _ _ _ _ _ (13, [some (.ref 64), some (.int (zI fi)), some (.int (zI se))], [.int (zI 0)], es)
        refine x_ifF i_162_13 (by unfold i32 iLO iHI; omega) rfl (by simp only [zC, cR]; omega) ?_
        refine x_thr i_162_16 rfl (fun _ => rfl) rfl rfl rfl rfl ?_
        exact K3 c1 v2 e_v2 c3 c4
      · refine x_ifF i_116_1 (by unfold i32 iLO iHI; omega) rfl (by simp only [zC, cR]; omega) ?_
        refine x0 (r := (5, [some (.ref 64), some (.int (zI se))], [.int (zI se)], es)) i_116_4 rfl ?_
        refine x0 (r := (6, [some (.ref 64), some (.int (zI se))], [.ref 64, .int (zI se)], es)) i_116_5 rfl ?_
        refine x_getr (p := 0) (k := 71) i_116_6 hs_es rfl rfl ?_
        show aW _ _ _ _ _ _ (9, [some (.ref 64), some (.int (zI se))], [.ref 71, .int (zI se)], es)
        refine x_geti (p := 7) i_116_9 hs_es rfl rfl ?_
        obtain ⟨v5, e_v5⟩ : ∃ z : Int, z = (gI es 7 5).toInt := ⟨_, rfl⟩
        rw [← e_v5]
        have r_v5 : iLO ≤ v5 ∧ v5 ≤ iHI := by rw [e_v5]; exact i32_rng _
        unfold iLO iHI at r_v5
        have b_v5 : (0 : Int) ≤ v5 ∧ v5 ≤ (3 : Int) := by rw [e_v5]; exact gI_bd hT_es (p := 7) (b := 5) rfl rfl
        by_cases c6 : v5 ≤ se
        · refine x_cmpT i_116_12 (by unfold i32 iLO iHI; omega) (by unfold i32 iLO iHI; omega) rfl (by simp only [zC, cR]; omega) ?_
          refine x0 (r := (20, [some (.ref 64), some (.int (zI se))], [.int (zI 0)], es)) i_116_19 (by rfl) ?_
          refine x_ret (v := some (.int (zI 0))) i_116_20 rfl (fun _ => rfl) rfl rfl (pFin_b (by omega)) ?_
          show aW _ _ _ _ _ _ (13, [some (.ref 64), some (.int (zI fi)), some (.int (zI se))], [.int (zI 0)], es)
          refine x_ifF i_162_13 (by unfold i32 iLO iHI; omega) rfl (by simp only [zC, cR]; omega) ?_
          refine x_thr i_162_16 rfl (fun _ => rfl) rfl rfl rfl rfl ?_
          exact K4 c1 v2 e_v2 c3 c4 v5 e_v5 c6
        · refine x_cmpF i_116_12 (by unfold i32 iLO iHI; omega) (by unfold i32 iLO iHI; omega) rfl (by simp only [zC, cR]; omega) ?_
          refine x0 (r := (16, [some (.ref 64), some (.int (zI se))], [.int (zI 1)], es)) i_116_15 (by rfl) ?_
          refine x0 (r := (20, [some (.ref 64), some (.int (zI se))], [.int (zI 1)], es)) i_116_16 rfl ?_
          refine x_ret (v := some (.int (zI 1))) i_116_20 rfl (fun _ => rfl) rfl rfl (pFin_b (by omega)) ?_
          show aW _ _ _ _ _ _ (13, [some (.ref 64), some (.int (zI fi)), some (.int (zI se))], [.int (zI 1)], es)
          refine x_ifT i_162_13 (by unfold i32 iLO iHI; omega) rfl (by simp only [zC, cR]; omega) ?_
          refine x0 (r := (28, [some (.ref 64), some (.int (zI fi)), some (.int (zI se))], [.ref 64], es)) i_162_27 rfl ?_
          refine x_getr (p := 0) (k := 71) i_162_28 hs_es rfl rfl ?_
          show aW _ _ _ _ _ _ (31, [some (.ref 64), some (.int (zI fi)), some (.int (zI se))], [.ref 71], es)
          refine x0 (r := (32, [some (.ref 64), some (.int (zI fi)), some (.int (zI se))], [.int (zI fi), .ref 71], es)) i_162_31 rfl ?_
          refine x0 (r := (33, [some (.ref 64), some (.int (zI fi)), some (.int (zI se))], [.int (zI se), .int (zI fi), .ref 71], es)) i_162_32 rfl ?_
          refine x0 (r := (35, [some (.ref 64), some (.int (zI fi)), some (.int (zI se))], [.int (zI 25), .int (zI se), .int (zI fi), .ref 71], es)) i_162_33 (by rfl) ?_
          exact K5 c1 v2 e_v2 c3 c4 v5 e_v5 c6
