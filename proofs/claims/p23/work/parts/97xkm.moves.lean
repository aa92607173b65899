/-! MOVES of both sides; printed by wip/rel/moves.py -/
theorem i_107_0 : iRow 107 0 = some (.iload_n 1, 0, 0, 0, (some (Jvm.ClassFile.FieldType.int))) := rfl
theorem i_107_1 : iRow 107 1 = some (.invokestatic 130, 138, 105, 0, (some (Jvm.ClassFile.FieldType.int))) := rfl
theorem i_107_4 : iRow 107 4 = some (.ifCond .eq 8, 0, 0, 0, (some (Jvm.ClassFile.FieldType.int))) := rfl
theorem i_107_7 : iRow 107 7 = some (.iload_n 2, 0, 0, 0, (some (Jvm.ClassFile.FieldType.int))) := rfl
theorem i_107_8 : iRow 107 8 = some (.iconst (-1), 0, 0, 0, (some (Jvm.ClassFile.FieldType.int))) := rfl
theorem i_107_9 : iRow 107 9 = some (.if_icmp .ge 13, 0, 0, 0, (some (Jvm.ClassFile.FieldType.int))) := rfl
theorem i_107_12 : iRow 107 12 = some (.new 85, 15, 0, 1, (some (Jvm.ClassFile.FieldType.int))) := rfl
theorem i_107_22 : iRow 107 22 = some (.aload_n 0, 0, 0, 0, (some (Jvm.ClassFile.FieldType.int))) := rfl
theorem i_107_23 : iRow 107 23 = some (.getfield 40, 141, 11, 4, (some (Jvm.ClassFile.FieldType.int))) := rfl
theorem i_107_26 : iRow 107 26 = some (.invokevirtual 149, 143, 24, 1, (some (Jvm.ClassFile.FieldType.int))) := rfl
theorem i_107_29 : iRow 107 29 = some (.iload_n 2, 0, 0, 0, (some (Jvm.ClassFile.FieldType.int))) := rfl
theorem i_107_30 : iRow 107 30 = some (.iconst (-1), 0, 0, 0, (some (Jvm.ClassFile.FieldType.int))) := rfl
theorem i_107_31 : iRow 107 31 = some (.if_icmp .ne 14, 0, 0, 0, (some (Jvm.ClassFile.FieldType.int))) := rfl
theorem i_107_34 : iRow 107 34 = some (.aload_n 0, 0, 0, 0, (some (Jvm.ClassFile.FieldType.int))) := rfl
theorem i_107_35 : iRow 107 35 = some (.getfield 40, 141, 11, 4, (some (Jvm.ClassFile.FieldType.int))) := rfl
theorem i_107_38 : iRow 107 38 = some (.iload_n 1, 0, 0, 0, (some (Jvm.ClassFile.FieldType.int))) := rfl
theorem i_107_39 : iRow 107 39 = some (.invokevirtual 152, 144, 108, 1, (some (Jvm.ClassFile.FieldType.int))) := rfl
theorem i_107_42 : iRow 107 42 = some (.goto 12, 0, 0, 0, (some (Jvm.ClassFile.FieldType.int))) := rfl
theorem i_107_45 : iRow 107 45 = some (.aload_n 0, 0, 0, 0, (some (Jvm.ClassFile.FieldType.int))) := rfl
theorem i_107_46 : iRow 107 46 = some (.getfield 40, 141, 11, 4, (some (Jvm.ClassFile.FieldType.int))) := rfl
theorem i_107_49 : iRow 107 49 = some (.iload_n 1, 0, 0, 0, (some (Jvm.ClassFile.FieldType.int))) := rfl
theorem i_107_50 : iRow 107 50 = some (.iload_n 2, 0, 0, 0, (some (Jvm.ClassFile.FieldType.int))) := rfl
theorem i_107_51 : iRow 107 51 = some (.invokevirtual 156, 147, 110, 1, (some (Jvm.ClassFile.FieldType.int))) := rfl
theorem i_107_54 : iRow 107 54 = some (.ireturn, 0, 0, 0, (some (Jvm.ClassFile.FieldType.int))) := rfl
theorem i_216_0 : iRow 216 0 = some (.aload_n 0, 0, 0, 0, (some (Jvm.ClassFile.FieldType.int))) := rfl
theorem i_216_1 : iRow 216 1 = some (.iconst 0, 0, 0, 0, (some (Jvm.ClassFile.FieldType.int))) := rfl
theorem i_216_2 : iRow 216 2 = some (.putfield 3, 164, 12, 0, (some (Jvm.ClassFile.FieldType.int))) := rfl
theorem i_216_5 : iRow 216 5 = some (.aload_n 0, 0, 0, 0, (some (Jvm.ClassFile.FieldType.int))) := rfl
theorem i_216_6 : iRow 216 6 = some (.iload_n 1, 0, 0, 0, (some (Jvm.ClassFile.FieldType.int))) := rfl
theorem i_216_7 : iRow 216 7 = some (.iconst 0, 0, 0, 0, (some (Jvm.ClassFile.FieldType.int))) := rfl
theorem i_216_8 : iRow 216 8 = some (.iconst 1, 0, 0, 0, (some (Jvm.ClassFile.FieldType.int))) := rfl
theorem i_216_9 : iRow 216 9 = some (.invokestatic 106, 282, 193, 0, (some (Jvm.ClassFile.FieldType.int))) := rfl
theorem i_216_12 : iRow 216 12 = some (.ifCond .eq 8, 0, 0, 0, (some (Jvm.ClassFile.FieldType.int))) := rfl
theorem i_216_15 : iRow 216 15 = some (.iload_n 2, 0, 0, 0, (some (Jvm.ClassFile.FieldType.int))) := rfl
theorem i_216_16 : iRow 216 16 = some (.iconst (-1), 0, 0, 0, (some (Jvm.ClassFile.FieldType.int))) := rfl
theorem i_216_17 : iRow 216 17 = some (.if_icmp .ge 7, 0, 0, 0, (some (Jvm.ClassFile.FieldType.int))) := rfl
theorem i_216_20 : iRow 216 20 = some (.iconst 1, 0, 0, 0, (some (Jvm.ClassFile.FieldType.int))) := rfl
theorem i_216_21 : iRow 216 21 = some (.goto 4, 0, 0, 0, (some (Jvm.ClassFile.FieldType.int))) := rfl
theorem i_216_24 : iRow 216 24 = some (.iconst 0, 0, 0, 0, (some (Jvm.ClassFile.FieldType.int))) := rfl
theorem i_216_25 : iRow 216 25 = some (.iconst 1, 0, 0, 0, (some (Jvm.ClassFile.FieldType.int))) := rfl
theorem i_216_26 : iRow 216 26 = some (.invokevirtual 235, 283, 194, 1, (some (Jvm.ClassFile.FieldType.int))) := rfl
theorem i_216_29 : iRow 216 29 = some (.ifCond .eq 5, 0, 0, 0, (some (Jvm.ClassFile.FieldType.int))) := rfl
theorem i_216_32 : iRow 216 32 = some (.iconst 0, 0, 0, 0, (some (Jvm.ClassFile.FieldType.int))) := rfl
theorem i_216_33 : iRow 216 33 = some (.ireturn, 0, 0, 0, (some (Jvm.ClassFile.FieldType.int))) := rfl
theorem i_216_34 : iRow 216 34 = some (.aload_n 0, 0, 0, 0, (some (Jvm.ClassFile.FieldType.int))) := rfl
theorem i_216_35 : iRow 216 35 = some (.invokevirtual 302, 306, 217, 1, (some (Jvm.ClassFile.FieldType.int))) := rfl
theorem i_216_38 : iRow 216 38 = some (.aload_n 0, 0, 0, 0, (some (Jvm.ClassFile.FieldType.int))) := rfl
theorem i_216_39 : iRow 216 39 = some (.iconst 0, 0, 0, 0, (some (Jvm.ClassFile.FieldType.int))) := rfl
theorem i_216_40 : iRow 216 40 = some (.iload_n 1, 0, 0, 0, (some (Jvm.ClassFile.FieldType.int))) := rfl
theorem i_216_41 : iRow 216 41 = some (.invokevirtual 305, 307, 218, 1, (some (Jvm.ClassFile.FieldType.int))) := rfl
theorem i_216_44 : iRow 216 44 = some (.iload_n 2, 0, 0, 0, (some (Jvm.ClassFile.FieldType.int))) := rfl
theorem i_216_45 : iRow 216 45 = some (.ifCond .ge 11, 0, 0, 0, (some (Jvm.ClassFile.FieldType.int))) := rfl
theorem i_216_48 : iRow 216 48 = some (.aload_n 0, 0, 0, 0, (some (Jvm.ClassFile.FieldType.int))) := rfl
theorem i_216_49 : iRow 216 49 = some (.iconst 0, 0, 0, 0, (some (Jvm.ClassFile.FieldType.int))) := rfl
theorem i_216_50 : iRow 216 50 = some (.invokevirtual 308, 316, 227, 1, (some (Jvm.ClassFile.FieldType.int))) := rfl
theorem i_216_53 : iRow 216 53 = some (.goto 9, 0, 0, 0, (some (Jvm.ClassFile.FieldType.int))) := rfl
theorem i_216_56 : iRow 216 56 = some (.aload_n 0, 0, 0, 0, (some (Jvm.ClassFile.FieldType.int))) := rfl
theorem i_216_57 : iRow 216 57 = some (.iconst 0, 0, 0, 0, (some (Jvm.ClassFile.FieldType.int))) := rfl
theorem i_216_58 : iRow 216 58 = some (.iload_n 2, 0, 0, 0, (some (Jvm.ClassFile.FieldType.int))) := rfl
theorem i_216_59 : iRow 216 59 = some (.invokevirtual 311, 317, 228, 1, (some (Jvm.ClassFile.FieldType.int))) := rfl
theorem i_216_62 : iRow 216 62 = some (.ireturn, 0, 0, 0, (some (Jvm.ClassFile.FieldType.int))) := rfl
theorem i_228_0 : iRow 228 0 = some (.iload_n 2, 0, 0, 0, (some (Jvm.ClassFile.FieldType.int))) := rfl
theorem i_228_1 : iRow 228 1 = some (.istore_n 3, 0, 0, 0, (some (Jvm.ClassFile.FieldType.int))) := rfl
theorem i_228_2 : iRow 228 2 = some (.iconst 0, 0, 0, 0, (some (Jvm.ClassFile.FieldType.int))) := rfl
theorem i_228_3 : iRow 228 3 = some (.istore 4, 0, 0, 0, (some (Jvm.ClassFile.FieldType.int))) := rfl
theorem i_228_5 : iRow 228 5 = some (.iload 4, 0, 0, 0, (some (Jvm.ClassFile.FieldType.int))) := rfl
theorem i_228_7 : iRow 228 7 = some (.sipush 1296, 0, 0, 0, (some (Jvm.ClassFile.FieldType.int))) := rfl
theorem i_228_10 : iRow 228 10 = some (.if_icmp .ge 38, 0, 0, 0, (some (Jvm.ClassFile.FieldType.int))) := rfl
theorem i_228_13 : iRow 228 13 = some (.aload_n 0, 0, 0, 0, (some (Jvm.ClassFile.FieldType.int))) := rfl
theorem i_228_14 : iRow 228 14 = some (.getfield 43, 181, 12, 17, (some (Jvm.ClassFile.FieldType.int))) := rfl
theorem i_228_17 : iRow 228 17 = some (.sipush 1296, 0, 0, 0, (some (Jvm.ClassFile.FieldType.int))) := rfl
theorem i_228_20 : iRow 228 20 = some (.iload_n 1, 0, 0, 0, (some (Jvm.ClassFile.FieldType.int))) := rfl
theorem i_228_21 : iRow 228 21 = some (.imul, 0, 0, 0, (some (Jvm.ClassFile.FieldType.int))) := rfl
theorem i_228_22 : iRow 228 22 = some (.iload 4, 0, 0, 0, (some (Jvm.ClassFile.FieldType.int))) := rfl
theorem i_228_24 : iRow 228 24 = some (.iadd, 0, 0, 0, (some (Jvm.ClassFile.FieldType.int))) := rfl
theorem i_228_25 : iRow 228 25 = some (.baload, 0, 0, 0, (some (Jvm.ClassFile.FieldType.int))) := rfl
theorem i_228_26 : iRow 228 26 = some (.ifCond .ne 6, 0, 0, 0, (some (Jvm.ClassFile.FieldType.int))) := rfl
theorem i_228_29 : iRow 228 29 = some (.goto 13, 0, 0, 0, (some (Jvm.ClassFile.FieldType.int))) := rfl
theorem i_228_32 : iRow 228 32 = some (.iload_n 3, 0, 0, 0, (some (Jvm.ClassFile.FieldType.int))) := rfl
theorem i_228_33 : iRow 228 33 = some (.ifCond .ne 6, 0, 0, 0, (some (Jvm.ClassFile.FieldType.int))) := rfl
theorem i_228_36 : iRow 228 36 = some (.iload 4, 0, 0, 0, (some (Jvm.ClassFile.FieldType.int))) := rfl
theorem i_228_38 : iRow 228 38 = some (.ireturn, 0, 0, 0, (some (Jvm.ClassFile.FieldType.int))) := rfl
theorem i_228_39 : iRow 228 39 = some (.iinc 3 (-1), 0, 0, 0, (some (Jvm.ClassFile.FieldType.int))) := rfl
theorem i_228_42 : iRow 228 42 = some (.iinc 4 1, 0, 0, 0, (some (Jvm.ClassFile.FieldType.int))) := rfl
theorem i_228_45 : iRow 228 45 = some (.goto (-40), 0, 0, 0, (some (Jvm.ClassFile.FieldType.int))) := rfl
theorem i_228_48 : iRow 228 48 = some (.iconst (-1), 0, 0, 0, (some (Jvm.ClassFile.FieldType.int))) := rfl
theorem i_228_49 : iRow 228 49 = some (.ireturn, 0, 0, 0, (some (Jvm.ClassFile.FieldType.int))) := rfl
theorem i_280_0 : iRow 280 0 = some (.aload_n 3, 0, 0, 0, (some (Jvm.ClassFile.FieldType.int))) := rfl
theorem i_280_1 : iRow 280 1 = some (.iconst 0, 0, 0, 0, (some (Jvm.ClassFile.FieldType.int))) := rfl
theorem i_280_2 : iRow 280 2 = some (.aload_n 0, 0, 0, 0, (some (Jvm.ClassFile.FieldType.int))) := rfl
theorem i_280_3 : iRow 280 3 = some (.iload_n 1, 0, 0, 0, (some (Jvm.ClassFile.FieldType.int))) := rfl
theorem i_280_4 : iRow 280 4 = some (.iload_n 2, 0, 0, 0, (some (Jvm.ClassFile.FieldType.int))) := rfl
theorem i_280_5 : iRow 280 5 = some (.invokevirtual 27, 142, 107, 1, (some (Jvm.ClassFile.FieldType.int))) := rfl
theorem i_280_8 : iRow 280 8 = some (.i2l, 0, 0, 0, (some (Jvm.ClassFile.FieldType.int))) := rfl
theorem i_280_9 : iRow 280 9 = some (.lastore, 0, 0, 0, (some (Jvm.ClassFile.FieldType.int))) := rfl
theorem i_280_10 : iRow 280 10 = some (.goto 7, 0, 0, 0, (some (Jvm.ClassFile.FieldType.int))) := rfl
theorem i_280_15 : iRow 280 15 = some (.iconst 1, 0, 0, 0, (some (Jvm.ClassFile.FieldType.int))) := rfl
theorem i_280_16 : iRow 280 16 = some (.ireturn, 0, 0, 0, (some (Jvm.ClassFile.FieldType.int))) := rfl
theorem i_280_17 : iRow 280 17 = some (.iconst 0, 0, 0, 0, (some (Jvm.ClassFile.FieldType.int))) := rfl
theorem i_280_18 : iRow 280 18 = some (.ireturn, 0, 0, 0, (some (Jvm.ClassFile.FieldType.int))) := rfl
theorem s_mva0 {O : pOut} {d kc ks : Nat} {Q : pRes → Prop} {es : PH} {dp i : Int} (hs_es : sh es) (hd : 0 ≤ dp ∧ dp ≤ 30)
    (K1 : aW O d 228 kc ks Q (5, [some (.ref 143), some (.int (zI dp)), some (.int (zI i)), some (.int (zI i)), some (.int (zI 0))], [], es)) :
    aW O d 228 kc ks Q (0, [some (.ref 143), some (.int (zI dp)), some (.int (zI i)), none, none], [], es) := by
  refine x0 (r := (1, [some (.ref 143), some (.int (zI dp)), some (.int (zI i)), none, none], [.int (zI i)], es)) i_228_0 rfl ?_
  refine x0 (r := (2, [some (.ref 143), some (.int (zI dp)), some (.int (zI i)), some (.int (zI i)), none], [], es)) i_228_1 rfl ?_
  refine x0 (r := (3, [some (.ref 143), some (.int (zI dp)), some (.int (zI i)), some (.int (zI i)), none], [.int (zI 0)], es)) i_228_2 (by rfl) ?_
  refine x0 (r := (5, [some (.ref 143), some (.int (zI dp)), some (.int (zI i)), some (.int (zI i)), some (.int (zI 0))], [], es)) i_228_3 rfl ?_
  exact K1
theorem s_mva5 {O : pOut} {d kc ks : Nat} {Q : pRes → Prop} {es : PH} {dp i le c : Int} (hs_es : sh es) (hd : 0 ≤ dp ∧ dp ≤ 30) (h1 : 0 ≤ c ∧ c ≤ 1296) (h2 : 0 ≤ le ∧ le ≤ 2147483647)
    (K1 : 1296 ≤ c → Q (.inl (some (.int (zI (-1)))), es, kc, ks))
    (K2 : ¬ (1296 ≤ c) → ∀ v2 : Int, v2 = (gA es 88 ((1296 * dp) + c).toNat).toInt → v2 ≠ 0 → le ≠ 0 → aW O d 228 kc ks Q (5, [some (.ref 143), some (.int (zI dp)), some (.int (zI i)), some (.int (zI (le + (-1)))), some (.int (zI (c + 1)))], [], es))
    (K3 : ¬ (1296 ≤ c) → ∀ v2 : Int, v2 = (gA es 88 ((1296 * dp) + c).toNat).toInt → v2 ≠ 0 → ¬ (le ≠ 0) → Q (.inl (some (.int (zI c))), es, kc, ks))
    (K4 : ¬ (1296 ≤ c) → ∀ v2 : Int, v2 = (gA es 88 ((1296 * dp) + c).toNat).toInt → ¬ (v2 ≠ 0) → aW O d 228 kc ks Q (5, [some (.ref 143), some (.int (zI dp)), some (.int (zI i)), some (.int (zI le)), some (.int (zI (c + 1)))], [], es)) :
    aW O d 228 kc ks Q (5, [some (.ref 143), some (.int (zI dp)), some (.int (zI i)), some (.int (zI le)), some (.int (zI c))], [], es) := by
  refine x0 (r := (7, [some (.ref 143), some (.int (zI dp)), some (.int (zI i)), some (.int (zI le)), some (.int (zI c))], [.int (zI c)], es)) i_228_5 rfl ?_
  refine x0 (r := (10, [some (.ref 143), some (.int (zI dp)), some (.int (zI i)), some (.int (zI le)), some (.int (zI c))], [.int (zI 1296), .int (zI c)], es)) i_228_7 (by rfl) ?_
  by_cases c1 : 1296 ≤ c
  · refine x_cmpT i_228_10 (by unfold i32 iLO iHI; omega) (by unfold i32 iLO iHI; omega) rfl (by simp only [zC, cR]; omega) ?_
    refine x0 (r := (49, [some (.ref 143), some (.int (zI dp)), some (.int (zI i)), some (.int (zI le)), some (.int (zI c))], [.int (zI (-1))], es)) i_228_48 (by rfl) ?_
    refine x_ret (v := some (.int (zI (-1)))) i_228_49 rfl (fun _ => rfl) rfl rfl rfl ?_
    exact K1 c1
  · refine x_cmpF i_228_10 (by unfold i32 iLO iHI; omega) (by unfold i32 iLO iHI; omega) rfl (by simp only [zC, cR]; omega) ?_
    refine x0 (r := (14, [some (.ref 143), some (.int (zI dp)), some (.int (zI i)), some (.int (zI le)), some (.int (zI c))], [.ref 143], es)) i_228_13 rfl ?_
    refine x_getr (p := 79) (k := 152) i_228_14 hs_es rfl rfl ?_
    show aW _ _ _ _ _ _ (17, [some (.ref 143), some (.int (zI dp)), some (.int (zI i)), some (.int (zI le)), some (.int (zI c))], [.ref 152], es)
    refine x0 (r := (20, [some (.ref 143), some (.int (zI dp)), some (.int (zI i)), some (.int (zI le)), some (.int (zI c))], [.int (zI 1296), .ref 152], es)) i_228_17 (by rfl) ?_
    refine x0 (r := (21, [some (.ref 143), some (.int (zI dp)), some (.int (zI i)), some (.int (zI le)), some (.int (zI c))], [.int (zI dp), .int (zI 1296), .ref 152], es)) i_228_20 rfl ?_
    refine x_imul i_228_21 ?_
    refine x0 (r := (24, [some (.ref 143), some (.int (zI dp)), some (.int (zI i)), some (.int (zI le)), some (.int (zI c))], [.int (zI c), .int (zI (1296 * dp)), .ref 152], es)) i_228_22 rfl ?_
    refine x_iadd i_228_24 ?_
    refine x_bald (p := 88) i_228_25 hs_es rfl (by decide) (by unfold i32 iLO iHI; omega) (by omega) (by omega) ?_
    obtain ⟨v2, e_v2⟩ : ∃ z : Int, z = (gA es 88 ((1296 * dp) + c).toNat).toInt := ⟨_, rfl⟩
    rw [← e_v2]
    have r_v2 : iLO ≤ v2 ∧ v2 ≤ iHI := by rw [e_v2]; exact i32_rng _
    unfold iLO iHI at r_v2
    by_cases c3 : v2 ≠ 0
    · refine x_ifT i_228_26 (by unfold i32 iLO iHI; omega) rfl (by simp only [zC, cR]; omega) ?_
      refine x0 (r := (33, [some (.ref 143), some (.int (zI dp)), some (.int (zI i)), some (.int (zI le)), some (.int (zI c))], [.int (zI le)], es)) i_228_32 rfl ?_
      by_cases c4 : le ≠ 0
      · refine x_ifT i_228_33 (by unfold i32 iLO iHI; omega) rfl (by simp only [zC, cR]; omega) ?_
        refine x_iinc (x := le) i_228_39 rfl (by show 3 < 5; decide) ?_
        show aW _ _ _ _ _ _ (42, [some (.ref 143), some (.int (zI dp)), some (.int (zI i)), some (.int (zI (le + (-1)))), some (.int (zI c))], [], es)
        refine x_iinc (x := c) i_228_42 rfl (by show 4 < 5; decide) ?_
        show aW _ _ _ _ _ _ (45, [some (.ref 143), some (.int (zI dp)), some (.int (zI i)), some (.int (zI (le + (-1)))), some (.int (zI (c + 1)))], [], es)
        refine x0 (r := (5, [some (.ref 143), some (.int (zI dp)), some (.int (zI i)), some (.int (zI (le + (-1)))), some (.int (zI (c + 1)))], [], es)) i_228_45 rfl ?_
        exact K2 c1 v2 e_v2 c3 c4
      · refine x_ifF i_228_33 (by unfold i32 iLO iHI; omega) rfl (by simp only [zC, cR]; omega) ?_
        refine x0 (r := (38, [some (.ref 143), some (.int (zI dp)), some (.int (zI i)), some (.int (zI le)), some (.int (zI c))], [.int (zI c)], es)) i_228_36 rfl ?_
        refine x_ret (v := some (.int (zI c))) i_228_38 rfl (fun _ => rfl) rfl rfl rfl ?_
        exact K3 c1 v2 e_v2 c3 c4
    · refine x_ifF i_228_26 (by unfold i32 iLO iHI; omega) rfl (by simp only [zC, cR]; omega) ?_
      refine x0 (r := (42, [some (.ref 143), some (.int (zI dp)), some (.int (zI i)), some (.int (zI le)), some (.int (zI c))], [], es)) i_228_29 rfl ?_
      refine x_iinc (x := c) i_228_42 rfl (by show 4 < 5; decide) ?_
      show aW _ _ _ _ _ _ (45, [some (.ref 143), some (.int (zI dp)), some (.int (zI i)), some (.int (zI le)), some (.int (zI (c + 1)))], [], es)
      refine x0 (r := (5, [some (.ref 143), some (.int (zI dp)), some (.int (zI i)), some (.int (zI le)), some (.int (zI (c + 1)))], [], es)) i_228_45 rfl ?_
      exact K4 c1 v2 e_v2 c3
theorem s_mmv0 {O : pOut} {d kc ks : Nat} {Q : pRes → Prop} {es : PH} {sd i : Int} (hs_es : sh es) (h_sd : -2147483648 ≤ sd ∧ sd ≤ 2147483647) (h_i : -2147483648 ≤ i ∧ i ≤ 2147483647) (hT_es : hOK tT es)
    (K1 : ∀ es1 : PH, es1 = sI es 79 0 (.int (zI 0)) → sd < 0 → ∀ es3 : PH, es3 = sI es1 79 0 (.int (zI 1)) → Q (.inl (some (.int (zI 0))), es3, kc, ks))
    (K2 : ∀ es1 : PH, es1 = sI es 79 0 (.int (zI 0)) → ¬ (sd < 0) → 1 < sd → ∀ es5 : PH, es5 = sI es1 79 0 (.int (zI 1)) → Q (.inl (some (.int (zI 0))), es5, kc, ks))
    (K3 : ∀ es1 : PH, es1 = sI es 79 0 (.int (zI 0)) → ¬ (sd < 0) → ¬ (1 < sd) → (-1) ≤ i → aW O (d + 1) 216 kc ks Q (35, [some (.ref 143), some (.int (zI sd)), some (.int (zI i))], [.ref 143], es1))
    (K4 : ∀ es1 : PH, es1 = sI es 79 0 (.int (zI 0)) → ¬ (sd < 0) → ¬ (1 < sd) → ¬ ((-1) ≤ i) → ∀ es7 : PH, es7 = sI es1 79 0 (.int (zI 1)) → Q (.inl (some (.int (zI 0))), es7, kc, ks)) :
    aW O (d + 1) 216 kc ks Q (0, [some (.ref 143), some (.int (zI sd)), some (.int (zI i))], [], es) := by
  refine x0 (r := (1, [some (.ref 143), some (.int (zI sd)), some (.int (zI i))], [.ref 143], es)) i_216_0 rfl ?_
  refine x0 (r := (2, [some (.ref 143), some (.int (zI sd)), some (.int (zI i))], [.int (zI 0), .ref 143], es)) i_216_1 (by rfl) ?_
  refine x_puti (p := 79) (ty := .int) i_216_2 hs_es rfl rfl rfl (Or.inl rfl) ?_
  obtain ⟨es1, e_es1⟩ : ∃ z : PH, z = sI es 79 0 (.int (zI 0)) := ⟨_, rfl⟩
  have hs_es1 : sh es1 := by rw [e_es1]; exact sh_sI hs_es (p := 79) (b := 0) rfl rfl
  have hT_es1 : hOK tT es1 := by rw [e_es1]; exact hOK_sI hT_es (p := 79) (b := 0) (lo := iLO) (hi := iHI) rfl rfl (i32_rng _)
  rw [← e_es1]
  refine x0 (r := (6, [some (.ref 143), some (.int (zI sd)), some (.int (zI i))], [.ref 143], es1)) i_216_5 rfl ?_
  refine x0 (r := (7, [some (.ref 143), some (.int (zI sd)), some (.int (zI i))], [.int (zI sd), .ref 143], es1)) i_216_6 rfl ?_
  refine x0 (r := (8, [some (.ref 143), some (.int (zI sd)), some (.int (zI i))], [.int (zI 0), .int (zI sd), .ref 143], es1)) i_216_7 (by rfl) ?_
  refine x0 (r := (9, [some (.ref 143), some (.int (zI sd)), some (.int (zI i))], [.int (zI 1), .int (zI 0), .int (zI sd), .ref 143], es1)) i_216_8 (by rfl) ?_
  refine x_call (vs := [.int (zI sd), .int (zI 0), .int (zI 1)]) (rs := [.ref 143]) i_216_9 rfl (fun _ => rfl) rfl rfl rfl rfl rfl rfl ?_
  show aW _ _ _ _ _ _ (0, [some (.int (zI sd)), some (.int (zI 0)), some (.int (zI 1))], [], es1)
  refine x0 (r := (1, [some (.int (zI sd)), some (.int (zI 0)), some (.int (zI 1))], [.int (zI sd)], es1)) i_193_0 rfl ?_
  refine x0 (r := (2, [some (.int (zI sd)), some (.int (zI 0)), some (.int (zI 1))], [.int (zI 0), .int (zI sd)], es1)) i_193_1 rfl ?_
  by_cases c2 : sd < 0
  · refine x_cmpT i_193_2 (by unfold i32 iLO iHI; omega) (by unfold i32 iLO iHI; omega) rfl (by simp only [zC, cR]; omega) ?_
    refine x0 (r := (15, [some (.int (zI sd)), some (.int (zI 0)), some (.int (zI 1))], [.int (zI 0)], es1)) i_193_14 (by rfl) ?_
    refine x_ret (v := some (.int (zI 0))) i_193_15 rfl (fun _ => rfl) rfl rfl (pFin_b (by omega)) ?_
    show aW _ _ _ _ _ _ (12, [some (.ref 143), some (.int (zI sd)), some (.int (zI i))], [.int (zI 0), .ref 143], es1)
    refine x_ifT i_216_12 (by unfold i32 iLO iHI; omega) rfl (by simp only [zC, cR]; omega) ?_
    refine x0 (r := (21, [some (.ref 143), some (.int (zI sd)), some (.int (zI i))], [.int (zI 1), .ref 143], es1)) i_216_20 (by rfl) ?_
    refine x0 (r := (25, [some (.ref 143), some (.int (zI sd)), some (.int (zI i))], [.int (zI 1), .ref 143], es1)) i_216_21 rfl ?_
    refine x0 (r := (26, [some (.ref 143), some (.int (zI sd)), some (.int (zI i))], [.int (zI 1), .int (zI 1), .ref 143], es1)) i_216_25 (by rfl) ?_
    refine x_call (vs := [.ref 143, .int (zI 1), .int (zI 1)]) (rs := []) i_216_26 rfl (fun _ => rfl) rfl rfl rfl rfl rfl (pCall_v (p := 79) hs_es1 rfl rfl rfl rfl rfl (by decide) rfl rfl rfl rfl rfl) ?_
    show aW _ _ _ _ _ _ (0, [some (.ref 143), some (.int (zI 1)), some (.int (zI 1))], [], es1)
    refine x0 (r := (1, [some (.ref 143), some (.int (zI 1)), some (.int (zI 1))], [.int (zI 1)], es1)) i_194_0 rfl ?_
    refine x_ifF i_194_1 (by unfold i32 iLO iHI; omega) rfl (by simp only [zC, cR]; omega) ?_
    refine x0 (r := (5, [some (.ref 143), some (.int (zI 1)), some (.int (zI 1))], [.ref 143], es1)) i_194_4 rfl ?_
    refine x0 (r := (6, [some (.ref 143), some (.int (zI 1)), some (.int (zI 1))], [.int (zI 1), .ref 143], es1)) i_194_5 rfl ?_
    refine x_puti (p := 79) (ty := .int) i_194_6 hs_es1 rfl rfl rfl (Or.inl rfl) ?_
    obtain ⟨es3, e_es3⟩ : ∃ z : PH, z = sI es1 79 0 (.int (zI 1)) := ⟨_, rfl⟩
    have hs_es3 : sh es3 := by rw [e_es3]; exact sh_sI hs_es1 (p := 79) (b := 0) rfl rfl
    have hT_es3 : hOK tT es3 := by rw [e_es3]; exact hOK_sI hT_es1 (p := 79) (b := 0) (lo := iLO) (hi := iHI) rfl rfl (i32_rng _)
    rw [← e_es3]
    refine x0 (r := (10, [some (.ref 143), some (.int (zI 1)), some (.int (zI 1))], [.int (zI 1)], es3)) i_194_9 rfl ?_
    refine x_ret (v := some (.int (zI 1))) i_194_10 rfl (fun _ => rfl) rfl rfl (pFin_b (by omega)) ?_
    show aW _ _ _ _ _ _ (29, [some (.ref 143), some (.int (zI sd)), some (.int (zI i))], [.int (zI 1)], es3)
    refine x_ifF i_216_29 (by unfold i32 iLO iHI; omega) rfl (by simp only [zC, cR]; omega) ?_
    refine x0 (r := (33, [some (.ref 143), some (.int (zI sd)), some (.int (zI i))], [.int (zI 0)], es3)) i_216_32 (by rfl) ?_
    refine x_ret (v := some (.int (zI 0))) i_216_33 rfl (fun _ => rfl) rfl rfl rfl ?_
    exact K1 es1 e_es1 c2 es3 e_es3
  · refine x_cmpF i_193_2 (by unfold i32 iLO iHI; omega) (by unfold i32 iLO iHI; omega) rfl (by simp only [zC, cR]; omega) ?_
    refine x0 (r := (6, [some (.int (zI sd)), some (.int (zI 0)), some (.int (zI 1))], [.int (zI sd)], es1)) i_193_5 rfl ?_
    refine x0 (r := (7, [some (.int (zI sd)), some (.int (zI 0)), some (.int (zI 1))], [.int (zI 1), .int (zI sd)], es1)) i_193_6 rfl ?_
    by_cases c4 : 1 < sd
    · refine x_cmpT i_193_7 (by unfold i32 iLO iHI; omega) (by unfold i32 iLO iHI; omega) rfl (by simp only [zC, cR]; omega) ?_
      refine x0 (r := (15, [some (.int (zI sd)), some (.int (zI 0)), some (.int (zI 1))], [.int (zI 0)], es1)) i_193_14 (by rfl) ?_
      refine x_ret (v := some (.int (zI 0))) i_193_15 rfl (fun _ => rfl) rfl rfl (pFin_b (by omega)) ?_
      show aW _ _ _ _ _ _ (12, [some (.ref 143), some (.int (zI sd)), some (.int (zI i))], [.int (zI 0), .ref 143], es1)
      refine x_ifT i_216_12 (by unfold i32 iLO iHI; omega) rfl (by simp only [zC, cR]; omega) ?_
      refine x0 (r := (21, [some (.ref 143), some (.int (zI sd)), some (.int (zI i))], [.int (zI 1), .ref 143], es1)) i_216_20 (by rfl) ?_
      refine x0 (r := (25, [some (.ref 143), some (.int (zI sd)), some (.int (zI i))], [.int (zI 1), .ref 143], es1)) i_216_21 rfl ?_
      refine x0 (r := (26, [some (.ref 143), some (.int (zI sd)), some (.int (zI i))], [.int (zI 1), .int (zI 1), .ref 143], es1)) i_216_25 (by rfl) ?_
      refine x_call (vs := [.ref 143, .int (zI 1), .int (zI 1)]) (rs := []) i_216_26 rfl (fun _ => rfl) rfl rfl rfl rfl rfl (pCall_v (p := 79) hs_es1 rfl rfl rfl rfl rfl (by decide) rfl rfl rfl rfl rfl) ?_
      show aW _ _ _ _ _ _ (0, [some (.ref 143), some (.int (zI 1)), some (.int (zI 1))], [], es1)
      refine x0 (r := (1, [some (.ref 143), some (.int (zI 1)), some (.int (zI 1))], [.int (zI 1)], es1)) i_194_0 rfl ?_
      refine x_ifF i_194_1 (by unfold i32 iLO iHI; omega) rfl (by simp only [zC, cR]; omega) ?_
      refine x0 (r := (5, [some (.ref 143), some (.int (zI 1)), some (.int (zI 1))], [.ref 143], es1)) i_194_4 rfl ?_
      refine x0 (r := (6, [some (.ref 143), some (.int (zI 1)), some (.int (zI 1))], [.int (zI 1), .ref 143], es1)) i_194_5 rfl ?_
      refine x_puti (p := 79) (ty := .int) i_194_6 hs_es1 rfl rfl rfl (Or.inl rfl) ?_
      obtain ⟨es5, e_es5⟩ : ∃ z : PH, z = sI es1 79 0 (.int (zI 1)) := ⟨_, rfl⟩
      have hs_es5 : sh es5 := by rw [e_es5]; exact sh_sI hs_es1 (p := 79) (b := 0) rfl rfl
      have hT_es5 : hOK tT es5 := by rw [e_es5]; exact hOK_sI hT_es1 (p := 79) (b := 0) (lo := iLO) (hi := iHI) rfl rfl (i32_rng _)
      rw [← e_es5]
      refine x0 (r := (10, [some (.ref 143), some (.int (zI 1)), some (.int (zI 1))], [.int (zI 1)], es5)) i_194_9 rfl ?_
      refine x_ret (v := some (.int (zI 1))) i_194_10 rfl (fun _ => rfl) rfl rfl (pFin_b (by omega)) ?_
      show aW _ _ _ _ _ _ (29, [some (.ref 143), some (.int (zI sd)), some (.int (zI i))], [.int (zI 1)], es5)
      refine x_ifF i_216_29 (by unfold i32 iLO iHI; omega) rfl (by simp only [zC, cR]; omega) ?_
      refine x0 (r := (33, [some (.ref 143), some (.int (zI sd)), some (.int (zI i))], [.int (zI 0)], es5)) i_216_32 (by rfl) ?_
      refine x_ret (v := some (.int (zI 0))) i_216_33 rfl (fun _ => rfl) rfl rfl rfl ?_
      exact K2 es1 e_es1 c2 c4 es5 e_es5
    · refine x_cmpF i_193_7 (by unfold i32 iLO iHI; omega) (by unfold i32 iLO iHI; omega) rfl (by simp only [zC, cR]; omega) ?_
      refine x0 (r := (11, [some (.int (zI sd)), some (.int (zI 0)), some (.int (zI 1))], [.int (zI 1)], es1)) i_193_10 (by rfl) ?_
      refine x0 (r := (15, [some (.int (zI sd)), some (.int (zI 0)), some (.int (zI 1))], [.int (zI 1)], es1)) i_193_11 rfl ?_
      refine x_ret (v := some (.int (zI 1))) i_193_15 rfl (fun _ => rfl) rfl rfl (pFin_b (by omega)) ?_
      show aW _ _ _ _ _ _ (12, [some (.ref 143), some (.int (zI sd)), some (.int (zI i))], [.int (zI 1), .ref 143], es1)
      refine x_ifF i_216_12 (by unfold i32 iLO iHI; omega) rfl (by simp only [zC, cR]; omega) ?_
      refine x0 (r := (16, [some (.ref 143), some (.int (zI sd)), some (.int (zI i))], [.int (zI i), .ref 143], es1)) i_216_15 rfl ?_
      refine x0 (r := (17, [some (.ref 143), some (.int (zI sd)), some (.int (zI i))], [.int (zI (-1)), .int (zI i), .ref 143], es1)) i_216_16 (by rfl) ?_
      by_cases c6 : (-1) ≤ i
      · refine x_cmpT i_216_17 (by unfold i32 iLO iHI; omega) (by unfold i32 iLO iHI; omega) rfl (by simp only [zC, cR]; omega) ?_
        refine x0 (r := (25, [some (.ref 143), some (.int (zI sd)), some (.int (zI i))], [.int (zI 0), .ref 143], es1)) i_216_24 (by rfl) ?_
        refine x0 (r := (26, [some (.ref 143), some (.int (zI sd)), some (.int (zI i))], [.int (zI 1), .int (zI 0), .ref 143], es1)) i_216_25 (by rfl) ?_
        refine x_call (vs := [.ref 143, .int (zI 0), .int (zI 1)]) (rs := []) i_216_26 rfl (fun _ => rfl) rfl rfl rfl rfl rfl (pCall_v (p := 79) hs_es1 rfl rfl rfl rfl rfl (by decide) rfl rfl rfl rfl rfl) ?_
        show aW _ _ _ _ _ _ (0, [some (.ref 143), some (.int (zI 0)), some (.int (zI 1))], [], es1)
        refine x0 (r := (1, [some (.ref 143), some (.int (zI 0)), some (.int (zI 1))], [.int (zI 0)], es1)) i_194_0 rfl ?_
        refine x_ifT i_194_1 (by unfold i32 iLO iHI; omega) rfl (by simp only [zC, cR]; omega) ?_
        refine x0 (r := (10, [some (.ref 143), some (.int (zI 0)), some (.int (zI 1))], [.int (zI 0)], es1)) i_194_9 rfl ?_
        refine x_ret (v := some (.int (zI 0))) i_194_10 rfl (fun _ => rfl) rfl rfl (pFin_b (by omega)) ?_
        show aW _ _ _ _ _ _ (29, [some (.ref 143), some (.int (zI sd)), some (.int (zI i))], [.int (zI 0)], es1)
        refine x_ifT i_216_29 (by unfold i32 iLO iHI; omega) rfl (by simp only [zC, cR]; omega) ?_
        refine x0 (r := (35, [some (.ref 143), some (.int (zI sd)), some (.int (zI i))], [.ref 143], es1)) i_216_34 rfl ?_
        exact K3 es1 e_es1 c2 c4 c6
      · refine x_cmpF i_216_17 (by unfold i32 iLO iHI; omega) (by unfold i32 iLO iHI; omega) rfl (by simp only [zC, cR]; omega) ?_
        refine x0 (r := (21, [some (.ref 143), some (.int (zI sd)), some (.int (zI i))], [.int (zI 1), .ref 143], es1)) i_216_20 (by rfl) ?_
        refine x0 (r := (25, [some (.ref 143), some (.int (zI sd)), some (.int (zI i))], [.int (zI 1), .ref 143], es1)) i_216_21 rfl ?_
        refine x0 (r := (26, [some (.ref 143), some (.int (zI sd)), some (.int (zI i))], [.int (zI 1), .int (zI 1), .ref 143], es1)) i_216_25 (by rfl) ?_
        refine x_call (vs := [.ref 143, .int (zI 1), .int (zI 1)]) (rs := []) i_216_26 rfl (fun _ => rfl) rfl rfl rfl rfl rfl (pCall_v (p := 79) hs_es1 rfl rfl rfl rfl rfl (by decide) rfl rfl rfl rfl rfl) ?_
        show aW _ _ _ _ _ _ (0, [some (.ref 143), some (.int (zI 1)), some (.int (zI 1))], [], es1)
        refine x0 (r := (1, [some (.ref 143), some (.int (zI 1)), some (.int (zI 1))], [.int (zI 1)], es1)) i_194_0 rfl ?_
        refine x_ifF i_194_1 (by unfold i32 iLO iHI; omega) rfl (by simp only [zC, cR]; omega) ?_
        refine x0 (r := (5, [some (.ref 143), some (.int (zI 1)), some (.int (zI 1))], [.ref 143], es1)) i_194_4 rfl ?_
        refine x0 (r := (6, [some (.ref 143), some (.int (zI 1)), some (.int (zI 1))], [.int (zI 1), .ref 143], es1)) i_194_5 rfl ?_
        refine x_puti (p := 79) (ty := .int) i_194_6 hs_es1 rfl rfl rfl (Or.inl rfl) ?_
        obtain ⟨es7, e_es7⟩ : ∃ z : PH, z = sI es1 79 0 (.int (zI 1)) := ⟨_, rfl⟩
        have hs_es7 : sh es7 := by rw [e_es7]; exact sh_sI hs_es1 (p := 79) (b := 0) rfl rfl
        have hT_es7 : hOK tT es7 := by rw [e_es7]; exact hOK_sI hT_es1 (p := 79) (b := 0) (lo := iLO) (hi := iHI) rfl rfl (i32_rng _)
        rw [← e_es7]
        refine x0 (r := (10, [some (.ref 143), some (.int (zI 1)), some (.int (zI 1))], [.int (zI 1)], es7)) i_194_9 rfl ?_
        refine x_ret (v := some (.int (zI 1))) i_194_10 rfl (fun _ => rfl) rfl rfl (pFin_b (by omega)) ?_
        show aW _ _ _ _ _ _ (29, [some (.ref 143), some (.int (zI sd)), some (.int (zI i))], [.int (zI 1)], es7)
        refine x_ifF i_216_29 (by unfold i32 iLO iHI; omega) rfl (by simp only [zC, cR]; omega) ?_
        refine x0 (r := (33, [some (.ref 143), some (.int (zI sd)), some (.int (zI i))], [.int (zI 0)], es7)) i_216_32 (by rfl) ?_
        refine x_ret (v := some (.int (zI 0))) i_216_33 rfl (fun _ => rfl) rfl rfl rfl ?_
        exact K4 es1 e_es1 c2 c4 c6 es7 e_es7
theorem s_mmv38 {O : pOut} {d kc ks : Nat} {Q : pRes → Prop} {es : PH} {sd i : Int} (hs_es : sh es)
    (K1 : aW O d 216 kc ks Q (41, [some (.ref 143), some (.int (zI sd)), some (.int (zI i))], [.int (zI sd), .int (zI 0), .ref 143], es)) :
    aW O d 216 kc ks Q (38, [some (.ref 143), some (.int (zI sd)), some (.int (zI i))], [], es) := by
  refine x0 (r := (39, [some (.ref 143), some (.int (zI sd)), some (.int (zI i))], [.ref 143], es)) i_216_38 rfl ?_
  refine x0 (r := (40, [some (.ref 143), some (.int (zI sd)), some (.int (zI i))], [.int (zI 0), .ref 143], es)) i_216_39 (by rfl) ?_
  refine x0 (r := (41, [some (.ref 143), some (.int (zI sd)), some (.int (zI i))], [.int (zI sd), .int (zI 0), .ref 143], es)) i_216_40 rfl ?_
  exact K1
theorem s_mmv44 {O : pOut} {d kc ks : Nat} {Q : pRes → Prop} {es : PH} {sd i : Int} (hs_es : sh es) (h_i : -2147483648 ≤ i ∧ i ≤ 2147483647)
    (K1 : 0 ≤ i → aW O d 216 kc ks Q (59, [some (.ref 143), some (.int (zI sd)), some (.int (zI i))], [.int (zI i), .int (zI 0), .ref 143], es))
    (K2 : ¬ (0 ≤ i) → aW O d 216 kc ks Q (50, [some (.ref 143), some (.int (zI sd)), some (.int (zI i))], [.int (zI 0), .ref 143], es)) :
    aW O d 216 kc ks Q (44, [some (.ref 143), some (.int (zI sd)), some (.int (zI i))], [], es) := by
  refine x0 (r := (45, [some (.ref 143), some (.int (zI sd)), some (.int (zI i))], [.int (zI i)], es)) i_216_44 rfl ?_
  by_cases c1 : 0 ≤ i
  · refine x_ifT i_216_45 (by unfold i32 iLO iHI; omega) rfl (by simp only [zC, cR]; omega) ?_
    refine x0 (r := (57, [some (.ref 143), some (.int (zI sd)), some (.int (zI i))], [.ref 143], es)) i_216_56 rfl ?_
    refine x0 (r := (58, [some (.ref 143), some (.int (zI sd)), some (.int (zI i))], [.int (zI 0), .ref 143], es)) i_216_57 (by rfl) ?_
    refine x0 (r := (59, [some (.ref 143), some (.int (zI sd)), some (.int (zI i))], [.int (zI i), .int (zI 0), .ref 143], es)) i_216_58 rfl ?_
    exact K1 c1
  · refine x_ifF i_216_45 (by unfold i32 iLO iHI; omega) rfl (by simp only [zC, cR]; omega) ?_
    refine x0 (r := (49, [some (.ref 143), some (.int (zI sd)), some (.int (zI i))], [.ref 143], es)) i_216_48 rfl ?_
    refine x0 (r := (50, [some (.ref 143), some (.int (zI sd)), some (.int (zI i))], [.int (zI 0), .ref 143], es)) i_216_49 (by rfl) ?_
    exact K2 c1
theorem s_mmv53 {O : pOut} {d kc ks : Nat} {Q : pRes → Prop} {es : PH} {sd i v : Int} (hs_es : sh es)
    (K1 : Q (.inl (some (.int (zI v))), es, kc, ks)) :
    aW O d 216 kc ks Q (53, [some (.ref 143), some (.int (zI sd)), some (.int (zI i))], [.int (zI v)], es) := by
  refine x0 (r := (62, [some (.ref 143), some (.int (zI sd)), some (.int (zI i))], [.int (zI v)], es)) i_216_53 rfl ?_
  refine x_ret (v := some (.int (zI v))) i_216_62 rfl (fun _ => rfl) rfl rfl rfl ?_
  exact K1
theorem s_mmv62 {O : pOut} {d kc ks : Nat} {Q : pRes → Prop} {es : PH} {sd i v : Int} (hs_es : sh es)
    (K1 : Q (.inl (some (.int (zI v))), es, kc, ks)) :
    aW O d 216 kc ks Q (62, [some (.ref 143), some (.int (zI sd)), some (.int (zI i))], [.int (zI v)], es) := by
  refine x_ret (v := some (.int (zI v))) i_216_62 rfl (fun _ => rfl) rfl rfl rfl ?_
  exact K1
theorem s_xmv0 {O : pOut} {d kc ks : Nat} {Q : pRes → Prop} {es : PH} {sd i : Int} (hs_es : sh es) (h_sd : -2147483648 ≤ sd ∧ sd ≤ 2147483647) (h_i : -2147483648 ≤ i ∧ i ≤ 2147483647) (hT_es : hOK tT es)
    (K1 : sd = 0 → (-1) ≤ i → ∀ es3 : PH, es3 = sR es 30 (va_cpy (gA es 11) (gA es 30) 0 0 36) → i ≠ (-1) → aW O (d + 3) 107 kc ks Q (51, [some (.ref 64), some (.int (zI sd)), some (.int (zI i))], [.int (zI i), .int (zI sd), .ref 93], es3))
    (K2 : sd = 0 → (-1) ≤ i → ∀ es3 : PH, es3 = sR es 30 (va_cpy (gA es 11) (gA es 30) 0 0 36) → ¬ (i ≠ (-1)) → aW O (d + 3) 107 kc ks Q (39, [some (.ref 64), some (.int (zI sd)), some (.int (zI i))], [.int (zI sd), .ref 93], es3))
    (K3 : sd = 0 → ¬ ((-1) ≤ i) → Q (.inr 0, es, kc + 1, ks + 6))
    (K4 : ¬ (sd = 0) → sd ≠ 1 → Q (.inr 0, es, kc + 1, ks + 6))
    (K5 : ¬ (sd = 0) → ¬ (sd ≠ 1) → (-1) ≤ i → ∀ es7 : PH, es7 = sR es 30 (va_cpy (gA es 11) (gA es 30) 0 0 36) → i ≠ (-1) → aW O (d + 3) 107 kc ks Q (51, [some (.ref 64), some (.int (zI sd)), some (.int (zI i))], [.int (zI i), .int (zI sd), .ref 93], es7))
    (K6 : ¬ (sd = 0) → ¬ (sd ≠ 1) → (-1) ≤ i → ∀ es7 : PH, es7 = sR es 30 (va_cpy (gA es 11) (gA es 30) 0 0 36) → ¬ (i ≠ (-1)) → aW O (d + 3) 107 kc ks Q (39, [some (.ref 64), some (.int (zI sd)), some (.int (zI i))], [.int (zI sd), .ref 93], es7))
    (K7 : ¬ (sd = 0) → ¬ (sd ≠ 1) → ¬ ((-1) ≤ i) → Q (.inr 0, es, kc + 1, ks + 6)) :
    aW O (d + 3) 107 kc ks Q (0, [some (.ref 64), some (.int (zI sd)), some (.int (zI i))], [], es) := by
  refine x0 (r := (1, [some (.ref 64), some (.int (zI sd)), some (.int (zI i))], [.int (zI sd)], es)) i_107_0 rfl ?_
  refine x_call (vs := [.int (zI sd)]) (rs := []) i_107_1 rfl (fun _ => rfl) rfl rfl rfl rfl rfl rfl ?_
  show aW _ _ _ _ _ _ (0, [some (.int (zI sd))], [], es)
  refine x0 (r := (1, [some (.int (zI sd))], [.int (zI sd)], es)) i_105_0 rfl ?_
  by_cases c1 : sd = 0
  · refine x_ifT i_105_1 (by unfold i32 iLO iHI; omega) rfl (by simp only [zC, cR]; omega) ?_
    refine x0 (r := (10, [some (.int (zI sd))], [.int (zI 1)], es)) i_105_9 (by rfl) ?_
    refine x0 (r := (14, [some (.int (zI sd))], [.int (zI 1)], es)) i_105_10 rfl ?_
    refine x_ret (v := some (.int (zI 1))) i_105_14 rfl (fun _ => rfl) rfl rfl (pFin_b (by omega)) ?_
    show aW _ _ _ _ _ _ (4, [some (.ref 64), some (.int (zI sd)), some (.int (zI i))], [.int (zI 1)], es)
    refine x_ifF i_107_4 (by unfold i32 iLO iHI; omega) rfl (by simp only [zC, cR]; omega) ?_
    refine x0 (r := (8, [some (.ref 64), some (.int (zI sd)), some (.int (zI i))], [.int (zI i)], es)) i_107_7 rfl ?_
    refine x0 (r := (9, [some (.ref 64), some (.int (zI sd)), some (.int (zI i))], [.int (zI (-1)), .int (zI i)], es)) i_107_8 (by rfl) ?_
    by_cases c2 : (-1) ≤ i
    · refine x_cmpT i_107_9 (by unfold i32 iLO iHI; omega) (by unfold i32 iLO iHI; omega) rfl (by simp only [zC, cR]; omega) ?_
      refine x0 (r := (23, [some (.ref 64), some (.int (zI sd)), some (.int (zI i))], [.ref 64], es)) i_107_22 rfl ?_
      refine x_getr (p := 0) (k := 93) i_107_23 hs_es rfl rfl ?_
      show aW _ _ _ _ _ _ (26, [some (.ref 64), some (.int (zI sd)), some (.int (zI i))], [.ref 93], es)
      refine x_call (vs := [.ref 93]) (rs := []) i_107_26 rfl (fun _ => rfl) rfl rfl rfl rfl rfl (pCall_v (p := 29) hs_es rfl rfl rfl rfl rfl (by decide) rfl rfl rfl rfl rfl) ?_
      show aW _ _ _ _ _ _ (0, [some (.ref 93)], [], es)
      refine x0 (r := (1, [some (.ref 93)], [.ref 93], es)) i_24_0 rfl ?_
      refine x_getr (p := 29) (k := 71) i_24_1 hs_es rfl rfl ?_
      show aW _ _ _ _ _ _ (4, [some (.ref 93)], [.ref 71], es)
      refine x_getr (p := 7) (k := 75) i_24_4 hs_es rfl rfl ?_
      show aW _ _ _ _ _ _ (7, [some (.ref 93)], [.ref 75], es)
      refine x0 (r := (8, [some (.ref 93)], [.ref 93, .ref 75], es)) i_24_7 rfl ?_
      refine x_getr (p := 29) (k := 94) i_24_8 hs_es rfl rfl ?_
      show aW _ _ _ _ _ _ (11, [some (.ref 93)], [.ref 94, .ref 75], es)
      refine x_call (vs := [.ref 75, .ref 94]) (rs := []) i_24_11 rfl (fun _ => rfl) rfl rfl rfl rfl rfl rfl ?_
      show aW _ _ _ _ _ _ (0, [some (.ref 75), some (.ref 94)], [], es)
      refine x0 (r := (1, [some (.ref 75), some (.ref 94)], [.ref 75], es)) i_20_0 rfl ?_
      refine x0 (r := (2, [some (.ref 75), some (.ref 94)], [.int (zI 0), .ref 75], es)) i_20_1 (by rfl) ?_
      refine x0 (r := (3, [some (.ref 75), some (.ref 94)], [.ref 94, .int (zI 0), .ref 75], es)) i_20_2 rfl ?_
      refine x0 (r := (4, [some (.ref 75), some (.ref 94)], [.int (zI 0), .ref 94, .int (zI 0), .ref 75], es)) i_20_3 (by rfl) ?_
      refine x0 (r := (5, [some (.ref 75), some (.ref 94)], [.ref 75, .int (zI 0), .ref 94, .int (zI 0), .ref 75], es)) i_20_4 rfl ?_
      refine x_alen (p := 11) (n := 36) i_20_5 hs_es rfl ?_
      refine x0 (r := (7, [some (.ref 75), some (.ref 94)], [.ref 94, .int (zI 36), .int (zI 0), .ref 94, .int (zI 0), .ref 75], es)) i_20_6 rfl ?_
      refine x_alen (p := 30) (n := 36) i_20_7 hs_es rfl ?_
      refine x_min i_20_8 (by unfold i32 iLO iHI; omega) (by unfold i32 iLO iHI; omega) (Nat.le_of_ble_eq_true rfl) ?_
      show aW _ _ _ _ _ _ (11, [some (.ref 75), some (.ref 94)], [.int (zI 36), .int (zI 0), .ref 94, .int (zI 0), .ref 75], es)
      refine x_acp (p := 11) (p2 := 30) (n := 36) i_20_11 hs_es rfl rfl (by decide) (Nat.le_of_ble_eq_true rfl) ?_
      obtain ⟨es3, e_es3⟩ : ∃ z : PH, z = sR es 30 (va_cpy (gA es 11) (gA es 30) 0 0 36) := ⟨_, rfl⟩
      have hs_es3 : sh es3 := by rw [e_es3]; exact sh_sR hs_es
      rw [← e_es3]
      refine x_ret (v := none) i_20_14 rfl (fun _ => rfl) rfl rfl rfl ?_
      show aW _ _ _ _ _ _ (14, [some (.ref 93)], [], es3)
      refine x_ret (v := none) i_24_14 rfl (fun _ => rfl) rfl rfl rfl ?_
      show aW _ _ _ _ _ _ (29, [some (.ref 64), some (.int (zI sd)), some (.int (zI i))], [], es3)
      refine x0 (r := (30, [some (.ref 64), some (.int (zI sd)), some (.int (zI i))], [.int (zI i)], es3)) i_107_29 rfl ?_
      refine x0 (r := (31, [some (.ref 64), some (.int (zI sd)), some (.int (zI i))], [.int (zI (-1)), .int (zI i)], es3)) i_107_30 (by rfl) ?_
      by_cases c4 : i ≠ (-1)
      · refine x_cmpT i_107_31 (by unfold i32 iLO iHI; omega) (by unfold i32 iLO iHI; omega) rfl (by simp only [zC, cR]; omega) ?_
        refine x0 (r := (46, [some (.ref 64), some (.int (zI sd)), some (.int (zI i))], [.ref 64], es3)) i_107_45 rfl ?_
        refine x_getr (p := 0) (k := 93) i_107_46 hs_es3 rfl rfl ?_
        show aW _ _ _ _ _ _ (49, [some (.ref 64), some (.int (zI sd)), some (.int (zI i))], [.ref 93], es3)
        refine x0 (r := (50, [some (.ref 64), some (.int (zI sd)), some (.int (zI i))], [.int (zI sd), .ref 93], es3)) i_107_49 rfl ?_
        refine x0 (r := (51, [some (.ref 64), some (.int (zI sd)), some (.int (zI i))], [.int (zI i), .int (zI sd), .ref 93], es3)) i_107_50 rfl ?_
        exact K1 c1 c2 es3 e_es3 c4
      · refine x_cmpF i_107_31 (by unfold i32 iLO iHI; omega) (by unfold i32 iLO iHI; omega) rfl (by simp only [zC, cR]; omega) ?_
        refine x0 (r := (35, [some (.ref 64), some (.int (zI sd)), some (.int (zI i))], [.ref 64], es3)) i_107_34 rfl ?_
        refine x_getr (p := 0) (k := 93) i_107_35 hs_es3 rfl rfl ?_
        show aW _ _ _ _ _ _ (38, [some (.ref 64), some (.int (zI sd)), some (.int (zI i))], [.ref 93], es3)
        refine x0 (r := (39, [some (.ref 64), some (.int (zI sd)), some (.int (zI i))], [.int (zI sd), .ref 93], es3)) i_107_38 rfl ?_
        exact K2 c1 c2 es3 e_es3 c4
    · refine x_cmpF i_107_9 (by unfold i32 iLO iHI; omega) (by unfold i32 iLO iHI; omega) rfl (by simp only [zC, cR]; omega) ?_
      refine x_thr i_107_12 rfl (fun _ => rfl) rfl rfl rfl rfl ?_
      exact K3 c1 c2
  · refine x_ifF i_105_1 (by unfold i32 iLO iHI; omega) rfl (by simp only [zC, cR]; omega) ?_
    refine x0 (r := (5, [some (.int (zI sd))], [.int (zI sd)], es)) i_105_4 rfl ?_
    refine x0 (r := (6, [some (.int (zI sd))], [.int (zI 1), .int (zI sd)], es)) i_105_5 (by rfl) ?_
    by_cases c5 : sd ≠ 1
    · refine x_cmpT i_105_6 (by unfold i32 iLO iHI; omega) (by unfold i32 iLO iHI; omega) rfl (by simp only [zC, cR]; omega) ?_
      refine x0 (r := (14, [some (.int (zI sd))], [.int (zI 0)], es)) i_105_13 (by rfl) ?_
      refine x_ret (v := some (.int (zI 0))) i_105_14 rfl (fun _ => rfl) rfl rfl (pFin_b (by omega)) ?_
      show aW _ _ _ _ _ _ (4, [some (.ref 64), some (.int (zI sd)), some (.int (zI i))], [.int (zI 0)], es)
      refine x_ifT i_107_4 (by unfold i32 iLO iHI; omega) rfl (by simp only [zC, cR]; omega) ?_
      refine x_thr i_107_12 rfl (fun _ => rfl) rfl rfl rfl rfl ?_
      exact K4 c1 c5
    · refine x_cmpF i_105_6 (by unfold i32 iLO iHI; omega) (by unfold i32 iLO iHI; omega) rfl (by simp only [zC, cR]; omega) ?_
      refine x0 (r := (10, [some (.int (zI sd))], [.int (zI 1)], es)) i_105_9 (by rfl) ?_
      refine x0 (r := (14, [some (.int (zI sd))], [.int (zI 1)], es)) i_105_10 rfl ?_
      refine x_ret (v := some (.int (zI 1))) i_105_14 rfl (fun _ => rfl) rfl rfl (pFin_b (by omega)) ?_
      show aW _ _ _ _ _ _ (4, [some (.ref 64), some (.int (zI sd)), some (.int (zI i))], [.int (zI 1)], es)
      refine x_ifF i_107_4 (by unfold i32 iLO iHI; omega) rfl (by simp only [zC, cR]; omega) ?_
      refine x0 (r := (8, [some (.ref 64), some (.int (zI sd)), some (.int (zI i))], [.int (zI i)], es)) i_107_7 rfl ?_
      refine x0 (r := (9, [some (.ref 64), some (.int (zI sd)), some (.int (zI i))], [.int (zI (-1)), .int (zI i)], es)) i_107_8 (by rfl) ?_
      by_cases c6 : (-1) ≤ i
      · refine x_cmpT i_107_9 (by unfold i32 iLO iHI; omega) (by unfold i32 iLO iHI; omega) rfl (by simp only [zC, cR]; omega) ?_
        refine x0 (r := (23, [some (.ref 64), some (.int (zI sd)), some (.int (zI i))], [.ref 64], es)) i_107_22 rfl ?_
        refine x_getr (p := 0) (k := 93) i_107_23 hs_es rfl rfl ?_
        show aW _ _ _ _ _ _ (26, [some (.ref 64), some (.int (zI sd)), some (.int (zI i))], [.ref 93], es)
        refine x_call (vs := [.ref 93]) (rs := []) i_107_26 rfl (fun _ => rfl) rfl rfl rfl rfl rfl (pCall_v (p := 29) hs_es rfl rfl rfl rfl rfl (by decide) rfl rfl rfl rfl rfl) ?_
        show aW _ _ _ _ _ _ (0, [some (.ref 93)], [], es)
        refine x0 (r := (1, [some (.ref 93)], [.ref 93], es)) i_24_0 rfl ?_
        refine x_getr (p := 29) (k := 71) i_24_1 hs_es rfl rfl ?_
        show aW _ _ _ _ _ _ (4, [some (.ref 93)], [.ref 71], es)
        refine x_getr (p := 7) (k := 75) i_24_4 hs_es rfl rfl ?_
        show aW _ _ _ _ _ _ (7, [some (.ref 93)], [.ref 75], es)
        refine x0 (r := (8, [some (.ref 93)], [.ref 93, .ref 75], es)) i_24_7 rfl ?_
        refine x_getr (p := 29) (k := 94) i_24_8 hs_es rfl rfl ?_
        show aW _ _ _ _ _ _ (11, [some (.ref 93)], [.ref 94, .ref 75], es)
        refine x_call (vs := [.ref 75, .ref 94]) (rs := []) i_24_11 rfl (fun _ => rfl) rfl rfl rfl rfl rfl rfl ?_
        show aW _ _ _ _ _ _ (0, [some (.ref 75), some (.ref 94)], [], es)
        refine x0 (r := (1, [some (.ref 75), some (.ref 94)], [.ref 75], es)) i_20_0 rfl ?_
        refine x0 (r := (2, [some (.ref 75), some (.ref 94)], [.int (zI 0), .ref 75], es)) i_20_1 (by rfl) ?_
        refine x0 (r := (3, [some (.ref 75), some (.ref 94)], [.ref 94, .int (zI 0), .ref 75], es)) i_20_2 rfl ?_
        refine x0 (r := (4, [some (.ref 75), some (.ref 94)], [.int (zI 0), .ref 94, .int (zI 0), .ref 75], es)) i_20_3 (by rfl) ?_
        refine x0 (r := (5, [some (.ref 75), some (.ref 94)], [.ref 75, .int (zI 0), .ref 94, .int (zI 0), .ref 75], es)) i_20_4 rfl ?_
        refine x_alen (p := 11) (n := 36) i_20_5 hs_es rfl ?_
        refine x0 (r := (7, [some (.ref 75), some (.ref 94)], [.ref 94, .int (zI 36), .int (zI 0), .ref 94, .int (zI 0), .ref 75], es)) i_20_6 rfl ?_
        refine x_alen (p := 30) (n := 36) i_20_7 hs_es rfl ?_
        refine x_min i_20_8 (by unfold i32 iLO iHI; omega) (by unfold i32 iLO iHI; omega) (Nat.le_of_ble_eq_true rfl) ?_
        show aW _ _ _ _ _ _ (11, [some (.ref 75), some (.ref 94)], [.int (zI 36), .int (zI 0), .ref 94, .int (zI 0), .ref 75], es)
        refine x_acp (p := 11) (p2 := 30) (n := 36) i_20_11 hs_es rfl rfl (by decide) (Nat.le_of_ble_eq_true rfl) ?_
        obtain ⟨es7, e_es7⟩ : ∃ z : PH, z = sR es 30 (va_cpy (gA es 11) (gA es 30) 0 0 36) := ⟨_, rfl⟩
        have hs_es7 : sh es7 := by rw [e_es7]; exact sh_sR hs_es
        rw [← e_es7]
        refine x_ret (v := none) i_20_14 rfl (fun _ => rfl) rfl rfl rfl ?_
        show aW _ _ _ _ _ _ (14, [some (.ref 93)], [], es7)
        refine x_ret (v := none) i_24_14 rfl (fun _ => rfl) rfl rfl rfl ?_
        show aW _ _ _ _ _ _ (29, [some (.ref 64), some (.int (zI sd)), some (.int (zI i))], [], es7)
        refine x0 (r := (30, [some (.ref 64), some (.int (zI sd)), some (.int (zI i))], [.int (zI i)], es7)) i_107_29 rfl ?_
        refine x0 (r := (31, [some (.ref 64), some (.int (zI sd)), some (.int (zI i))], [.int (zI (-1)), .int (zI i)], es7)) i_107_30 (by rfl) ?_
        by_cases c8 : i ≠ (-1)
        · refine x_cmpT i_107_31 (by unfold i32 iLO iHI; omega) (by unfold i32 iLO iHI; omega) rfl (by simp only [zC, cR]; omega) ?_
          refine x0 (r := (46, [some (.ref 64), some (.int (zI sd)), some (.int (zI i))], [.ref 64], es7)) i_107_45 rfl ?_
          refine x_getr (p := 0) (k := 93) i_107_46 hs_es7 rfl rfl ?_
          show aW _ _ _ _ _ _ (49, [some (.ref 64), some (.int (zI sd)), some (.int (zI i))], [.ref 93], es7)
          refine x0 (r := (50, [some (.ref 64), some (.int (zI sd)), some (.int (zI i))], [.int (zI sd), .ref 93], es7)) i_107_49 rfl ?_
          refine x0 (r := (51, [some (.ref 64), some (.int (zI sd)), some (.int (zI i))], [.int (zI i), .int (zI sd), .ref 93], es7)) i_107_50 rfl ?_
          exact K5 c1 c5 c6 es7 e_es7 c8
        · refine x_cmpF i_107_31 (by unfold i32 iLO iHI; omega) (by unfold i32 iLO iHI; omega) rfl (by simp only [zC, cR]; omega) ?_
          refine x0 (r := (35, [some (.ref 64), some (.int (zI sd)), some (.int (zI i))], [.ref 64], es7)) i_107_34 rfl ?_
          refine x_getr (p := 0) (k := 93) i_107_35 hs_es7 rfl rfl ?_
          show aW _ _ _ _ _ _ (38, [some (.ref 64), some (.int (zI sd)), some (.int (zI i))], [.ref 93], es7)
          refine x0 (r := (39, [some (.ref 64), some (.int (zI sd)), some (.int (zI i))], [.int (zI sd), .ref 93], es7)) i_107_38 rfl ?_
          exact K6 c1 c5 c6 es7 e_es7 c8
      · refine x_cmpF i_107_9 (by unfold i32 iLO iHI; omega) (by unfold i32 iLO iHI; omega) rfl (by simp only [zC, cR]; omega) ?_
        refine x_thr i_107_12 rfl (fun _ => rfl) rfl rfl rfl rfl ?_
        exact K7 c1 c5 c6
theorem s_xmv42 {O : pOut} {d kc ks : Nat} {Q : pRes → Prop} {es : PH} {sd i v : Int} (hs_es : sh es)
    (K1 : Q (.inl (some (.int (zI v))), es, kc, ks)) :
    aW O d 107 kc ks Q (42, [some (.ref 64), some (.int (zI sd)), some (.int (zI i))], [.int (zI v)], es) := by
  refine x0 (r := (54, [some (.ref 64), some (.int (zI sd)), some (.int (zI i))], [.int (zI v)], es)) i_107_42 rfl ?_
  refine x_ret (v := some (.int (zI v))) i_107_54 rfl (fun _ => rfl) rfl rfl rfl ?_
  exact K1
theorem s_xmv54 {O : pOut} {d kc ks : Nat} {Q : pRes → Prop} {es : PH} {sd i v : Int} (hs_es : sh es)
    (K1 : Q (.inl (some (.int (zI v))), es, kc, ks)) :
    aW O d 107 kc ks Q (54, [some (.ref 64), some (.int (zI sd)), some (.int (zI i))], [.int (zI v)], es) := by
  refine x_ret (v := some (.int (zI v))) i_107_54 rfl (fun _ => rfl) rfl rfl rfl ?_
  exact K1
theorem s_ymv0 {O : pOut} {d kc ks : Nat} {Q : pRes → Prop} {es : PH} {sd i : Int} (hs_es : sh es)
    (K1 : aW O d 280 kc ks Q (5, [some (.ref 64), some (.int (zI sd)), some (.int (zI i)), some (.ref 171), none], [.int (zI i), .int (zI sd), .ref 64, .int (zI 0), .ref 171], es)) :
    aW O d 280 kc ks Q (0, [some (.ref 64), some (.int (zI sd)), some (.int (zI i)), some (.ref 171), none], [], es) := by
  refine x0 (r := (1, [some (.ref 64), some (.int (zI sd)), some (.int (zI i)), some (.ref 171), none], [.ref 171], es)) i_280_0 rfl ?_
  refine x0 (r := (2, [some (.ref 64), some (.int (zI sd)), some (.int (zI i)), some (.ref 171), none], [.int (zI 0), .ref 171], es)) i_280_1 (by rfl) ?_
  refine x0 (r := (3, [some (.ref 64), some (.int (zI sd)), some (.int (zI i)), some (.ref 171), none], [.ref 64, .int (zI 0), .ref 171], es)) i_280_2 rfl ?_
  refine x0 (r := (4, [some (.ref 64), some (.int (zI sd)), some (.int (zI i)), some (.ref 171), none], [.int (zI sd), .ref 64, .int (zI 0), .ref 171], es)) i_280_3 rfl ?_
  refine x0 (r := (5, [some (.ref 64), some (.int (zI sd)), some (.int (zI i)), some (.ref 171), none], [.int (zI i), .int (zI sd), .ref 64, .int (zI 0), .ref 171], es)) i_280_4 rfl ?_
  exact K1
theorem s_ymv8 {O : pOut} {d kc ks : Nat} {Q : pRes → Prop} {es : PH} {sd i v : Int} (hs_es : sh es)
    (K1 : ∀ es1 : PH, es1 = sJ es 107 (Int.toNat 0) ((zI v).toInt64) → Q (.inl (some (.int (zI 0))), es1, kc, ks)) :
    aW O d 280 kc ks Q (8, [some (.ref 64), some (.int (zI sd)), some (.int (zI i)), some (.ref 171), none], [.int (zI v), .int (zI 0), .ref 171], es) := by
  refine x0 (r := (9, [some (.ref 64), some (.int (zI sd)), some (.int (zI i)), some (.ref 171), none], [.long ((zI v).toInt64), .int (zI 0), .ref 171], es)) i_280_8 rfl ?_
  refine x_last (p := 107) i_280_9 hs_es rfl (by unfold i32 iLO iHI; omega) (by omega) (by omega) ?_
  obtain ⟨es1, e_es1⟩ : ∃ z : PH, z = sJ es 107 (Int.toNat 0) ((zI v).toInt64) := ⟨_, rfl⟩
  have hs_es1 : sh es1 := by rw [e_es1]; exact sh_sJ hs_es
  rw [← e_es1]
  refine x0 (r := (17, [some (.ref 64), some (.int (zI sd)), some (.int (zI i)), some (.ref 171), none], [], es1)) i_280_10 rfl ?_
  refine x0 (r := (18, [some (.ref 64), some (.int (zI sd)), some (.int (zI i)), some (.ref 171), none], [.int (zI 0)], es1)) i_280_17 (by rfl) ?_
  refine x_ret (v := some (.int (zI 0))) i_280_18 rfl (fun _ => rfl) rfl rfl rfl ?_
  exact K1 es1 e_es1
theorem s_ymv15 {O : pOut} {d kc ks : Nat} {Q : pRes → Prop} {es : PH} {sd i : Int} (hs_es : sh es)
    (K1 : Q (.inl (some (.int (zI 1))), es, kc, ks)) :
    aW O d 280 kc ks Q (15, [some (.ref 64), some (.int (zI sd)), some (.int (zI i)), some (.ref 171), none], [], es) := by
  refine x0 (r := (16, [some (.ref 64), some (.int (zI sd)), some (.int (zI i)), some (.ref 171), none], [.int (zI 1)], es)) i_280_15 (by rfl) ?_
  refine x_ret (v := some (.int (zI 1))) i_280_16 rfl (fun _ => rfl) rfl rfl rfl ?_
  exact K1
/-! moves of the reference: how many, the i-th -/
/-- what moves answers -/
def zMoV (B : Nat → Int) (K : Nat → Nat × (Nat → Int × Nat)) (sd i : Int) : Int := if i < 0 then zCnt (zMv B K sd) 1296 0 else zNth (zMv B K sd) 1296 0 i
theorem zMoV_r {B : Nat → Int} {K : Nat → Nat × (Nat → Int × Nat)} {sd i : Int} : i32 (zMoV B K sd i) := by
  unfold zMoV i32 iLO iHI
  have h := zCnt_nn (P := zMv B K sd) 1296 0
  by_cases h0 : i < 0
  · rw [if_pos h0]; omega
  · rw [if_neg h0]
    by_cases h1 : i < zCnt (zMv B K sd) 1296 0
    · have := zNth_bd (P := zMv B K sd) 1296 0 i (by omega) h1
      omega
    · rw [zNth_no 1296 0 i (by omega) (by omega)]
      omega
theorem zCnt_r {P : Nat → Bool} {c a : Nat} : zCnt P (c + 1) a = zCnt P c a + (if P (a + c) = true then 1 else 0) := by
  rw [zCnt_add]
  show _ + ((if P (a + c) = true then 1 else 0) + 0) = _
  omega
section
variable {O : pOut} {d kc ks : Nat} {Q : pRes → Prop} {es : PH} {P : Nat → Bool}
theorem mnR_loop (hs : sh es) (hc : ∀ c, c < 1296 → (gA es 88 c).toInt = if P c = true then 1 else 0) (K : Q (.inl (some (.int (zI (zCnt P 1296 0)))), es, kc, ks)) : ∀ (m c : Nat), c + m = 1296 → aW O d 227 kc ks Q (4, [some (.ref 143), some (.int (zI 0)), some (.int (zI (zCnt P c 0))), some (.int (zI (c : Int)))], [], es) := by
  intro m
  induction m with
  | zero =>
    intro c hcm
    have hn := zCnt_nn (P := P) c 0
    rw [Nat.add_zero] at hcm
    subst hcm
    exact s_many4 (dp := 0) (n := zCnt P 1296 0) (c := ((1296 : Nat) : Int)) hs ⟨by omega, by omega⟩ ⟨by omega, by omega⟩ ⟨by omega, by omega⟩ (fun _ => K) (fun h => absurd (by omega) h) (fun h => absurd (by omega) h)
  | succ m ih =>
    intro c hcm
    have hn := zCnt_nn (P := P) c 0
    have hv := hc c (by omega)
    have e1 : ((c + 1 : Nat) : Int) = (c : Int) + 1 := by omega
    have h9 := ih (c + 1) (by omega)
    rw [e1, zCnt_r, Nat.zero_add] at h9
    refine s_many4 (dp := 0) (n := zCnt P c 0) (c := (c : Int)) hs ⟨by omega, by omega⟩ ⟨by omega, by omega⟩ ⟨by omega, by omega⟩ (fun h => absurd h (by omega)) (fun _ v2 e2 h2 => ?_) (fun _ v2 e2 h2 => ?_)
    · rw [show ((1296 * (0 : Int)) + (c : Int)).toNat = c by omega, hv] at e2
      by_cases hp : P c = true
      · rw [if_pos hp] at e2; omega
      · rw [if_neg hp] at h9
        exact h9
    · rw [show ((1296 * (0 : Int)) + (c : Int)).toNat = c by omega, hv] at e2
      by_cases hp : P c = true
      · rw [if_pos hp] at h9
        exact h9
      · rw [if_neg hp] at e2; omega
theorem mvR_loop {i X : Int} (hs : sh es) (hc : ∀ c, c < 1296 → (gA es 88 c).toInt = if P c = true then 1 else 0) (K : Q (.inl (some (.int (zI X))), es, kc, ks)) : ∀ (m c : Nat) (le : Int), c + m = 1296 → 0 ≤ le → le ≤ 2147483647 → zNth P m c le = X → aW O d 228 kc ks Q (5, [some (.ref 143), some (.int (zI 0)), some (.int (zI i)), some (.int (zI le)), some (.int (zI (c : Int)))], [], es) := by
  intro m
  induction m with
  | zero =>
    intro c le hcm h0 h1 hx
    have hx' : (-1 : Int) = X := hx
    refine s_mva5 (dp := 0) (le := le) (c := (c : Int)) hs ⟨by omega, by omega⟩ ⟨by omega, by omega⟩ ⟨h0, h1⟩ (fun _ => by rw [hx']; exact K) (fun h => absurd (by omega) h) (fun h => absurd (by omega) h) (fun h => absurd (by omega) h)
  | succ m ih =>
    intro c le hcm h0 h1 hx
    have hv := hc c (by omega)
    have e1 : ((c + 1 : Nat) : Int) = (c : Int) + 1 := by omega
    have hx' : (if P c = true then (if le = 0 then (c : Int) else zNth P m (c + 1) (le - 1)) else zNth P m (c + 1) le) = X := hx
    refine s_mva5 (dp := 0) (le := le) (c := (c : Int)) hs ⟨by omega, by omega⟩ ⟨by omega, by omega⟩ ⟨h0, h1⟩ (fun h => absurd h (by omega)) (fun _ v2 e2 h2 h3 => ?_) (fun _ v2 e2 h2 h3 => ?_) (fun _ v2 e2 h2 => ?_)
    · rw [show ((1296 * (0 : Int)) + (c : Int)).toNat = c by omega, hv] at e2
      by_cases hp : P c = true
      · rw [if_pos hp, if_neg h3] at hx'
        have h9 := ih (c + 1) (le - 1) (by omega) (by omega) (by omega) hx'
        rw [e1] at h9
        exact h9
      · rw [if_neg hp] at e2; exact absurd e2 h2
    · rw [show ((1296 * (0 : Int)) + (c : Int)).toNat = c by omega, hv] at e2
      by_cases hp : P c = true
      · rw [if_pos hp, if_pos (by omega)] at hx'
        rw [hx']
        exact K
      · rw [if_neg hp] at e2; exact absurd e2 h2
    · rw [show ((1296 * (0 : Int)) + (c : Int)).toNat = c by omega, hv] at e2
      by_cases hp : P c = true
      · rw [if_pos hp] at e2; omega
      · rw [if_neg hp] at hx'
        have h9 := ih (c + 1) le (by omega) (by omega) (by omega) hx'
        rw [e1] at h9
        exact h9
end
def mmvP (B : Nat → Int) (K : Nat → Nat × (Nat → Int × Nat)) (sd i : Int) (r : Option Value ⊕ Nat) (es1 : PH) : Prop := sh es1 ∧ ∃ v : Int, r = .inl (some (.int (zI v))) ∧ i32 v ∧ (((gI es1 79 0).toInt = 1 ∧ (sd < 0 ∨ 1 < sd ∨ i < -1)) ∨ ((gI es1 79 0).toInt = 0 ∧ ((0 ≤ sd ∧ sd ≤ 1) ∧ -1 ≤ i) ∧ v = zMoV B K sd i))
section
variable {O : pOut} {d : Nat} {Q : pRes → Prop} {es : PH} {B : Nat → Int} {K : Nat → Nat × (Nat → Int × Nat)} {sd i : Int}
theorem fn_mmovesK (h_sd : i32 sd) (h_i : i32 i) (hT : hOK tT es) (hB : ∀ s, s < 36 → (gA es 80 (13 + s)).toInt = B s) (hB0 : ∀ s, 36 ≤ s → B s = 0) (hBr : rwB B) (hK : kdR K (gA es 80)) (KQ : ∀ r es1 kc ks, mmvP B K sd i r es1 → Q (r, es1, kc, ks)) : aW O (d + 6) 216 0 0 Q (0, [some (.ref 143), some (.int (zI sd)), some (.int (zI i))], [], es) := by
  have z1 : (zI 1).toInt = 1 := rfl
  have i0 : i32 0 := by unfold i32 iLO iHI; omega
  have hii := h_i
  unfold i32 iLO iHI at hii
  have bad : ∀ es1 es3 : PH, es1 = sI es 79 0 (.int (zI 0)) → es3 = sI es1 79 0 (.int (zI 1)) → (sd < 0 ∨ 1 < sd ∨ i < -1) → mmvP B K sd i (.inl (some (.int (zI 0)))) es3 := fun es1 es3 e1 e3 h => by
    have hT1 : hOK tT es1 := by rw [e1]; exact hOK_sI hT (p := 79) (b := 0) (lo := iLO) (hi := iHI) rfl rfl (i32_rng _)
    refine ⟨by rw [e3]; exact sh_sI (sh_of hT1) (p := 79) (b := 0) rfl rfl, 0, rfl, i0, Or.inl ⟨?_, h⟩⟩
    rw [e3, gI_sI (sh_of hT1) (p := 79) (b := 0) rfl (by decide)]
    exact z1
  refine s_mmv0 (d := d + 5) (sh_of hT) h_sd h_i hT (fun es1 e1 c1 es3 e3 => KQ _ _ _ _ (bad es1 es3 e1 e3 (by omega))) (fun es1 e1 c1 c2 es3 e3 => KQ _ _ _ _ (bad es1 es3 e1 e3 (by omega))) (fun es1 e1 c1 c2 c3 => ?_) (fun es1 e1 c1 c2 c3 es3 e3 => KQ _ _ _ _ (bad es1 es3 e1 e3 (by omega)))
  have hT1 : hOK tT es1 := by rw [e1]; exact hOK_sI hT (p := 79) (b := 0) (lo := iLO) (hi := iHI) rfl rfl (i32_rng _)
  have hsd : 0 ≤ sd ∧ sd ≤ 1 := ⟨by omega, by omega⟩
  refine x_call (vs := [.ref 143]) (rs := []) i_216_35 rfl (fun _ => rfl) rfl rfl rfl rfl rfl (pCall_v (p := 79) (sh_of hT1) rfl rfl rfl rfl rfl (by decide) rfl rfl rfl rfl rfl) ?_
  show aW _ _ _ _ _ _ (0, [some (.ref 143), none], [], es1)
  refine begins_spec (sh_of hT1) (fun es2 p2 => ?_)
  show aW _ _ _ _ _ _ (38, [some (.ref 143), some (.int (zI sd)), some (.int (zI i))], [], es2)
  have hT2 := p2.2.1 hT1
  have w2 : gA es2 80 = gA es 80 := by
    have e : gA es2 80 = gA es1 80 := by
      funext k
      rw [fr_gA p2.2.2.1 (sh_of hT1) (p := 80) (t := 0) (n := 2125) (sp := tS80) rfl (by decide)]
      unfold mIn
      simp
    rw [e, e1, gA_sI]
  have b2 : brow es2 0 = B := by
    funext s
    unfold brow
    by_cases hs : s < 36
    · rw [if_pos hs, show 36 * 0 + s = s by omega, p2.2.2.2 s hs, e1, gA_sI]
      exact hB s hs
    · rw [if_neg hs]
      exact (hB0 s (by omega)).symm
  refine s_mmv38 p2.1 ?_
  refine x_call (vs := [.ref 143, .int (zI 0), .int (zI sd)]) (rs := []) i_216_41 rfl (fun _ => rfl) rfl rfl rfl rfl rfl (pCall_v (p := 79) p2.1 rfl rfl rfl rfl rfl (by decide) rfl rfl rfl rfl rfl) ?_
  show aW _ _ _ _ _ _ (0, [some (.ref 143), some (.int (zI 0)), some (.int (zI sd)), none], [], es2)
  refine finds_spec (d := d) (dp := 0) (sd := sd) p2.1 ⟨by omega, by omega⟩ hsd hT2 (fun es3 p3 => ?_)
  show aW _ _ _ _ _ _ (44, [some (.ref 143), some (.int (zI sd)), some (.int (zI i))], [], es3)
  have hc : ∀ c, c < 1296 → (gA es3 88 c).toInt = if zMv B K sd c = true then 1 else 0 := by
    intro c hcl
    have h1 : crow es3 0 c = findF (gA es2 80) (brow es2 0) sd 36 0 (fun _ => 0) c := congrFun p3.2.2.2 c
    unfold crow at h1
    rw [if_pos hcl, show 1296 * 0 + c = c by omega, w2, b2, finds_is hK hBr hcl] at h1
    rw [h1]
    by_cases hp : zMv B K sd c = true
    · rw [if_pos hp, if_pos hp]; exact z1
    · rw [if_neg hp, if_neg hp]; rfl
  have e0 : (gI es3 79 0).toInt = 0 := by
    rw [keepI p3.2.2.1 p2.1 (p := 79) (b := 0) rfl (by decide), keepI p2.2.2.1 (sh_of hT1) (p := 79) (b := 0) rfl (by decide), e1, gI_sI (sh_of hT) (p := 79) (b := 0) rfl (by decide)]
    rfl
  have fin : ∀ v : Int, v = zMoV B K sd i → mmvP B K sd i (.inl (some (.int (zI v)))) es3 := fun v hv => ⟨p3.1, v, rfl, by rw [hv]; exact zMoV_r, Or.inr ⟨e0, ⟨hsd, c3⟩, hv⟩⟩
  refine s_mmv44 p3.1 hii (fun h => ?_) (fun h => ?_)
  · refine x_call (vs := [.ref 143, .int (zI 0), .int (zI i)]) (rs := []) i_216_59 rfl (fun _ => rfl) rfl rfl rfl rfl rfl (pCall_v (p := 79) p3.1 rfl rfl rfl rfl rfl (by decide) rfl rfl rfl rfl rfl) ?_
    show aW _ _ _ _ _ _ (0, [some (.ref 143), some (.int (zI 0)), some (.int (zI i)), none, none], [], es3)
    refine s_mva0 (dp := 0) p3.1 ⟨by omega, by omega⟩ ?_
    refine mvR_loop (i := i) (X := zNth (zMv B K sd) 1296 0 i) p3.1 hc ?_ 1296 0 i (by omega) h hii.2 rfl
    show aW _ _ _ _ _ _ (62, [some (.ref 143), some (.int (zI sd)), some (.int (zI i))], [.int (zI (zNth (zMv B K sd) 1296 0 i))], es3)
    exact s_mmv62 p3.1 (KQ _ _ _ _ (fin _ (by unfold zMoV; rw [if_neg (by omega)])))
  · refine x_call (vs := [.ref 143, .int (zI 0)]) (rs := []) i_216_50 rfl (fun _ => rfl) rfl rfl rfl rfl rfl (pCall_v (p := 79) p3.1 rfl rfl rfl rfl rfl (by decide) rfl rfl rfl rfl rfl) ?_
    show aW _ _ _ _ _ _ (0, [some (.ref 143), some (.int (zI 0)), none, none], [], es3)
    refine s_many0 (dp := 0) p3.1 ⟨by omega, by omega⟩ ?_
    refine mnR_loop p3.1 hc ?_ 1296 0 (by omega)
    show aW _ _ _ _ _ _ (53, [some (.ref 143), some (.int (zI sd)), some (.int (zI i))], [.int (zI (zCnt (zMv B K sd) 1296 0))], es3)
    exact s_mmv53 p3.1 (KQ _ _ _ _ (fin _ (by unfold zMoV; rw [if_pos (by omega)])))
theorem fn_mmoves (h_sd : i32 sd) (h_i : i32 i) (hT : hOK tT es) (hB : ∀ s, s < 36 → (gA es 80 (13 + s)).toInt = B s) (hB0 : ∀ s, 36 ≤ s → B s = 0) (hBr : rwB B) (hK : kdR K (gA es 80)) : aW O (d + 6) 216 0 0 (fun o => mmvP B K sd i o.1 o.2.1) (0, [some (.ref 143), some (.int (zI sd)), some (.int (zI i))], [], es) := fn_mmovesK h_sd h_i hT hB hB0 hBr hK (fun r es1 kc ks h => h)
end
/-! moves of the class -/
theorem hOK_sR {es : PH} (h : hOK tT es) {p t n : Nat} {sp : Nat → Int × Int} {f : Nat → Int32} (hp : tT[p]? = some (.inl (t, n, sp))) (hv : ∀ j, j < n → (sp j).1 ≤ (f j).toInt ∧ (f j).toInt ≤ (sp j).2) : hOK tT (sR es p f) := by
  unfold sR
  split
  · rename_i t' n' f' he
    refine hOK_set h (fun tt htt => ?_)
    rw [hp] at htt
    cases htt
    obtain ⟨h1, h2, h3, h4⟩ := h.2 p _ _ hp he
    exact ⟨h1, h2, h3, fun j hj => hv j hj⟩
  · exact h
def xmvP (B : Nat → Int) (K : Nat → Nat × (Nat → Int × Nat)) (sd i : Int) (r : Option Value ⊕ Nat) (es1 : PH) : Prop := hOK tT es1 ∧ ((r = .inr 0 ∧ (sd < 0 ∨ 1 < sd ∨ i < -1)) ∨ (r = .inl (some (.int (zI (zMoV B K sd i)))) ∧ ((0 ≤ sd ∧ sd ≤ 1) ∧ -1 ≤ i)))
section
variable {xs : Nat → Int32} {N d : Nat} {Q : pRes → Prop} {es : PH} {B : Nat → Int} {K : Nat → Nat × (Nat → Int × Nat)} {sd i : Int}
theorem fn_xmovesK (h_sd : i32 sd) (h_i : i32 i) (hT : hOK tT es) (hB : bdC B 11 es) (hK : kdC K 9 10 es) (KQ : ∀ r es1 kc ks, xmvP B K sd i r es1 → Q (r, es1, kc, ks)) : aW (pO0 xs N) (d + 5) 107 0 0 Q (0, [some (.ref 64), some (.int (zI sd)), some (.int (zI i))], [], es) := by
  have hii := h_i
  unfold i32 iLO iHI at hii
  have up : ∀ es3 : PH, es3 = sR es 30 (va_cpy (gA es 11) (gA es 30) 0 0 36) → hOK tT es3 ∧ bdC B 30 es3 ∧ kdC K 9 10 es3 := fun es3 e3 => by
    refine ⟨by rw [e3]; exact hOK_sR hT (p := 30) (t := 0) (n := 36) rfl (fun j _ => i32_rng _), fun s hs => ?_, ?_⟩
    · rw [e3, gA_sR (sh_of hT) (p := 30) (t := 0) (n := 36) rfl (by decide), cpy_at hs]
      exact hB s hs
    · unfold kdC at hK ⊢
      rw [e3, gA_sR_ne (by decide), gA_sR_ne (by decide)]
      exact hK
  have many : ∀ es3 : PH, es3 = sR es 30 (va_cpy (gA es 11) (gA es 30) 0 0 36) → 0 ≤ sd ∧ sd ≤ 1 → i = -1 → aW (pO0 xs N) (d + 5) 107 0 0 Q (39, [some (.ref 64), some (.int (zI sd)), some (.int (zI i))], [.int (zI sd), .ref 93], es3) := fun es3 e3 hs hi => by
    obtain ⟨hT3, hB3, hK3⟩ := up es3 e3
    refine x_call (vs := [.ref 93, .int (zI sd)]) (rs := []) i_107_39 rfl (fun _ => rfl) rfl rfl rfl rfl rfl (pCall_v (p := 29) (sh_of hT3) rfl rfl rfl rfl rfl (by decide) rfl rfl rfl rfl rfl) ?_
    show aW _ _ _ _ _ _ (0, [some (.ref 93), some (.int (zI sd)), none, none], [], es3)
    refine hm_spec (d := d) hT3 hB3 hK3 hs ?_
    show aW _ _ _ _ _ _ (42, [some (.ref 64), some (.int (zI sd)), some (.int (zI i))], [.int (zI (zCnt (zMv B K sd) 1296 0))], es3)
    refine s_xmv42 (sh_of hT3) (KQ _ _ _ _ ⟨hT3, Or.inr ⟨?_, hs, by omega⟩⟩)
    unfold zMoV
    rw [if_pos (by omega)]
  have one : ∀ es3 : PH, es3 = sR es 30 (va_cpy (gA es 11) (gA es 30) 0 0 36) → 0 ≤ sd ∧ sd ≤ 1 → 0 ≤ i → aW (pO0 xs N) (d + 5) 107 0 0 Q (51, [some (.ref 64), some (.int (zI sd)), some (.int (zI i))], [.int (zI i), .int (zI sd), .ref 93], es3) := fun es3 e3 hs hi => by
    obtain ⟨hT3, hB3, hK3⟩ := up es3 e3
    refine x_call (vs := [.ref 93, .int (zI sd), .int (zI i)]) (rs := []) i_107_51 rfl (fun _ => rfl) rfl rfl rfl rfl rfl (pCall_v (p := 29) (sh_of hT3) rfl rfl rfl rfl rfl (by decide) rfl rfl rfl rfl rfl) ?_
    show aW _ _ _ _ _ _ (0, [some (.ref 93), some (.int (zI sd)), some (.int (zI i)), none, none, none, none, none], [], es3)
    refine mva_spec (d := d) hT3 hB3 hK3 hs hi hii.2 ?_
    show aW _ _ _ _ _ _ (54, [some (.ref 64), some (.int (zI sd)), some (.int (zI i))], [.int (zI (zNth (zMv B K sd) 1296 0 i))], es3)
    refine s_xmv54 (sh_of hT3) (KQ _ _ _ _ ⟨hT3, Or.inr ⟨?_, hs, by omega⟩⟩)
    unfold zMoV
    rw [if_neg (by omega)]
  exact s_xmv0 (d := d + 2) (sh_of hT) h_sd h_i hT (fun c1 c2 es3 e3 c3 => one es3 e3 ⟨by omega, by omega⟩ (by omega)) (fun c1 c2 es3 e3 c3 => many es3 e3 ⟨by omega, by omega⟩ (by omega)) (fun c1 c2 => KQ _ _ _ _ ⟨hT, Or.inl ⟨rfl, by omega⟩⟩) (fun c1 c2 => KQ _ _ _ _ ⟨hT, Or.inl ⟨rfl, by omega⟩⟩) (fun c1 c2 c3 es3 e3 c4 => one es3 e3 ⟨by omega, by omega⟩ (by omega)) (fun c1 c2 c3 es3 e3 c4 => many es3 e3 ⟨by omega, by omega⟩ (by omega)) (fun c1 c2 c3 => KQ _ _ _ _ ⟨hT, Or.inl ⟨rfl, by omega⟩⟩)
/-- the law's call of moves -/
def ymvP (B : Nat → Int) (K : Nat → Nat × (Nat → Int × Nat)) (sd i : Int) (r : Option Value ⊕ Nat) (es1 : PH) : Prop := sh es1 ∧ ∃ k : Int, r = .inl (some (.int (zI k))) ∧ ((k = 1 ∧ (sd < 0 ∨ 1 < sd ∨ i < -1)) ∨ (k = 0 ∧ ((0 ≤ sd ∧ sd ≤ 1) ∧ -1 ≤ i) ∧ (gJ es1 107 (Int.toNat 0)).toInt = zMoV B K sd i))
theorem fn_ymoves (h_sd : i32 sd) (h_i : i32 i) (hT : hOK tT es) (hB : bdC B 11 es) (hK : kdC K 9 10 es) : aW (pO0 xs N) (d + 6) 280 0 0 (fun o => ymvP B K sd i o.1 o.2.1) (0, [some (.ref 64), some (.int (zI sd)), some (.int (zI i)), some (.ref 171), none], [], es) := by
  refine s_ymv0 (sh_of hT) ?_
  refine x_call (vs := [.ref 64, .int (zI sd), .int (zI i)]) (rs := [.int (zI 0), .ref 171]) i_280_5 rfl (fun _ => rfl) rfl rfl rfl rfl rfl (pCall_v (p := 0) (sh_of hT) rfl rfl rfl rfl rfl (by decide) rfl rfl rfl rfl rfl) ?_
  show aW _ _ _ _ _ _ (0, [some (.ref 64), some (.int (zI sd)), some (.int (zI i))], [], es)
  refine fn_xmovesK (d := d) h_sd h_i hT hB hK (fun r es' kc' ks' h => ?_)
  obtain ⟨hT', h⟩ := h
  rcases h with ⟨rfl, h1⟩ | ⟨rfl, h1⟩
  · refine ⟨_, _, _, _, rfl, rfl, rfl, ?_⟩
    show aW _ _ _ _ _ _ (15, [some (.ref 64), some (.int (zI sd)), some (.int (zI i)), some (.ref 171), none], [], es')
    exact s_ymv15 (sh_of hT') ⟨sh_of hT', 1, rfl, Or.inl ⟨rfl, h1⟩⟩
  · refine aK_inl ?_
    show aW _ _ _ _ _ _ (8, [some (.ref 64), some (.int (zI sd)), some (.int (zI i)), some (.ref 171), none], [.int (zI (zMoV B K sd i)), .int (zI 0), .ref 171], es')
    refine s_ymv8 (sh_of hT') (fun es1 e_es1 => ?_)
    have g3 : (gJ es1 107 (Int.toNat 0)).toInt = zMoV B K sd i := by
      rw [e_es1, gJ_sJ (sh_of hT') (p := 107) (n := 1) rfl]
      unfold vp_updL
      rw [if_pos rfl, i2l_int zMoV_r]
    exact ⟨by show sh es1; rw [e_es1]; exact sh_sJ (sh_of hT'), 0, rfl, Or.inr ⟨rfl, h1, g3⟩⟩
end
