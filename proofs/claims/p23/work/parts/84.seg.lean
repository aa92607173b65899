/-! SEGMENTS of methods by hand, printed by wip/ai2/hand6.py -/
theorem i_218_0 : iRow 218 0 = some (.iconst 0, 0, 0, 0, none) := rfl
theorem i_218_1 : iRow 218 1 = some (.istore_n 3, 0, 0, 0, none) := rfl
theorem i_218_2 : iRow 218 2 = some (.iload_n 3, 0, 0, 0, none) := rfl
theorem i_218_3 : iRow 218 3 = some (.sipush 1296, 0, 0, 0, none) := rfl
theorem i_218_6 : iRow 218 6 = some (.if_icmp .ge 22, 0, 0, 0, none) := rfl
theorem i_218_9 : iRow 218 9 = some (.aload_n 0, 0, 0, 0, none) := rfl
theorem i_218_10 : iRow 218 10 = some (.getfield 43, 181, 12, 17, none) := rfl
theorem i_218_13 : iRow 218 13 = some (.sipush 1296, 0, 0, 0, none) := rfl
theorem i_218_16 : iRow 218 16 = some (.iload_n 1, 0, 0, 0, none) := rfl
theorem i_218_17 : iRow 218 17 = some (.imul, 0, 0, 0, none) := rfl
theorem i_218_18 : iRow 218 18 = some (.iload_n 3, 0, 0, 0, none) := rfl
theorem i_218_19 : iRow 218 19 = some (.iadd, 0, 0, 0, none) := rfl
theorem i_218_20 : iRow 218 20 = some (.iconst 0, 0, 0, 0, none) := rfl
theorem i_218_21 : iRow 218 21 = some (.bastore, 0, 0, 0, none) := rfl
theorem i_218_22 : iRow 218 22 = some (.iinc 3 1, 0, 0, 0, none) := rfl
theorem i_218_25 : iRow 218 25 = some (.goto (-23), 0, 0, 0, none) := rfl
theorem i_218_28 : iRow 218 28 = some (.iconst 0, 0, 0, 0, none) := rfl
theorem i_218_29 : iRow 218 29 = some (.istore_n 3, 0, 0, 0, none) := rfl
theorem i_218_30 : iRow 218 30 = some (.iload_n 3, 0, 0, 0, none) := rfl
theorem i_218_31 : iRow 218 31 = some (.bipush 36, 0, 0, 0, none) := rfl
theorem i_218_33 : iRow 218 33 = some (.if_icmp .ge 37, 0, 0, 0, none) := rfl
theorem i_218_36 : iRow 218 36 = some (.aload_n 0, 0, 0, 0, none) := rfl
theorem i_218_37 : iRow 218 37 = some (.iload_n 1, 0, 0, 0, none) := rfl
theorem i_218_38 : iRow 218 38 = some (.iload_n 3, 0, 0, 0, none) := rfl
theorem i_218_39 : iRow 218 39 = some (.invokevirtual 279, 308, 219, 1, none) := rfl
theorem i_218_42 : iRow 218 42 = some (.ifCond .lt 22, 0, 0, 0, none) := rfl
theorem i_218_45 : iRow 218 45 = some (.aload_n 0, 0, 0, 0, none) := rfl
theorem i_218_46 : iRow 218 46 = some (.iload_n 1, 0, 0, 0, none) := rfl
theorem i_218_47 : iRow 218 47 = some (.iload_n 3, 0, 0, 0, none) := rfl
theorem i_218_48 : iRow 218 48 = some (.invokevirtual 279, 308, 219, 1, none) := rfl
theorem i_218_51 : iRow 218 51 = some (.invokestatic 282, 309, 220, 0, none) := rfl
theorem i_218_54 : iRow 218 54 = some (.iload_n 2, 0, 0, 0, none) := rfl
theorem i_218_55 : iRow 218 55 = some (.if_icmp .ne 9, 0, 0, 0, none) := rfl
theorem i_218_58 : iRow 218 58 = some (.aload_n 0, 0, 0, 0, none) := rfl
theorem i_218_59 : iRow 218 59 = some (.iload_n 1, 0, 0, 0, none) := rfl
theorem i_218_60 : iRow 218 60 = some (.iload_n 3, 0, 0, 0, none) := rfl
theorem i_218_61 : iRow 218 61 = some (.invokevirtual 299, 310, 221, 1, none) := rfl
theorem i_218_64 : iRow 218 64 = some (.iinc 3 1, 0, 0, 0, none) := rfl
theorem i_218_67 : iRow 218 67 = some (.goto (-37), 0, 0, 0, none) := rfl
theorem i_218_70 : iRow 218 70 = some (.return_, 0, 0, 0, none) := rfl
theorem i_227_0 : iRow 227 0 = some (.iconst 0, 0, 0, 0, (some (Jvm.ClassFile.FieldType.int))) := rfl
theorem i_227_1 : iRow 227 1 = some (.istore_n 2, 0, 0, 0, (some (Jvm.ClassFile.FieldType.int))) := rfl
theorem i_227_2 : iRow 227 2 = some (.iconst 0, 0, 0, 0, (some (Jvm.ClassFile.FieldType.int))) := rfl
theorem i_227_3 : iRow 227 3 = some (.istore_n 3, 0, 0, 0, (some (Jvm.ClassFile.FieldType.int))) := rfl
theorem i_227_4 : iRow 227 4 = some (.iload_n 3, 0, 0, 0, (some (Jvm.ClassFile.FieldType.int))) := rfl
theorem i_227_5 : iRow 227 5 = some (.sipush 1296, 0, 0, 0, (some (Jvm.ClassFile.FieldType.int))) := rfl
theorem i_227_8 : iRow 227 8 = some (.if_icmp .ge 32, 0, 0, 0, (some (Jvm.ClassFile.FieldType.int))) := rfl
theorem i_227_11 : iRow 227 11 = some (.iload_n 2, 0, 0, 0, (some (Jvm.ClassFile.FieldType.int))) := rfl
theorem i_227_12 : iRow 227 12 = some (.aload_n 0, 0, 0, 0, (some (Jvm.ClassFile.FieldType.int))) := rfl
theorem i_227_13 : iRow 227 13 = some (.getfield 43, 181, 12, 17, (some (Jvm.ClassFile.FieldType.int))) := rfl
theorem i_227_16 : iRow 227 16 = some (.sipush 1296, 0, 0, 0, (some (Jvm.ClassFile.FieldType.int))) := rfl
theorem i_227_19 : iRow 227 19 = some (.iload_n 1, 0, 0, 0, (some (Jvm.ClassFile.FieldType.int))) := rfl
theorem i_227_20 : iRow 227 20 = some (.imul, 0, 0, 0, (some (Jvm.ClassFile.FieldType.int))) := rfl
theorem i_227_21 : iRow 227 21 = some (.iload_n 3, 0, 0, 0, (some (Jvm.ClassFile.FieldType.int))) := rfl
theorem i_227_22 : iRow 227 22 = some (.iadd, 0, 0, 0, (some (Jvm.ClassFile.FieldType.int))) := rfl
theorem i_227_23 : iRow 227 23 = some (.baload, 0, 0, 0, (some (Jvm.ClassFile.FieldType.int))) := rfl
theorem i_227_24 : iRow 227 24 = some (.ifCond .eq 7, 0, 0, 0, (some (Jvm.ClassFile.FieldType.int))) := rfl
theorem i_227_27 : iRow 227 27 = some (.iconst 1, 0, 0, 0, (some (Jvm.ClassFile.FieldType.int))) := rfl
theorem i_227_28 : iRow 227 28 = some (.goto 4, 0, 0, 0, (some (Jvm.ClassFile.FieldType.int))) := rfl
theorem i_227_31 : iRow 227 31 = some (.iconst 0, 0, 0, 0, (some (Jvm.ClassFile.FieldType.int))) := rfl
theorem i_227_32 : iRow 227 32 = some (.iadd, 0, 0, 0, (some (Jvm.ClassFile.FieldType.int))) := rfl
theorem i_227_33 : iRow 227 33 = some (.istore_n 2, 0, 0, 0, (some (Jvm.ClassFile.FieldType.int))) := rfl
theorem i_227_34 : iRow 227 34 = some (.iinc 3 1, 0, 0, 0, (some (Jvm.ClassFile.FieldType.int))) := rfl
theorem i_227_37 : iRow 227 37 = some (.goto (-33), 0, 0, 0, (some (Jvm.ClassFile.FieldType.int))) := rfl
theorem i_227_40 : iRow 227 40 = some (.iload_n 2, 0, 0, 0, (some (Jvm.ClassFile.FieldType.int))) := rfl
theorem i_227_41 : iRow 227 41 = some (.ireturn, 0, 0, 0, (some (Jvm.ClassFile.FieldType.int))) := rfl
theorem s_finds0 {O : pOut} {d kc ks : Nat} {Q : pRes → Prop} {es : PH} {dp sd : Int} (hs_es : sh es) (hd : 0 ≤ dp ∧ dp ≤ 30)
    (K1 : aW O d 218 kc ks Q (2, [some (.ref 143), some (.int (zI dp)), some (.int (zI sd)), some (.int (zI 0))], [], es)) :
    aW O d 218 kc ks Q (0, [some (.ref 143), some (.int (zI dp)), some (.int (zI sd)), none], [], es) := by
  refine x0 (r := (1, [some (.ref 143), some (.int (zI dp)), some (.int (zI sd)), none], [.int (zI 0)], es)) i_218_0 (by rfl) ?_
  refine x0 (r := (2, [some (.ref 143), some (.int (zI dp)), some (.int (zI sd)), some (.int (zI 0))], [], es)) i_218_1 rfl ?_
  exact K1

theorem s_finds2 {O : pOut} {d kc ks : Nat} {Q : pRes → Prop} {es : PH} {dp sd c : Int} (hs_es : sh es) (hd : 0 ≤ dp ∧ dp ≤ 30) (h1 : 0 ≤ c ∧ c ≤ 1296)
    (K1 : 1296 ≤ c → aW O d 218 kc ks Q (30, [some (.ref 143), some (.int (zI dp)), some (.int (zI sd)), some (.int (zI 0))], [], es))
    (K2 : ¬ (1296 ≤ c) → ∀ es2 : PH, es2 = sA es 88 ((1296 * dp) + c).toNat (zI 0) → aW O d 218 kc ks Q (2, [some (.ref 143), some (.int (zI dp)), some (.int (zI sd)), some (.int (zI (c + 1)))], [], es2)) :
    aW O d 218 kc ks Q (2, [some (.ref 143), some (.int (zI dp)), some (.int (zI sd)), some (.int (zI c))], [], es) := by
  refine x0 (r := (3, [some (.ref 143), some (.int (zI dp)), some (.int (zI sd)), some (.int (zI c))], [.int (zI c)], es)) i_218_2 rfl ?_
  refine x0 (r := (6, [some (.ref 143), some (.int (zI dp)), some (.int (zI sd)), some (.int (zI c))], [.int (zI 1296), .int (zI c)], es)) i_218_3 (by rfl) ?_
  by_cases c1 : 1296 ≤ c
  · refine x_cmpT i_218_6 (by unfold i32 iLO iHI; omega) (by unfold i32 iLO iHI; omega) rfl (by simp only [zC, cR]; omega) ?_
    refine x0 (r := (29, [some (.ref 143), some (.int (zI dp)), some (.int (zI sd)), some (.int (zI c))], [.int (zI 0)], es)) i_218_28 (by rfl) ?_
    refine x0 (r := (30, [some (.ref 143), some (.int (zI dp)), some (.int (zI sd)), some (.int (zI 0))], [], es)) i_218_29 rfl ?_
    exact K1 c1
  · refine x_cmpF i_218_6 (by unfold i32 iLO iHI; omega) (by unfold i32 iLO iHI; omega) rfl (by simp only [zC, cR]; omega) ?_
    refine x0 (r := (10, [some (.ref 143), some (.int (zI dp)), some (.int (zI sd)), some (.int (zI c))], [.ref 143], es)) i_218_9 rfl ?_
    refine x_getr (p := 79) (k := 152) i_218_10 hs_es rfl rfl ?_
    show aW _ _ _ _ _ _ (13, [some (.ref 143), some (.int (zI dp)), some (.int (zI sd)), some (.int (zI c))], [.ref 152], es)
    refine x0 (r := (16, [some (.ref 143), some (.int (zI dp)), some (.int (zI sd)), some (.int (zI c))], [.int (zI 1296), .ref 152], es)) i_218_13 (by rfl) ?_
    refine x0 (r := (17, [some (.ref 143), some (.int (zI dp)), some (.int (zI sd)), some (.int (zI c))], [.int (zI dp), .int (zI 1296), .ref 152], es)) i_218_16 rfl ?_
    refine x_imul i_218_17 ?_
    refine x0 (r := (19, [some (.ref 143), some (.int (zI dp)), some (.int (zI sd)), some (.int (zI c))], [.int (zI c), .int (zI (1296 * dp)), .ref 152], es)) i_218_18 rfl ?_
    refine x_iadd i_218_19 ?_
    refine x0 (r := (21, [some (.ref 143), some (.int (zI dp)), some (.int (zI sd)), some (.int (zI c))], [.int (zI 0), .int (zI ((1296 * dp) + c)), .ref 152], es)) i_218_20 (by rfl) ?_
    refine x_bast3 (p := 88) i_218_21 hs_es rfl (by unfold i32 iLO iHI; omega) (by omega) (by omega) (by omega) ?_
    obtain ⟨es2, e_es2⟩ : ∃ z : PH, z = sA es 88 ((1296 * dp) + c).toNat (zI 0) := ⟨_, rfl⟩
    have hs_es2 : sh es2 := by rw [e_es2]; exact sh_sA hs_es
    rw [← e_es2]
    refine x_iinc (x := c) i_218_22 rfl (by show 3 < 4; decide) ?_
    show aW _ _ _ _ _ _ (25, [some (.ref 143), some (.int (zI dp)), some (.int (zI sd)), some (.int (zI (c + 1)))], [], es2)
    refine x0 (r := (2, [some (.ref 143), some (.int (zI dp)), some (.int (zI sd)), some (.int (zI (c + 1)))], [], es2)) i_218_25 rfl ?_
    exact K2 c1 es2 e_es2

theorem s_finds30 {O : pOut} {d kc ks : Nat} {Q : pRes → Prop} {es : PH} {dp sd s : Int} (hs_es : sh es) (hd : 0 ≤ dp ∧ dp ≤ 30) (h1 : 0 ≤ sd ∧ sd ≤ 1) (h2 : 0 ≤ s ∧ s ≤ 36) (hT_es : hOK tT es)
    (K1 : 36 ≤ s → Q (.inl (none), es, kc, ks))
    (K2 : ¬ (36 ≤ s) → ∀ v2 : Int, v2 = (gA es 87 ((36 * dp) + s).toNat).toInt → v2 < 0 → aW O (d + 5) 218 kc ks Q (30, [some (.ref 143), some (.int (zI dp)), some (.int (zI sd)), some (.int (zI (s + 1)))], [], es))
    (K3 : ¬ (36 ≤ s) → ∀ v2 : Int, v2 = (gA es 87 ((36 * dp) + s).toNat).toInt → ¬ (v2 < 0) → ∀ v4 : Int, v4 = (gA es 87 ((36 * dp) + s).toNat).toInt → ∀ v5 : Int, v5 = (zI v4 &&& zI 1).toInt → v5 ≠ sd → aW O (d + 5) 218 kc ks Q (30, [some (.ref 143), some (.int (zI dp)), some (.int (zI sd)), some (.int (zI (s + 1)))], [], es))
    (K4 : ¬ (36 ≤ s) → ∀ v2 : Int, v2 = (gA es 87 ((36 * dp) + s).toNat).toInt → ¬ (v2 < 0) → ∀ v4 : Int, v4 = (gA es 87 ((36 * dp) + s).toNat).toInt → ∀ v5 : Int, v5 = (zI v4 &&& zI 1).toInt → ¬ (v5 ≠ sd) → ∀ es7 : PH, goesP dp s es es7 → aW O (d + 5) 218 kc ks Q (30, [some (.ref 143), some (.int (zI dp)), some (.int (zI sd)), some (.int (zI (s + 1)))], [], es7)) :
    aW O (d + 5) 218 kc ks Q (30, [some (.ref 143), some (.int (zI dp)), some (.int (zI sd)), some (.int (zI s))], [], es) := by
  refine x0 (r := (31, [some (.ref 143), some (.int (zI dp)), some (.int (zI sd)), some (.int (zI s))], [.int (zI s)], es)) i_218_30 rfl ?_
  refine x0 (r := (33, [some (.ref 143), some (.int (zI dp)), some (.int (zI sd)), some (.int (zI s))], [.int (zI 36), .int (zI s)], es)) i_218_31 (by rfl) ?_
  by_cases c1 : 36 ≤ s
  · refine x_cmpT i_218_33 (by unfold i32 iLO iHI; omega) (by unfold i32 iLO iHI; omega) rfl (by simp only [zC, cR]; omega) ?_
    refine x_ret (v := none) i_218_70 rfl (fun _ => rfl) rfl rfl rfl ?_
    exact K1 c1
  · refine x_cmpF i_218_33 (by unfold i32 iLO iHI; omega) (by unfold i32 iLO iHI; omega) rfl (by simp only [zC, cR]; omega) ?_
    refine x0 (r := (37, [some (.ref 143), some (.int (zI dp)), some (.int (zI sd)), some (.int (zI s))], [.ref 143], es)) i_218_36 rfl ?_
    refine x0 (r := (38, [some (.ref 143), some (.int (zI dp)), some (.int (zI sd)), some (.int (zI s))], [.int (zI dp), .ref 143], es)) i_218_37 rfl ?_
    refine x0 (r := (39, [some (.ref 143), some (.int (zI dp)), some (.int (zI sd)), some (.int (zI s))], [.int (zI s), .int (zI dp), .ref 143], es)) i_218_38 rfl ?_
    refine x_call (vs := [.ref 143, .int (zI dp), .int (zI s)]) (rs := []) i_218_39 rfl (fun _ => rfl) rfl rfl rfl rfl rfl (pCall_v (p := 79) hs_es rfl rfl rfl rfl rfl (by decide) rfl rfl rfl rfl rfl) ?_
    show aW _ _ _ _ _ _ (0, [some (.ref 143), some (.int (zI dp)), some (.int (zI s))], [], es)
    refine x0 (r := (1, [some (.ref 143), some (.int (zI dp)), some (.int (zI s))], [.ref 143], es)) i_219_0 rfl ?_
    refine x_getr (p := 79) (k := 151) i_219_1 hs_es rfl rfl ?_
    show aW _ _ _ _ _ _ (4, [some (.ref 143), some (.int (zI dp)), some (.int (zI s))], [.ref 151], es)
    refine x0 (r := (6, [some (.ref 143), some (.int (zI dp)), some (.int (zI s))], [.int (zI 36), .ref 151], es)) i_219_4 (by rfl) ?_
    refine x0 (r := (7, [some (.ref 143), some (.int (zI dp)), some (.int (zI s))], [.int (zI dp), .int (zI 36), .ref 151], es)) i_219_6 rfl ?_
    refine x_imul i_219_7 ?_
    refine x0 (r := (9, [some (.ref 143), some (.int (zI dp)), some (.int (zI s))], [.int (zI s), .int (zI (36 * dp)), .ref 151], es)) i_219_8 rfl ?_
    refine x_iadd i_219_9 ?_
    refine x_iald (p := 87) i_219_10 hs_es rfl (by unfold i32 iLO iHI; omega) (by omega) (by omega) ?_
    obtain ⟨v2, e_v2⟩ : ∃ z : Int, z = (gA es 87 ((36 * dp) + s).toNat).toInt := ⟨_, rfl⟩
    rw [← e_v2]
    have r_v2 : iLO ≤ v2 ∧ v2 ≤ iHI := by rw [e_v2]; exact i32_rng _
    unfold iLO iHI at r_v2
    have b_v2 : (-1 : Int) ≤ v2 ∧ v2 ≤ (9 : Int) := by rw [e_v2]; exact gA_bd hT_es (p := 87) (k := ((36 * dp) + s).toNat) rfl (by omega) (by decide)
    refine x_ret (v := some (.int (zI v2))) i_219_11 rfl (fun _ => rfl) rfl rfl rfl ?_
    show aW _ _ _ _ _ _ (42, [some (.ref 143), some (.int (zI dp)), some (.int (zI sd)), some (.int (zI s))], [.int (zI v2)], es)
    by_cases c3 : v2 < 0
    · refine x_ifT i_218_42 (by unfold i32 iLO iHI; omega) rfl (by simp only [zC, cR]; omega) ?_
      refine x_iinc (x := s) i_218_64 rfl (by show 3 < 4; decide) ?_
      show aW _ _ _ _ _ _ (67, [some (.ref 143), some (.int (zI dp)), some (.int (zI sd)), some (.int (zI (s + 1)))], [], es)
      refine x0 (r := (30, [some (.ref 143), some (.int (zI dp)), some (.int (zI sd)), some (.int (zI (s + 1)))], [], es)) i_218_67 rfl ?_
      exact K2 c1 v2 e_v2 c3
    · refine x_ifF i_218_42 (by unfold i32 iLO iHI; omega) rfl (by simp only [zC, cR]; omega) ?_
      refine x0 (r := (46, [some (.ref 143), some (.int (zI dp)), some (.int (zI sd)), some (.int (zI s))], [.ref 143], es)) i_218_45 rfl ?_
      refine x0 (r := (47, [some (.ref 143), some (.int (zI dp)), some (.int (zI sd)), some (.int (zI s))], [.int (zI dp), .ref 143], es)) i_218_46 rfl ?_
      refine x0 (r := (48, [some (.ref 143), some (.int (zI dp)), some (.int (zI sd)), some (.int (zI s))], [.int (zI s), .int (zI dp), .ref 143], es)) i_218_47 rfl ?_
      refine x_call (vs := [.ref 143, .int (zI dp), .int (zI s)]) (rs := []) i_218_48 rfl (fun _ => rfl) rfl rfl rfl rfl rfl (pCall_v (p := 79) hs_es rfl rfl rfl rfl rfl (by decide) rfl rfl rfl rfl rfl) ?_
      show aW _ _ _ _ _ _ (0, [some (.ref 143), some (.int (zI dp)), some (.int (zI s))], [], es)
      refine x0 (r := (1, [some (.ref 143), some (.int (zI dp)), some (.int (zI s))], [.ref 143], es)) i_219_0 rfl ?_
      refine x_getr (p := 79) (k := 151) i_219_1 hs_es rfl rfl ?_
      show aW _ _ _ _ _ _ (4, [some (.ref 143), some (.int (zI dp)), some (.int (zI s))], [.ref 151], es)
      refine x0 (r := (6, [some (.ref 143), some (.int (zI dp)), some (.int (zI s))], [.int (zI 36), .ref 151], es)) i_219_4 (by rfl) ?_
      refine x0 (r := (7, [some (.ref 143), some (.int (zI dp)), some (.int (zI s))], [.int (zI dp), .int (zI 36), .ref 151], es)) i_219_6 rfl ?_
      refine x_imul i_219_7 ?_
      refine x0 (r := (9, [some (.ref 143), some (.int (zI dp)), some (.int (zI s))], [.int (zI s), .int (zI (36 * dp)), .ref 151], es)) i_219_8 rfl ?_
      refine x_iadd i_219_9 ?_
      refine x_iald (p := 87) i_219_10 hs_es rfl (by unfold i32 iLO iHI; omega) (by omega) (by omega) ?_
      obtain ⟨v4, e_v4⟩ : ∃ z : Int, z = (gA es 87 ((36 * dp) + s).toNat).toInt := ⟨_, rfl⟩
      rw [← e_v4]
      have r_v4 : iLO ≤ v4 ∧ v4 ≤ iHI := by rw [e_v4]; exact i32_rng _
      unfold iLO iHI at r_v4
      have b_v4 : (-1 : Int) ≤ v4 ∧ v4 ≤ (9 : Int) := by rw [e_v4]; exact gA_bd hT_es (p := 87) (k := ((36 * dp) + s).toNat) rfl (by omega) (by decide)
      refine x_ret (v := some (.int (zI v4))) i_219_11 rfl (fun _ => rfl) rfl rfl rfl ?_
      show aW _ _ _ _ _ _ (51, [some (.ref 143), some (.int (zI dp)), some (.int (zI sd)), some (.int (zI s))], [.int (zI v4)], es)
      refine x_call (vs := [.int (zI v4)]) (rs := []) i_218_51 rfl (fun _ => rfl) rfl rfl rfl rfl rfl rfl ?_
      show aW _ _ _ _ _ _ (0, [some (.int (zI v4))], [], es)
      refine x0 (r := (1, [some (.int (zI v4))], [.int (zI v4)], es)) i_220_0 rfl ?_
      refine x0 (r := (2, [some (.int (zI v4))], [.int (zI 1), .int (zI v4)], es)) i_220_1 (by rfl) ?_
      refine x_op i_220_2 (w := (zI v4 &&& zI 1)) rfl rfl ?_
      obtain ⟨v5, e_v5⟩ : ∃ z : Int, z = (zI v4 &&& zI 1).toInt := ⟨_, rfl⟩
      rw [← e_v5]
      have r_v5 : iLO ≤ v5 ∧ v5 ≤ iHI := by rw [e_v5]; exact i32_rng _
      unfold iLO iHI at r_v5
      refine x_ret (v := some (.int (zI v5))) i_220_3 rfl (fun _ => rfl) rfl rfl rfl ?_
      show aW _ _ _ _ _ _ (54, [some (.ref 143), some (.int (zI dp)), some (.int (zI sd)), some (.int (zI s))], [.int (zI v5)], es)
      refine x0 (r := (55, [some (.ref 143), some (.int (zI dp)), some (.int (zI sd)), some (.int (zI s))], [.int (zI sd), .int (zI v5)], es)) i_218_54 rfl ?_
      by_cases c6 : v5 ≠ sd
      · refine x_cmpT i_218_55 (by unfold i32 iLO iHI; omega) (by unfold i32 iLO iHI; omega) rfl (by simp only [zC, cR]; omega) ?_
        refine x_iinc (x := s) i_218_64 rfl (by show 3 < 4; decide) ?_
        show aW _ _ _ _ _ _ (67, [some (.ref 143), some (.int (zI dp)), some (.int (zI sd)), some (.int (zI (s + 1)))], [], es)
        refine x0 (r := (30, [some (.ref 143), some (.int (zI dp)), some (.int (zI sd)), some (.int (zI (s + 1)))], [], es)) i_218_67 rfl ?_
        exact K3 c1 v2 e_v2 c3 v4 e_v4 v5 e_v5 c6
      · refine x_cmpF i_218_55 (by unfold i32 iLO iHI; omega) (by unfold i32 iLO iHI; omega) rfl (by simp only [zC, cR]; omega) ?_
        refine x0 (r := (59, [some (.ref 143), some (.int (zI dp)), some (.int (zI sd)), some (.int (zI s))], [.ref 143], es)) i_218_58 rfl ?_
        refine x0 (r := (60, [some (.ref 143), some (.int (zI dp)), some (.int (zI sd)), some (.int (zI s))], [.int (zI dp), .ref 143], es)) i_218_59 rfl ?_
        refine x0 (r := (61, [some (.ref 143), some (.int (zI dp)), some (.int (zI sd)), some (.int (zI s))], [.int (zI s), .int (zI dp), .ref 143], es)) i_218_60 rfl ?_
        refine x_call (vs := [.ref 143, .int (zI dp), .int (zI s)]) (rs := []) i_218_61 rfl (fun _ => rfl) rfl rfl rfl rfl rfl (pCall_v (p := 79) hs_es rfl rfl rfl rfl rfl (by decide) rfl rfl rfl rfl rfl) ?_
        show aW _ _ _ _ _ _ (0, [some (.ref 143), some (.int (zI dp)), some (.int (zI s)), none, none, none, none, none, none, none, none], [], es)
        refine goes_spec hs_es (by omega) (by omega) hT_es (by omega) (fun es7 p_es7 => ?_)
        have hs_es7 : sh es7 := p_es7.1
        show aW _ _ _ _ _ _ (64, [some (.ref 143), some (.int (zI dp)), some (.int (zI sd)), some (.int (zI s))], [], es7)
        refine x_iinc (x := s) i_218_64 rfl (by show 3 < 4; decide) ?_
        show aW _ _ _ _ _ _ (67, [some (.ref 143), some (.int (zI dp)), some (.int (zI sd)), some (.int (zI (s + 1)))], [], es7)
        refine x0 (r := (30, [some (.ref 143), some (.int (zI dp)), some (.int (zI sd)), some (.int (zI (s + 1)))], [], es7)) i_218_67 rfl ?_
        exact K4 c1 v2 e_v2 c3 v4 e_v4 v5 e_v5 c6 es7 p_es7

theorem s_many0 {O : pOut} {d kc ks : Nat} {Q : pRes → Prop} {es : PH} {dp : Int} (hs_es : sh es) (hd : 0 ≤ dp ∧ dp ≤ 30)
    (K1 : aW O d 227 kc ks Q (4, [some (.ref 143), some (.int (zI dp)), some (.int (zI 0)), some (.int (zI 0))], [], es)) :
    aW O d 227 kc ks Q (0, [some (.ref 143), some (.int (zI dp)), none, none], [], es) := by
  refine x0 (r := (1, [some (.ref 143), some (.int (zI dp)), none, none], [.int (zI 0)], es)) i_227_0 (by rfl) ?_
  refine x0 (r := (2, [some (.ref 143), some (.int (zI dp)), some (.int (zI 0)), none], [], es)) i_227_1 rfl ?_
  refine x0 (r := (3, [some (.ref 143), some (.int (zI dp)), some (.int (zI 0)), none], [.int (zI 0)], es)) i_227_2 (by rfl) ?_
  refine x0 (r := (4, [some (.ref 143), some (.int (zI dp)), some (.int (zI 0)), some (.int (zI 0))], [], es)) i_227_3 rfl ?_
  exact K1

theorem s_many4 {O : pOut} {d kc ks : Nat} {Q : pRes → Prop} {es : PH} {dp n c : Int} (hs_es : sh es) (hd : 0 ≤ dp ∧ dp ≤ 30) (h1 : 0 ≤ c ∧ c ≤ 1296) (h2 : 0 ≤ n ∧ n ≤ 1296)
    (K1 : 1296 ≤ c → Q (.inl (some (.int (zI n))), es, kc, ks))
    (K2 : ¬ (1296 ≤ c) → ∀ v2 : Int, v2 = (gA es 88 ((1296 * dp) + c).toNat).toInt → v2 = 0 → aW O d 227 kc ks Q (4, [some (.ref 143), some (.int (zI dp)), some (.int (zI (n + 0))), some (.int (zI (c + 1)))], [], es))
    (K3 : ¬ (1296 ≤ c) → ∀ v2 : Int, v2 = (gA es 88 ((1296 * dp) + c).toNat).toInt → ¬ (v2 = 0) → aW O d 227 kc ks Q (4, [some (.ref 143), some (.int (zI dp)), some (.int (zI (n + 1))), some (.int (zI (c + 1)))], [], es)) :
    aW O d 227 kc ks Q (4, [some (.ref 143), some (.int (zI dp)), some (.int (zI n)), some (.int (zI c))], [], es) := by
  refine x0 (r := (5, [some (.ref 143), some (.int (zI dp)), some (.int (zI n)), some (.int (zI c))], [.int (zI c)], es)) i_227_4 rfl ?_
  refine x0 (r := (8, [some (.ref 143), some (.int (zI dp)), some (.int (zI n)), some (.int (zI c))], [.int (zI 1296), .int (zI c)], es)) i_227_5 (by rfl) ?_
  by_cases c1 : 1296 ≤ c
  · refine x_cmpT i_227_8 (by unfold i32 iLO iHI; omega) (by unfold i32 iLO iHI; omega) rfl (by simp only [zC, cR]; omega) ?_
    refine x0 (r := (41, [some (.ref 143), some (.int (zI dp)), some (.int (zI n)), some (.int (zI c))], [.int (zI n)], es)) i_227_40 rfl ?_
    refine x_ret (v := some (.int (zI n))) i_227_41 rfl (fun _ => rfl) rfl rfl rfl ?_
    exact K1 c1
  · refine x_cmpF i_227_8 (by unfold i32 iLO iHI; omega) (by unfold i32 iLO iHI; omega) rfl (by simp only [zC, cR]; omega) ?_
    refine x0 (r := (12, [some (.ref 143), some (.int (zI dp)), some (.int (zI n)), some (.int (zI c))], [.int (zI n)], es)) i_227_11 rfl ?_
    refine x0 (r := (13, [some (.ref 143), some (.int (zI dp)), some (.int (zI n)), some (.int (zI c))], [.ref 143, .int (zI n)], es)) i_227_12 rfl ?_
    refine x_getr (p := 79) (k := 152) i_227_13 hs_es rfl rfl ?_
    show aW _ _ _ _ _ _ (16, [some (.ref 143), some (.int (zI dp)), some (.int (zI n)), some (.int (zI c))], [.ref 152, .int (zI n)], es)
    refine x0 (r := (19, [some (.ref 143), some (.int (zI dp)), some (.int (zI n)), some (.int (zI c))], [.int (zI 1296), .ref 152, .int (zI n)], es)) i_227_16 (by rfl) ?_
    refine x0 (r := (20, [some (.ref 143), some (.int (zI dp)), some (.int (zI n)), some (.int (zI c))], [.int (zI dp), .int (zI 1296), .ref 152, .int (zI n)], es)) i_227_19 rfl ?_
    refine x_imul i_227_20 ?_
    refine x0 (r := (22, [some (.ref 143), some (.int (zI dp)), some (.int (zI n)), some (.int (zI c))], [.int (zI c), .int (zI (1296 * dp)), .ref 152, .int (zI n)], es)) i_227_21 rfl ?_
    refine x_iadd i_227_22 ?_
    refine x_bald (p := 88) i_227_23 hs_es rfl (by decide) (by unfold i32 iLO iHI; omega) (by omega) (by omega) ?_
    obtain ⟨v2, e_v2⟩ : ∃ z : Int, z = (gA es 88 ((1296 * dp) + c).toNat).toInt := ⟨_, rfl⟩
    rw [← e_v2]
    have r_v2 : iLO ≤ v2 ∧ v2 ≤ iHI := by rw [e_v2]; exact i32_rng _
    unfold iLO iHI at r_v2
    by_cases c3 : v2 = 0
    · refine x_ifT i_227_24 (by unfold i32 iLO iHI; omega) rfl (by simp only [zC, cR]; omega) ?_
      refine x0 (r := (32, [some (.ref 143), some (.int (zI dp)), some (.int (zI n)), some (.int (zI c))], [.int (zI 0), .int (zI n)], es)) i_227_31 (by rfl) ?_
      refine x_iadd i_227_32 ?_
      refine x0 (r := (34, [some (.ref 143), some (.int (zI dp)), some (.int (zI (n + 0))), some (.int (zI c))], [], es)) i_227_33 rfl ?_
      refine x_iinc (x := c) i_227_34 rfl (by show 3 < 4; decide) ?_
      show aW _ _ _ _ _ _ (37, [some (.ref 143), some (.int (zI dp)), some (.int (zI (n + 0))), some (.int (zI (c + 1)))], [], es)
      refine x0 (r := (4, [some (.ref 143), some (.int (zI dp)), some (.int (zI (n + 0))), some (.int (zI (c + 1)))], [], es)) i_227_37 rfl ?_
      exact K2 c1 v2 e_v2 c3
    · refine x_ifF i_227_24 (by unfold i32 iLO iHI; omega) rfl (by simp only [zC, cR]; omega) ?_
      refine x0 (r := (28, [some (.ref 143), some (.int (zI dp)), some (.int (zI n)), some (.int (zI c))], [.int (zI 1), .int (zI n)], es)) i_227_27 (by rfl) ?_
      refine x0 (r := (32, [some (.ref 143), some (.int (zI dp)), some (.int (zI n)), some (.int (zI c))], [.int (zI 1), .int (zI n)], es)) i_227_28 rfl ?_
      refine x_iadd i_227_32 ?_
      refine x0 (r := (34, [some (.ref 143), some (.int (zI dp)), some (.int (zI (n + 1))), some (.int (zI c))], [], es)) i_227_33 rfl ?_
      refine x_iinc (x := c) i_227_34 rfl (by show 3 < 4; decide) ?_
      show aW _ _ _ _ _ _ (37, [some (.ref 143), some (.int (zI dp)), some (.int (zI (n + 1))), some (.int (zI (c + 1)))], [], es)
      refine x0 (r := (4, [some (.ref 143), some (.int (zI dp)), some (.int (zI (n + 1))), some (.int (zI (c + 1)))], [], es)) i_227_37 rfl ?_
      exact K3 c1 v2 e_v2 c3
