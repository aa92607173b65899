/-! printed by wip/rel/notes.py -/
theorem i_122_0 : iRow 122 0 = some (.aload_n 0, 0, 0, 0, (some (Jvm.ClassFile.FieldType.int))) := rfl
theorem i_122_1 : iRow 122 1 = some (.iload_n 1, 0, 0, 0, (some (Jvm.ClassFile.FieldType.int))) := rfl
theorem i_122_2 : iRow 122 2 = some (.iload_n 2, 0, 0, 0, (some (Jvm.ClassFile.FieldType.int))) := rfl
theorem i_122_3 : iRow 122 3 = some (.invokevirtual 198, 162, 121, 1, (some (Jvm.ClassFile.FieldType.int))) := rfl
theorem i_122_6 : iRow 122 6 = some (.ifCond .ne 13, 0, 0, 0, (some (Jvm.ClassFile.FieldType.int))) := rfl
theorem i_122_9 : iRow 122 9 = some (.new 125, 18, 2, 1, (some (Jvm.ClassFile.FieldType.int))) := rfl
theorem i_122_19 : iRow 122 19 = some (.iload_n 3, 0, 0, 0, (some (Jvm.ClassFile.FieldType.int))) := rfl
theorem i_122_20 : iRow 122 20 = some (.ifCond .lt 8, 0, 0, 0, (some (Jvm.ClassFile.FieldType.int))) := rfl
theorem i_122_23 : iRow 122 23 = some (.iload_n 3, 0, 0, 0, (some (Jvm.ClassFile.FieldType.int))) := rfl
theorem i_122_24 : iRow 122 24 = some (.iconst 4, 0, 0, 0, (some (Jvm.ClassFile.FieldType.int))) := rfl
theorem i_122_25 : iRow 122 25 = some (.if_icmp .lt 13, 0, 0, 0, (some (Jvm.ClassFile.FieldType.int))) := rfl
theorem i_122_28 : iRow 122 28 = some (.new 210, 20, 3, 1, (some (Jvm.ClassFile.FieldType.int))) := rfl
theorem i_122_38 : iRow 122 38 = some (.aload_n 0, 0, 0, 0, (some (Jvm.ClassFile.FieldType.int))) := rfl
theorem i_122_39 : iRow 122 39 = some (.getfield 28, 139, 11, 2, (some (Jvm.ClassFile.FieldType.int))) := rfl
theorem i_122_42 : iRow 122 42 = some (.iload_n 1, 0, 0, 0, (some (Jvm.ClassFile.FieldType.int))) := rfl
theorem i_122_43 : iRow 122 43 = some (.iload_n 2, 0, 0, 0, (some (Jvm.ClassFile.FieldType.int))) := rfl
theorem i_122_44 : iRow 122 44 = some (.iload_n 3, 0, 0, 0, (some (Jvm.ClassFile.FieldType.int))) := rfl
theorem i_122_45 : iRow 122 45 = some (.invokevirtual 204, 163, 43, 1, (some (Jvm.ClassFile.FieldType.int))) := rfl
theorem i_122_48 : iRow 122 48 = some (.ireturn, 0, 0, 0, (some (Jvm.ClassFile.FieldType.int))) := rfl
theorem i_212_0 : iRow 212 0 = some (.aload_n 0, 0, 0, 0, (some (Jvm.ClassFile.FieldType.int))) := rfl
theorem i_212_1 : iRow 212 1 = some (.iconst 0, 0, 0, 0, (some (Jvm.ClassFile.FieldType.int))) := rfl
theorem i_212_2 : iRow 212 2 = some (.putfield 3, 164, 12, 0, (some (Jvm.ClassFile.FieldType.int))) := rfl
theorem i_212_5 : iRow 212 5 = some (.aload_n 0, 0, 0, 0, (some (Jvm.ClassFile.FieldType.int))) := rfl
theorem i_212_6 : iRow 212 6 = some (.aload_n 0, 0, 0, 0, (some (Jvm.ClassFile.FieldType.int))) := rfl
theorem i_212_7 : iRow 212 7 = some (.iload_n 1, 0, 0, 0, (some (Jvm.ClassFile.FieldType.int))) := rfl
theorem i_212_8 : iRow 212 8 = some (.iload_n 2, 0, 0, 0, (some (Jvm.ClassFile.FieldType.int))) := rfl
theorem i_212_9 : iRow 212 9 = some (.invokevirtual 269, 299, 210, 1, (some (Jvm.ClassFile.FieldType.int))) := rfl
theorem i_212_12 : iRow 212 12 = some (.iconst 1, 0, 0, 0, (some (Jvm.ClassFile.FieldType.int))) := rfl
theorem i_212_13 : iRow 212 13 = some (.invokevirtual 235, 283, 194, 1, (some (Jvm.ClassFile.FieldType.int))) := rfl
theorem i_212_16 : iRow 212 16 = some (.ifCond .ne 25, 0, 0, 0, (some (Jvm.ClassFile.FieldType.int))) := rfl
theorem i_212_19 : iRow 212 19 = some (.aload_n 0, 0, 0, 0, (some (Jvm.ClassFile.FieldType.int))) := rfl
theorem i_212_20 : iRow 212 20 = some (.iload_n 3, 0, 0, 0, (some (Jvm.ClassFile.FieldType.int))) := rfl
theorem i_212_21 : iRow 212 21 = some (.iconst 0, 0, 0, 0, (some (Jvm.ClassFile.FieldType.int))) := rfl
theorem i_212_22 : iRow 212 22 = some (.iconst 3, 0, 0, 0, (some (Jvm.ClassFile.FieldType.int))) := rfl
theorem i_212_23 : iRow 212 23 = some (.invokestatic 106, 282, 193, 0, (some (Jvm.ClassFile.FieldType.int))) := rfl
theorem i_212_26 : iRow 212 26 = some (.ifCond .ne 7, 0, 0, 0, (some (Jvm.ClassFile.FieldType.int))) := rfl
theorem i_212_29 : iRow 212 29 = some (.iconst 1, 0, 0, 0, (some (Jvm.ClassFile.FieldType.int))) := rfl
theorem i_212_30 : iRow 212 30 = some (.goto 4, 0, 0, 0, (some (Jvm.ClassFile.FieldType.int))) := rfl
theorem i_212_33 : iRow 212 33 = some (.iconst 0, 0, 0, 0, (some (Jvm.ClassFile.FieldType.int))) := rfl
theorem i_212_34 : iRow 212 34 = some (.iconst 2, 0, 0, 0, (some (Jvm.ClassFile.FieldType.int))) := rfl
theorem i_212_35 : iRow 212 35 = some (.invokevirtual 235, 283, 194, 1, (some (Jvm.ClassFile.FieldType.int))) := rfl
theorem i_212_38 : iRow 212 38 = some (.ifCond .eq 7, 0, 0, 0, (some (Jvm.ClassFile.FieldType.int))) := rfl
theorem i_212_41 : iRow 212 41 = some (.iconst 0, 0, 0, 0, (some (Jvm.ClassFile.FieldType.int))) := rfl
theorem i_212_42 : iRow 212 42 = some (.goto 10, 0, 0, 0, (some (Jvm.ClassFile.FieldType.int))) := rfl
theorem i_212_45 : iRow 212 45 = some (.aload_n 0, 0, 0, 0, (some (Jvm.ClassFile.FieldType.int))) := rfl
theorem i_212_46 : iRow 212 46 = some (.iload_n 1, 0, 0, 0, (some (Jvm.ClassFile.FieldType.int))) := rfl
theorem i_212_47 : iRow 212 47 = some (.iload_n 2, 0, 0, 0, (some (Jvm.ClassFile.FieldType.int))) := rfl
theorem i_212_48 : iRow 212 48 = some (.iload_n 3, 0, 0, 0, (some (Jvm.ClassFile.FieldType.int))) := rfl
theorem i_212_49 : iRow 212 49 = some (.invokevirtual 272, 300, 211, 1, (some (Jvm.ClassFile.FieldType.int))) := rfl
theorem i_212_52 : iRow 212 52 = some (.ireturn, 0, 0, 0, (some (Jvm.ClassFile.FieldType.int))) := rfl
theorem i_284_0 : iRow 284 0 = some (.aload 4, 0, 0, 0, (some (Jvm.ClassFile.FieldType.int))) := rfl
theorem i_284_2 : iRow 284 2 = some (.iconst 0, 0, 0, 0, (some (Jvm.ClassFile.FieldType.int))) := rfl
theorem i_284_3 : iRow 284 3 = some (.aload_n 0, 0, 0, 0, (some (Jvm.ClassFile.FieldType.int))) := rfl
theorem i_284_4 : iRow 284 4 = some (.iload_n 1, 0, 0, 0, (some (Jvm.ClassFile.FieldType.int))) := rfl
theorem i_284_5 : iRow 284 5 = some (.iload_n 2, 0, 0, 0, (some (Jvm.ClassFile.FieldType.int))) := rfl
theorem i_284_6 : iRow 284 6 = some (.iload_n 3, 0, 0, 0, (some (Jvm.ClassFile.FieldType.int))) := rfl
theorem i_284_7 : iRow 284 7 = some (.invokevirtual 42, 165, 122, 1, (some (Jvm.ClassFile.FieldType.int))) := rfl
theorem i_284_10 : iRow 284 10 = some (.i2l, 0, 0, 0, (some (Jvm.ClassFile.FieldType.int))) := rfl
theorem i_284_11 : iRow 284 11 = some (.lastore, 0, 0, 0, (some (Jvm.ClassFile.FieldType.int))) := rfl
theorem i_284_12 : iRow 284 12 = some (.goto 11, 0, 0, 0, (some (Jvm.ClassFile.FieldType.int))) := rfl
theorem i_284_17 : iRow 284 17 = some (.iconst 1, 0, 0, 0, (some (Jvm.ClassFile.FieldType.int))) := rfl
theorem i_284_18 : iRow 284 18 = some (.ireturn, 0, 0, 0, (some (Jvm.ClassFile.FieldType.int))) := rfl
theorem i_284_21 : iRow 284 21 = some (.iconst 2, 0, 0, 0, (some (Jvm.ClassFile.FieldType.int))) := rfl
theorem i_284_22 : iRow 284 22 = some (.ireturn, 0, 0, 0, (some (Jvm.ClassFile.FieldType.int))) := rfl
theorem i_284_23 : iRow 284 23 = some (.iconst 0, 0, 0, 0, (some (Jvm.ClassFile.FieldType.int))) := rfl
theorem i_284_24 : iRow 284 24 = some (.ireturn, 0, 0, 0, (some (Jvm.ClassFile.FieldType.int))) := rfl
theorem s_xlook {O : pOut} {d kc ks : Nat} {Q : pRes → Prop} {es : PH} {bk nt wh : Int} (hs_es : sh es) (h_bk : -2147483648 ≤ bk ∧ bk ≤ 2147483647) (h_nt : -2147483648 ≤ nt ∧ nt ≤ 2147483647) (h_wh : -2147483648 ≤ wh ∧ wh ≤ 2147483647) (hT_es : hOK tT es)
    (K1 : bk < 0 → Q (.inr 2, es, kc + 1, ks + 6))
    (K2 : ¬ (bk < 0) → ∀ v2 : Int, v2 = (gI es 7 5).toInt → v2 ≤ bk → Q (.inr 2, es, kc + 1, ks + 6))
    (K3 : ¬ (bk < 0) → ∀ v2 : Int, v2 = (gI es 7 5).toInt → ¬ (v2 ≤ bk) → nt < 0 → Q (.inr 2, es, kc + 1, ks + 6))
    (K4 : ¬ (bk < 0) → ∀ v2 : Int, v2 = (gI es 7 5).toInt → ¬ (v2 ≤ bk) → ¬ (nt < 0) → ∀ v5 : Int, v5 = (gA es 13 bk.toNat).toInt → v5 ≤ nt → Q (.inr 2, es, kc + 1, ks + 6))
    (K5 : ¬ (bk < 0) → ∀ v2 : Int, v2 = (gI es 7 5).toInt → ¬ (v2 ≤ bk) → ¬ (nt < 0) → ∀ v5 : Int, v5 = (gA es 13 bk.toNat).toInt → ¬ (v5 ≤ nt) → wh < 0 → Q (.inr 3, es, kc + 1, ks + 6))
    (K6 : ¬ (bk < 0) → ∀ v2 : Int, v2 = (gI es 7 5).toInt → ¬ (v2 ≤ bk) → ¬ (nt < 0) → ∀ v5 : Int, v5 = (gA es 13 bk.toNat).toInt → ¬ (v5 ≤ nt) → ¬ (wh < 0) → wh < 4 → ∀ v9 : Int, v9 = (gA es 14 ((((bk * 24) + nt) * 4) + wh).toNat).toInt → Q (.inl (some (.int (zI v9))), es, kc, ks))
    (K7 : ¬ (bk < 0) → ∀ v2 : Int, v2 = (gI es 7 5).toInt → ¬ (v2 ≤ bk) → ¬ (nt < 0) → ∀ v5 : Int, v5 = (gA es 13 bk.toNat).toInt → ¬ (v5 ≤ nt) → ¬ (wh < 0) → ¬ (wh < 4) → Q (.inr 3, es, kc + 1, ks + 6)) :
    aW O (d + 3) 122 kc ks Q (0, [some (.ref 64), some (.int (zI bk)), some (.int (zI nt)), some (.int (zI wh))], [], es) := by
  refine x0 (r := (1, [some (.ref 64), some (.int (zI bk)), some (.int (zI nt)), some (.int (zI wh))], [.ref 64], es)) i_122_0 rfl ?_
  refine x0 (r := (2, [some (.ref 64), some (.int (zI bk)), some (.int (zI nt)), some (.int (zI wh))], [.int (zI bk), .ref 64], es)) i_122_1 rfl ?_
  refine x0 (r := (3, [some (.ref 64), some (.int (zI bk)), some (.int (zI nt)), some (.int (zI wh))], [.int (zI nt), .int (zI bk), .ref 64], es)) i_122_2 rfl ?_
  refine x_call (vs := [.ref 64, .int (zI bk), .int (zI nt)]) (rs := []) i_122_3 rfl (fun _ => rfl) rfl rfl rfl rfl rfl (pCall_v (p := 0) hs_es rfl rfl rfl rfl rfl (by decide) rfl rfl rfl rfl rfl) ?_
  show aW _ _ _ _ _ _ (0, [some (.ref 64), some (.int (zI bk)), some (.int (zI nt))], [], es)
  refine x0 (r := (1, [some (.ref 64), some (.int (zI bk)), some (.int (zI nt))], [.ref 64], es)) i_121_0 rfl ?_
  refine x0 (r := (2, [some (.ref 64), some (.int (zI bk)), some (.int (zI nt))], [.int (zI bk), .ref 64], es)) i_121_1 rfl ?_
  refine x_call (vs := [.ref 64, .int (zI bk)]) (rs := []) i_121_2 rfl (fun _ => rfl) rfl rfl rfl rfl rfl (pCall_v (p := 0) hs_es rfl rfl rfl rfl rfl (by decide) rfl rfl rfl rfl rfl) ?_
  show aW _ _ _ _ _ _ (0, [some (.ref 64), some (.int (zI bk))], [], es)
  refine x0 (r := (1, [some (.ref 64), some (.int (zI bk))], [.int (zI bk)], es)) i_116_0 rfl ?_
  by_cases c1 : bk < 0
  · refine x_ifT i_116_1 (by unfold i32 iLO iHI; omega) rfl (by simp only [zC, cR]; omega) ?_
    refine x0 (r := (20, [some (.ref 64), some (.int (zI bk))], [.int (zI 0)], es)) i_116_19 (by rfl) ?_
    refine x_ret (v := some (.int (zI 0))) i_116_20 rfl (fun _ => rfl) rfl rfl (pFin_b (by omega)) ?_
    show aW _ _ _ _ _ _ (5, [some (.ref 64), some (.int (zI bk)), some (.int (zI nt))], [.int (zI 0)], es)
    refine x_ifT i_121_5 (by unfold i32 iLO iHI; omega) rfl (by simp only [zC, cR]; omega) ?_
    refine x0 (r := (29, [some (.ref 64), some (.int (zI bk)), some (.int (zI nt))], [.int (zI 0)], es)) i_121_28 (by rfl) ?_
    refine x_ret (v := some (.int (zI 0))) i_121_29 rfl (fun _ => rfl) rfl rfl (pFin_b (by omega)) ?_
    show aW _ _ _ _ _ _ (6, [some (.ref 64), some (.int (zI bk)), some (.int (zI nt)), some (.int (zI wh))], [.int (zI 0)], es)
    refine x_ifF i_122_6 (by unfold i32 iLO iHI; omega) rfl (by simp only [zC, cR]; omega) ?_
    refine x_thr i_122_9 rfl (fun _ => rfl) rfl rfl rfl rfl ?_
    exact K1 c1
  · refine x_ifF i_116_1 (by unfold i32 iLO iHI; omega) rfl (by simp only [zC, cR]; omega) ?_
    refine x0 (r := (5, [some (.ref 64), some (.int (zI bk))], [.int (zI bk)], es)) i_116_4 rfl ?_
    refine x0 (r := (6, [some (.ref 64), some (.int (zI bk))], [.ref 64, .int (zI bk)], es)) i_116_5 rfl ?_
    refine x_getr (p := 0) (k := 71) i_116_6 hs_es rfl rfl ?_
    show aW _ _ _ _ _ _ (9, [some (.ref 64), some (.int (zI bk))], [.ref 71, .int (zI bk)], es)
    refine x_geti (p := 7) i_116_9 hs_es rfl rfl ?_
    obtain ⟨v2, e_v2⟩ : ∃ z : Int, z = (gI es 7 5).toInt := ⟨_, rfl⟩
    rw [← e_v2]
    have r_v2 : iLO ≤ v2 ∧ v2 ≤ iHI := by rw [e_v2]; exact i32_rng _
    unfold iLO iHI at r_v2
    have b_v2 : (0 : Int) ≤ v2 ∧ v2 ≤ (3 : Int) := by rw [e_v2]; exact gI_bd hT_es (p := 7) (b := 5) rfl rfl
    by_cases c3 : v2 ≤ bk
    · refine x_cmpT i_116_12 (by unfold i32 iLO iHI; omega) (by unfold i32 iLO iHI; omega) rfl (by simp only [zC, cR]; omega) ?_
      refine x0 (r := (20, [some (.ref 64), some (.int (zI bk))], [.int (zI 0)], es)) i_116_19 (by rfl) ?_
      refine x_ret (v := some (.int (zI 0))) i_116_20 rfl (fun _ => rfl) rfl rfl (pFin_b (by omega)) ?_
      show aW _ _ _ _ _ _ (5, [some (.ref 64), some (.int (zI bk)), some (.int (zI nt))], [.int (zI 0)], es)
      refine x_ifT i_121_5 (by unfold i32 iLO iHI; omega) rfl (by simp only [zC, cR]; omega) ?_
      refine x0 (r := (29, [some (.ref 64), some (.int (zI bk)), some (.int (zI nt))], [.int (zI 0)], es)) i_121_28 (by rfl) ?_
      refine x_ret (v := some (.int (zI 0))) i_121_29 rfl (fun _ => rfl) rfl rfl (pFin_b (by omega)) ?_
      show aW _ _ _ _ _ _ (6, [some (.ref 64), some (.int (zI bk)), some (.int (zI nt)), some (.int (zI wh))], [.int (zI 0)], es)
      refine x_ifF i_122_6 (by unfold i32 iLO iHI; omega) rfl (by simp only [zC, cR]; omega) ?_
      refine x_thr i_122_9 rfl (fun _ => rfl) rfl rfl rfl rfl ?_
      exact K2 c1 v2 e_v2 c3
    · refine x_cmpF i_116_12 (by unfold i32 iLO iHI; omega) (by unfold i32 iLO iHI; omega) rfl (by simp only [zC, cR]; omega) ?_
      refine x0 (r := (16, [some (.ref 64), some (.int (zI bk))], [.int (zI 1)], es)) i_116_15 (by rfl) ?_
      refine x0 (r := (20, [some (.ref 64), some (.int (zI bk))], [.int (zI 1)], es)) i_116_16 rfl ?_
      refine x_ret (v := some (.int (zI 1))) i_116_20 rfl (fun _ => rfl) rfl rfl (pFin_b (by omega)) ?_
      show aW _ _ _ _ _ _ (5, [some (.ref 64), some (.int (zI bk)), some (.int (zI nt))], [.int (zI 1)], es)
      refine x_ifF i_121_5 (by unfold i32 iLO iHI; omega) rfl (by simp only [zC, cR]; omega) ?_
      refine x0 (r := (9, [some (.ref 64), some (.int (zI bk)), some (.int (zI nt))], [.int (zI nt)], es)) i_121_8 rfl ?_
      by_cases c4 : nt < 0
      · refine x_ifT i_121_9 (by unfold i32 iLO iHI; omega) rfl (by simp only [zC, cR]; omega) ?_
        refine x0 (r := (29, [some (.ref 64), some (.int (zI bk)), some (.int (zI nt))], [.int (zI 0)], es)) i_121_28 (by rfl) ?_
        refine x_ret (v := some (.int (zI 0))) i_121_29 rfl (fun _ => rfl) rfl rfl (pFin_b (by omega)) ?_
        show aW _ _ _ _ _ _ (6, [some (.ref 64), some (.int (zI bk)), some (.int (zI nt)), some (.int (zI wh))], [.int (zI 0)], es)
        refine x_ifF i_122_6 (by unfold i32 iLO iHI; omega) rfl (by simp only [zC, cR]; omega) ?_
        refine x_thr i_122_9 rfl (fun _ => rfl) rfl rfl rfl rfl ?_
        exact K3 c1 v2 e_v2 c3 c4
      · refine x_ifF i_121_9 (by unfold i32 iLO iHI; omega) rfl (by simp only [zC, cR]; omega) ?_
        refine x0 (r := (13, [some (.ref 64), some (.int (zI bk)), some (.int (zI nt))], [.int (zI nt)], es)) i_121_12 rfl ?_
        refine x0 (r := (14, [some (.ref 64), some (.int (zI bk)), some (.int (zI nt))], [.ref 64, .int (zI nt)], es)) i_121_13 rfl ?_
        refine x_getr (p := 0) (k := 71) i_121_14 hs_es rfl rfl ?_
        show aW _ _ _ _ _ _ (17, [some (.ref 64), some (.int (zI bk)), some (.int (zI nt))], [.ref 71, .int (zI nt)], es)
        refine x0 (r := (18, [some (.ref 64), some (.int (zI bk)), some (.int (zI nt))], [.int (zI bk), .ref 71, .int (zI nt)], es)) i_121_17 rfl ?_
        refine x_call (vs := [.ref 71, .int (zI bk)]) (rs := [.int (zI nt)]) i_121_18 rfl (fun _ => rfl) rfl rfl rfl rfl rfl (pCall_v (p := 7) hs_es rfl rfl rfl rfl rfl (by decide) rfl rfl rfl rfl rfl) ?_
        show aW _ _ _ _ _ _ (0, [some (.ref 71), some (.int (zI bk))], [], es)
        refine x0 (r := (1, [some (.ref 71), some (.int (zI bk))], [.ref 71], es)) i_35_0 rfl ?_
        refine x_getr (p := 7) (k := 77) i_35_1 hs_es rfl rfl ?_
        show aW _ _ _ _ _ _ (4, [some (.ref 71), some (.int (zI bk))], [.ref 77], es)
        refine x0 (r := (5, [some (.ref 71), some (.int (zI bk))], [.int (zI bk), .ref 77], es)) i_35_4 rfl ?_
        refine x_call (vs := [.ref 77, .int (zI bk)]) (rs := []) i_35_5 rfl (fun _ => rfl) rfl rfl rfl rfl rfl rfl ?_
        show aW _ _ _ _ _ _ (0, [some (.ref 77), some (.int (zI bk))], [], es)
        refine x0 (r := (1, [some (.ref 77), some (.int (zI bk))], [.int (zI bk)], es)) i_28_0 rfl ?_
        refine x_ifF i_28_1 (by unfold i32 iLO iHI; omega) rfl (by simp only [zC, cR]; omega) ?_
        refine x0 (r := (5, [some (.ref 77), some (.int (zI bk))], [.int (zI bk)], es)) i_28_4 rfl ?_
        refine x0 (r := (6, [some (.ref 77), some (.int (zI bk))], [.ref 77, .int (zI bk)], es)) i_28_5 rfl ?_
        refine x_alen (p := 13) (n := 3) i_28_6 hs_es rfl ?_
        refine x_cmpF i_28_7 (by unfold i32 iLO iHI; omega) (by unfold i32 iLO iHI; omega) rfl (by simp only [zC, cR]; omega) ?_
        refine x0 (r := (11, [some (.ref 77), some (.int (zI bk))], [.ref 77], es)) i_28_10 rfl ?_
        refine x0 (r := (12, [some (.ref 77), some (.int (zI bk))], [.int (zI bk), .ref 77], es)) i_28_11 rfl ?_
        refine x_iald (p := 13) i_28_12 hs_es rfl (by unfold i32 iLO iHI; omega) (by omega) (by omega) ?_
        obtain ⟨v5, e_v5⟩ : ∃ z : Int, z = (gA es 13 bk.toNat).toInt := ⟨_, rfl⟩
        rw [← e_v5]
        have r_v5 : iLO ≤ v5 ∧ v5 ≤ iHI := by rw [e_v5]; exact i32_rng _
        unfold iLO iHI at r_v5
        have b_v5 : (0 : Int) ≤ v5 ∧ v5 ≤ (24 : Int) := by rw [e_v5]; exact gA_bd hT_es (p := 13) (k := bk.toNat) rfl (by omega) (by decide)
        refine x0 (r := (17, [some (.ref 77), some (.int (zI bk))], [.int (zI v5)], es)) i_28_13 rfl ?_
        refine x_ret (v := some (.int (zI v5))) i_28_17 rfl (fun _ => rfl) rfl rfl rfl ?_
        show aW _ _ _ _ _ _ (8, [some (.ref 71), some (.int (zI bk))], [.int (zI v5)], es)
        refine x_ret (v := some (.int (zI v5))) i_35_8 rfl (fun _ => rfl) rfl rfl rfl ?_
        show aW _ _ _ _ _ _ (21, [some (.ref 64), some (.int (zI bk)), some (.int (zI nt))], [.int (zI v5), .int (zI nt)], es)
        by_cases c6 : v5 ≤ nt
        · refine x_cmpT i_121_21 (by unfold i32 iLO iHI; omega) (by unfold i32 iLO iHI; omega) rfl (by simp only [zC, cR]; omega) ?_
          refine x0 (r := (29, [some (.ref 64), some (.int (zI bk)), some (.int (zI nt))], [.int (zI 0)], es)) i_121_28 (by rfl) ?_
          refine x_ret (v := some (.int (zI 0))) i_121_29 rfl (fun _ => rfl) rfl rfl (pFin_b (by omega)) ?_
          show aW _ _ _ _ _ _ (6, [some (.ref 64), some (.int (zI bk)), some (.int (zI nt)), some (.int (zI wh))], [.int (zI 0)], es)
          refine x_ifF i_122_6 (by unfold i32 iLO iHI; omega) rfl (by simp only [zC, cR]; omega) ?_
          refine x_thr i_122_9 rfl (fun _ => rfl) rfl rfl rfl rfl ?_
          exact K4 c1 v2 e_v2 c3 c4 v5 e_v5 c6
        · refine x_cmpF i_121_21 (by unfold i32 iLO iHI; omega) (by unfold i32 iLO iHI; omega) rfl (by simp only [zC, cR]; omega) ?_
          refine x0 (r := (25, [some (.ref 64), some (.int (zI bk)), some (.int (zI nt))], [.int (zI 1)], es)) i_121_24 (by rfl) ?_
          refine x0 (r := (29, [some (.ref 64), some (.int (zI bk)), some (.int (zI nt))], [.int (zI 1)], es)) i_121_25 rfl ?_
          refine x_ret (v := some (.int (zI 1))) i_121_29 rfl (fun _ => rfl) rfl rfl (pFin_b (by omega)) ?_
          show aW _ _ _ _ _ _ (6, [some (.ref 64), some (.int (zI bk)), some (.int (zI nt)), some (.int (zI wh))], [.int (zI 1)], es)
          refine x_ifT i_122_6 (by unfold i32 iLO iHI; omega) rfl (by simp only [zC, cR]; omega) ?_
          refine x0 (r := (20, [some (.ref 64), some (.int (zI bk)), some (.int (zI nt)), some (.int (zI wh))], [.int (zI wh)], es)) i_122_19 rfl ?_
          by_cases c7 : wh < 0
          · refine x_ifT i_122_20 (by unfold i32 iLO iHI; omega) rfl (by simp only [zC, cR]; omega) ?_
            refine x_thr i_122_28 rfl (fun _ => rfl) rfl rfl rfl rfl ?_
            exact K5 c1 v2 e_v2 c3 c4 v5 e_v5 c6 c7
          · refine x_ifF i_122_20 (by unfold i32 iLO iHI; omega) rfl (by simp only [zC, cR]; omega) ?_
            refine x0 (r := (24, [some (.ref 64), some (.int (zI bk)), some (.int (zI nt)), some (.int (zI wh))], [.int (zI wh)], es)) i_122_23 rfl ?_
            refine x0 (r := (25, [some (.ref 64), some (.int (zI bk)), some (.int (zI nt)), some (.int (zI wh))], [.int (zI 4), .int (zI wh)], es)) i_122_24 (by rfl) ?_
            by_cases c8 : wh < 4
            · refine x_cmpT i_122_25 (by unfold i32 iLO iHI; omega) (by unfold i32 iLO iHI; omega) rfl (by simp only [zC, cR]; omega) ?_
              refine x0 (r := (39, [some (.ref 64), some (.int (zI bk)), some (.int (zI nt)), some (.int (zI wh))], [.ref 64], es)) i_122_38 rfl ?_
              refine x_getr (p := 0) (k := 71) i_122_39 hs_es rfl rfl ?_
              show aW _ _ _ _ _ _ (42, [some (.ref 64), some (.int (zI bk)), some (.int (zI nt)), some (.int (zI wh))], [.ref 71], es)
              refine x0 (r := (43, [some (.ref 64), some (.int (zI bk)), some (.int (zI nt)), some (.int (zI wh))], [.int (zI bk), .ref 71], es)) i_122_42 rfl ?_
              refine x0 (r := (44, [some (.ref 64), some (.int (zI bk)), some (.int (zI nt)), some (.int (zI wh))], [.int (zI nt), .int (zI bk), .ref 71], es)) i_122_43 rfl ?_
              refine x0 (r := (45, [some (.ref 64), some (.int (zI bk)), some (.int (zI nt)), some (.int (zI wh))], [.int (zI wh), .int (zI nt), .int (zI bk), .ref 71], es)) i_122_44 rfl ?_
              refine x_call (vs := [.ref 71, .int (zI bk), .int (zI nt), .int (zI wh)]) (rs := []) i_122_45 rfl (fun _ => rfl) rfl rfl rfl rfl rfl (pCall_v (p := 7) hs_es rfl rfl rfl rfl rfl (by decide) rfl rfl rfl rfl rfl) ?_
              show aW _ _ _ _ _ _ (0, [some (.ref 71), some (.int (zI bk)), some (.int (zI nt)), some (.int (zI wh))], [], es)
              refine x0 (r := (1, [some (.ref 71), some (.int (zI bk)), some (.int (zI nt)), some (.int (zI wh))], [.ref 71], es)) i_43_0 rfl ?_
              refine x_getr (p := 7) (k := 78) i_43_1 hs_es rfl rfl ?_
              show aW _ _ _ _ _ _ (4, [some (.ref 71), some (.int (zI bk)), some (.int (zI nt)), some (.int (zI wh))], [.ref 78], es)
              refine x0 (r := (5, [some (.ref 71), some (.int (zI bk)), some (.int (zI nt)), some (.int (zI wh))], [.int (zI bk), .ref 78], es)) i_43_4 rfl ?_
              refine x0 (r := (7, [some (.ref 71), some (.int (zI bk)), some (.int (zI nt)), some (.int (zI wh))], [.int (zI 24), .int (zI bk), .ref 78], es)) i_43_5 (by rfl) ?_
              refine x_imul i_43_7 ?_
              refine x0 (r := (9, [some (.ref 71), some (.int (zI bk)), some (.int (zI nt)), some (.int (zI wh))], [.int (zI nt), .int (zI (bk * 24)), .ref 78], es)) i_43_8 rfl ?_
              refine x_iadd i_43_9 ?_
              refine x0 (r := (11, [some (.ref 71), some (.int (zI bk)), some (.int (zI nt)), some (.int (zI wh))], [.int (zI 4), .int (zI ((bk * 24) + nt)), .ref 78], es)) i_43_10 (by rfl) ?_
              refine x_imul i_43_11 ?_
              refine x0 (r := (13, [some (.ref 71), some (.int (zI bk)), some (.int (zI nt)), some (.int (zI wh))], [.int (zI wh), .int (zI (((bk * 24) + nt) * 4)), .ref 78], es)) i_43_12 rfl ?_
              refine x_iadd i_43_13 ?_
              refine x_call (vs := [.ref 78, .int (zI ((((bk * 24) + nt) * 4) + wh))]) (rs := []) i_43_14 rfl (fun _ => rfl) rfl rfl rfl rfl rfl rfl ?_
              show aW _ _ _ _ _ _ (0, [some (.ref 78), some (.int (zI ((((bk * 24) + nt) * 4) + wh)))], [], es)
              refine x0 (r := (1, [some (.ref 78), some (.int (zI ((((bk * 24) + nt) * 4) + wh)))], [.int (zI ((((bk * 24) + nt) * 4) + wh))], es)) i_28_0 rfl ?_
              refine x_ifF i_28_1 (by unfold i32 iLO iHI; omega) rfl (by simp only [zC, cR]; omega) ?_
              refine x0 (r := (5, [some (.ref 78), some (.int (zI ((((bk * 24) + nt) * 4) + wh)))], [.int (zI ((((bk * 24) + nt) * 4) + wh))], es)) i_28_4 rfl ?_
              refine x0 (r := (6, [some (.ref 78), some (.int (zI ((((bk * 24) + nt) * 4) + wh)))], [.ref 78, .int (zI ((((bk * 24) + nt) * 4) + wh))], es)) i_28_5 rfl ?_
              refine x_alen (p := 14) (n := 288) i_28_6 hs_es rfl ?_
              refine x_cmpF i_28_7 (by unfold i32 iLO iHI; omega) (by unfold i32 iLO iHI; omega) rfl (by simp only [zC, cR]; omega) ?_
              refine x0 (r := (11, [some (.ref 78), some (.int (zI ((((bk * 24) + nt) * 4) + wh)))], [.ref 78], es)) i_28_10 rfl ?_
              refine x0 (r := (12, [some (.ref 78), some (.int (zI ((((bk * 24) + nt) * 4) + wh)))], [.int (zI ((((bk * 24) + nt) * 4) + wh)), .ref 78], es)) i_28_11 rfl ?_
              refine x_iald (p := 14) i_28_12 hs_es rfl (by unfold i32 iLO iHI; omega) (by omega) (by omega) ?_
              obtain ⟨v9, e_v9⟩ : ∃ z : Int, z = (gA es 14 ((((bk * 24) + nt) * 4) + wh).toNat).toInt := ⟨_, rfl⟩
              rw [← e_v9]
              have r_v9 : iLO ≤ v9 ∧ v9 ≤ iHI := by rw [e_v9]; exact i32_rng _
              unfold iLO iHI at r_v9
              refine x0 (r := (17, [some (.ref 78), some (.int (zI ((((bk * 24) + nt) * 4) + wh)))], [.int (zI v9)], es)) i_28_13 rfl ?_
              refine x_ret (v := some (.int (zI v9))) i_28_17 rfl (fun _ => rfl) rfl rfl rfl ?_
              show aW _ _ _ _ _ _ (17, [some (.ref 71), some (.int (zI bk)), some (.int (zI nt)), some (.int (zI wh))], [.int (zI v9)], es)
              refine x_ret (v := some (.int (zI v9))) i_43_17 rfl (fun _ => rfl) rfl rfl rfl ?_
              show aW _ _ _ _ _ _ (48, [some (.ref 64), some (.int (zI bk)), some (.int (zI nt)), some (.int (zI wh))], [.int (zI v9)], es)
              refine x_ret (v := some (.int (zI v9))) i_122_48 rfl (fun _ => rfl) rfl rfl rfl ?_
              exact K6 c1 v2 e_v2 c3 c4 v5 e_v5 c6 c7 c8 v9 e_v9
            · refine x_cmpF i_122_25 (by unfold i32 iLO iHI; omega) (by unfold i32 iLO iHI; omega) rfl (by simp only [zC, cR]; omega) ?_
              refine x_thr i_122_28 rfl (fun _ => rfl) rfl rfl rfl rfl ?_
              exact K7 c1 v2 e_v2 c3 c4 v5 e_v5 c6 c7 c8
def lookxP (bk : Int) (nt : Int) (wh : Int) (es : PH) (r : Option Value ⊕ Nat) (es1 : PH) : Prop := sh es1 ∧ True ∧ ((r = .inr 2 ∧ (bk < 0 ∨ (gI es 7 5).toInt ≤ bk ∨ nt < 0 ∨ (gA es 13 bk.toNat).toInt ≤ nt) ∧ True) ∨ (r = .inr 3 ∧ ((0 ≤ bk ∧ bk < (gI es 7 5).toInt ∧ 0 ≤ nt ∧ nt < (gA es 13 bk.toNat).toInt) ∧ (wh < 0 ∨ 3 < wh)) ∧ True) ∨ (r = .inl (some (.int (zI ((gA es 14 ((((bk * 24) + nt) * 4) + wh).toNat).toInt)))) ∧ ((0 ≤ bk ∧ bk < (gI es 7 5).toInt ∧ 0 ≤ nt ∧ nt < (gA es 13 bk.toNat).toInt) ∧ (0 ≤ wh ∧ wh ≤ 3)) ∧ True))
theorem fn_lookx {O : pOut} {d : Nat} {es : PH} {bk nt wh : Int} (h_bk : i32 bk) (h_nt : i32 nt) (h_wh : i32 wh) (hT : hOK tT es) : aW O (d + 3) 122 0 0 (fun o => lookxP bk nt wh es o.1 o.2.1) (0, [some (.ref 64), some (.int (zI bk)), some (.int (zI nt)), some (.int (zI wh))], [], es) := by
  have hs_es := sh_of hT
  have hB : 0 ≤ (gI es 7 5).toInt ∧ (gI es 7 5).toInt ≤ 3 := gI_bd hT (p := 7) (b := 5) rfl rfl
  have hC : bk < 0 ∨ 2 < bk ∨ (0 ≤ (gA es 13 bk.toNat).toInt ∧ (gA es 13 bk.toNat).toInt ≤ 24) := by
    by_cases h1 : 0 ≤ bk ∧ bk ≤ 2
    · exact Or.inr (Or.inr (gA_bd hT (p := 13) (t := 0) (n := 3) (k := bk.toNat) rfl (by omega) (by decide)))
    · omega
  refine s_xlook (d := d) (kc := 0) (ks := 0) hs_es h_bk h_nt h_wh hT (fun c1 => ?_) (fun c1 v2 e_v2 c3 => ?_) (fun c1 v2 e_v2 c3 c4 => ?_) (fun c1 v2 e_v2 c3 c4 v5 e_v5 c6 => ?_) (fun c1 v2 e_v2 c3 c4 v5 e_v5 c6 c7 => ?_) (fun c1 v2 e_v2 c3 c4 v5 e_v5 c6 c7 c8 v9 e_v9 => ?_) (fun c1 v2 e_v2 c3 c4 v5 e_v5 c6 c7 c8 => ?_)
  · exact ⟨hs_es, trivial, Or.inl ⟨rfl, by omega, trivial⟩⟩
  · exact ⟨hs_es, trivial, Or.inl ⟨rfl, by omega, trivial⟩⟩
  · exact ⟨hs_es, trivial, Or.inl ⟨rfl, by omega, trivial⟩⟩
  · exact ⟨hs_es, trivial, Or.inl ⟨rfl, by omega, trivial⟩⟩
  · exact ⟨hs_es, trivial, Or.inr (Or.inl ⟨rfl, by omega, trivial⟩)⟩
  · exact ⟨hs_es, trivial, Or.inr (Or.inr (⟨by rw [e_v9], by omega, trivial⟩))⟩
  · exact ⟨hs_es, trivial, Or.inr (Or.inl ⟨rfl, by omega, trivial⟩)⟩
theorem s_looky0 {O : pOut} {d kc ks : Nat} {Q : pRes → Prop} {es : PH} {bk nt wh : Int} (hs_es : sh es)
    (K1 : aW O d 284 kc ks Q (7, [some (.ref 64), some (.int (zI bk)), some (.int (zI nt)), some (.int (zI wh)), some (.ref 171), none], [.int (zI wh), .int (zI nt), .int (zI bk), .ref 64, .int (zI 0), .ref 171], es)) :
    aW O d 284 kc ks Q (0, [some (.ref 64), some (.int (zI bk)), some (.int (zI nt)), some (.int (zI wh)), some (.ref 171), none], [], es) := by
  refine x0 (r := (2, [some (.ref 64), some (.int (zI bk)), some (.int (zI nt)), some (.int (zI wh)), some (.ref 171), none], [.ref 171], es)) i_284_0 rfl ?_
  refine x0 (r := (3, [some (.ref 64), some (.int (zI bk)), some (.int (zI nt)), some (.int (zI wh)), some (.ref 171), none], [.int (zI 0), .ref 171], es)) i_284_2 (by rfl) ?_
  refine x0 (r := (4, [some (.ref 64), some (.int (zI bk)), some (.int (zI nt)), some (.int (zI wh)), some (.ref 171), none], [.ref 64, .int (zI 0), .ref 171], es)) i_284_3 rfl ?_
  refine x0 (r := (5, [some (.ref 64), some (.int (zI bk)), some (.int (zI nt)), some (.int (zI wh)), some (.ref 171), none], [.int (zI bk), .ref 64, .int (zI 0), .ref 171], es)) i_284_4 rfl ?_
  refine x0 (r := (6, [some (.ref 64), some (.int (zI bk)), some (.int (zI nt)), some (.int (zI wh)), some (.ref 171), none], [.int (zI nt), .int (zI bk), .ref 64, .int (zI 0), .ref 171], es)) i_284_5 rfl ?_
  refine x0 (r := (7, [some (.ref 64), some (.int (zI bk)), some (.int (zI nt)), some (.int (zI wh)), some (.ref 171), none], [.int (zI wh), .int (zI nt), .int (zI bk), .ref 64, .int (zI 0), .ref 171], es)) i_284_6 rfl ?_
  exact K1
theorem s_looky1 {O : pOut} {d kc ks : Nat} {Q : pRes → Prop} {es : PH} {bk nt wh v : Int} (hs_es : sh es)
    (K1 : ∀ es1 : PH, es1 = sJ es 107 (Int.toNat 0) ((zI v).toInt64) → Q (.inl (some (.int (zI 0))), es1, kc, ks)) :
    aW O d 284 kc ks Q (10, [some (.ref 64), some (.int (zI bk)), some (.int (zI nt)), some (.int (zI wh)), some (.ref 171), none], [.int (zI v), .int (zI 0), .ref 171], es) := by
  refine x0 (r := (11, [some (.ref 64), some (.int (zI bk)), some (.int (zI nt)), some (.int (zI wh)), some (.ref 171), none], [.long ((zI v).toInt64), .int (zI 0), .ref 171], es)) i_284_10 rfl ?_
  refine x_last (p := 107) i_284_11 hs_es rfl (by unfold i32 iLO iHI; omega) (by omega) (by omega) ?_
  obtain ⟨es1, e_es1⟩ : ∃ z : PH, z = sJ es 107 (Int.toNat 0) ((zI v).toInt64) := ⟨_, rfl⟩
  have hs_es1 : sh es1 := by rw [e_es1]; exact sh_sJ hs_es
  rw [← e_es1]
  refine x0 (r := (23, [some (.ref 64), some (.int (zI bk)), some (.int (zI nt)), some (.int (zI wh)), some (.ref 171), none], [], es1)) i_284_12 rfl ?_
  refine x0 (r := (24, [some (.ref 64), some (.int (zI bk)), some (.int (zI nt)), some (.int (zI wh)), some (.ref 171), none], [.int (zI 0)], es1)) i_284_23 (by rfl) ?_
  refine x_ret (v := some (.int (zI 0))) i_284_24 rfl (fun _ => rfl) rfl rfl rfl ?_
  exact K1 es1 e_es1
theorem s_looky17 {O : pOut} {d kc ks : Nat} {Q : pRes → Prop} {es : PH} {bk nt wh : Int} (hs_es : sh es)
    (K1 : Q (.inl (some (.int (zI 1))), es, kc, ks)) :
    aW O d 284 kc ks Q (17, [some (.ref 64), some (.int (zI bk)), some (.int (zI nt)), some (.int (zI wh)), some (.ref 171), none], [], es) := by
  refine x0 (r := (18, [some (.ref 64), some (.int (zI bk)), some (.int (zI nt)), some (.int (zI wh)), some (.ref 171), none], [.int (zI 1)], es)) i_284_17 (by rfl) ?_
  refine x_ret (v := some (.int (zI 1))) i_284_18 rfl (fun _ => rfl) rfl rfl rfl ?_
  exact K1
theorem s_looky21 {O : pOut} {d kc ks : Nat} {Q : pRes → Prop} {es : PH} {bk nt wh : Int} (hs_es : sh es)
    (K1 : Q (.inl (some (.int (zI 2))), es, kc, ks)) :
    aW O d 284 kc ks Q (21, [some (.ref 64), some (.int (zI bk)), some (.int (zI nt)), some (.int (zI wh)), some (.ref 171), none], [], es) := by
  refine x0 (r := (22, [some (.ref 64), some (.int (zI bk)), some (.int (zI nt)), some (.int (zI wh)), some (.ref 171), none], [.int (zI 2)], es)) i_284_21 (by rfl) ?_
  refine x_ret (v := some (.int (zI 2))) i_284_22 rfl (fun _ => rfl) rfl rfl rfl ?_
  exact K1
def lookyP (bk : Int) (nt : Int) (wh : Int) (es : PH) (r : Option Value ⊕ Nat) (es1 : PH) : Prop := sh es1 ∧ True ∧ ∃ k : Int, r = .inl (some (.int (zI k))) ∧ ((k = 1 ∧ (bk < 0 ∨ (gI es 7 5).toInt ≤ bk ∨ nt < 0 ∨ (gA es 13 bk.toNat).toInt ≤ nt) ∧ True) ∨ (k = 2 ∧ ((0 ≤ bk ∧ bk < (gI es 7 5).toInt ∧ 0 ≤ nt ∧ nt < (gA es 13 bk.toNat).toInt) ∧ (wh < 0 ∨ 3 < wh)) ∧ True) ∨ (k = 0 ∧ ((0 ≤ bk ∧ bk < (gI es 7 5).toInt ∧ 0 ≤ nt ∧ nt < (gA es 13 bk.toNat).toInt) ∧ (0 ≤ wh ∧ wh ≤ 3)) ∧ (gJ es1 107 (Int.toNat 0)).toInt = (gA es 14 ((((bk * 24) + nt) * 4) + wh).toNat).toInt))
theorem fn_looky {O : pOut} {d : Nat} {es : PH} {bk nt wh : Int} (h_bk : i32 bk) (h_nt : i32 nt) (h_wh : i32 wh) (hT : hOK tT es) : aW O (d + 4) 284 0 0 (fun o => lookyP bk nt wh es o.1 o.2.1) (0, [some (.ref 64), some (.int (zI bk)), some (.int (zI nt)), some (.int (zI wh)), some (.ref 171), none], [], es) := by
  refine s_looky0 (sh_of hT) ?_
  refine x_call (vs := [.ref 64, .int (zI bk), .int (zI nt), .int (zI wh)]) (rs := [.int (zI 0), .ref 171]) i_284_7 rfl (fun _ => rfl) rfl rfl rfl rfl rfl (pCall_v (p := 0) (sh_of hT) rfl rfl rfl rfl rfl (by decide) rfl rfl rfl rfl rfl) ?_
  show aW _ _ _ _ _ _ (0, [some (.ref 64), some (.int (zI bk)), some (.int (zI nt)), some (.int (zI wh))], [], es)
  refine aW_mono (Nat.le_refl _) (fun o ho => ?_) (fn_lookx (O := O) (d := d) h_bk h_nt h_wh hT)
  obtain ⟨r, es', kc', ks'⟩ := o
  obtain ⟨hs1, hcm, h⟩ : lookxP bk nt wh es r es' := ho
  rcases h with ⟨rfl, hc, -⟩ | ⟨rfl, hc, -⟩ | ⟨rfl, hc, -⟩
  · refine ⟨_, _, _, _, rfl, rfl, rfl, ?_⟩
    show aW _ _ _ _ _ _ (17, [some (.ref 64), some (.int (zI bk)), some (.int (zI nt)), some (.int (zI wh)), some (.ref 171), none], [], es')
    exact s_looky17 hs1 ⟨hs1, hcm, 1, rfl, Or.inl ⟨rfl, hc, trivial⟩⟩
  · refine ⟨_, _, _, _, rfl, rfl, rfl, ?_⟩
    show aW _ _ _ _ _ _ (21, [some (.ref 64), some (.int (zI bk)), some (.int (zI nt)), some (.int (zI wh)), some (.ref 171), none], [], es')
    exact s_looky21 hs1 ⟨hs1, hcm, 2, rfl, Or.inr (Or.inl ⟨rfl, hc, trivial⟩)⟩
  · refine aK_inl ?_
    show aW _ _ _ _ _ _ (10, [some (.ref 64), some (.int (zI bk)), some (.int (zI nt)), some (.int (zI wh)), some (.ref 171), none], [.int (zI ((gA es 14 ((((bk * 24) + nt) * 4) + wh).toNat).toInt)), .int (zI 0), .ref 171], es')
    refine s_looky1 hs1 (fun es1 e_es1 => ?_)
    have g9 : (gJ es1 107 (Int.toNat 0)).toInt = (gA es 14 ((((bk * 24) + nt) * 4) + wh).toNat).toInt := by
      rw [e_es1, gJ_sJ hs1 (p := 107) (n := 1) rfl]
      unfold vp_updL
      rw [if_pos rfl, i2l_int (i32_rng _)]
    exact ⟨by show sh es1; rw [e_es1]; exact sh_sJ hs1, trivial, 0, rfl, Or.inr (Or.inr (⟨rfl, hc, g9⟩))⟩
theorem s_mlook {O : pOut} {d kc ks : Nat} {Q : pRes → Prop} {es : PH} {bk nt wh : Int} (hs_es : sh es) (h_bk : -2147483648 ≤ bk ∧ bk ≤ 2147483647) (h_nt : -2147483648 ≤ nt ∧ nt ≤ 2147483647) (h_wh : -2147483648 ≤ wh ∧ wh ≤ 2147483647) (hT_es : hOK tT es)
    (K1 : ∀ es1 : PH, es1 = sI es 79 0 (.int (zI 0)) → ∀ v2 : Int, v2 = (gA es1 80 (Int.toNat 1)).toInt → bk < 0 → ∀ es4 : PH, es4 = sI es1 79 0 (.int (zI 1)) → Q (.inl (some (.int (zI 0))), es4, kc, ks))
    (K2 : ∀ es1 : PH, es1 = sI es 79 0 (.int (zI 0)) → ∀ v2 : Int, v2 = (gA es1 80 (Int.toNat 1)).toInt → ¬ (bk < 0) → (v2 - 1) < bk → ∀ es6 : PH, es6 = sI es1 79 0 (.int (zI 1)) → Q (.inl (some (.int (zI 0))), es6, kc, ks))
    (K3 : ∀ es1 : PH, es1 = sI es 79 0 (.int (zI 0)) → ∀ v2 : Int, v2 = (gA es1 80 (Int.toNat 1)).toInt → ¬ (bk < 0) → ¬ ((v2 - 1) < bk) → ∀ v7 : Int, v7 = (gA es1 80 ((119 + (98 * bk)) + 1).toNat).toInt → nt < 0 → ∀ es9 : PH, es9 = sI es1 79 0 (.int (zI 1)) → Q (.inl (some (.int (zI 0))), es9, kc, ks))
    (K4 : ∀ es1 : PH, es1 = sI es 79 0 (.int (zI 0)) → ∀ v2 : Int, v2 = (gA es1 80 (Int.toNat 1)).toInt → ¬ (bk < 0) → ¬ ((v2 - 1) < bk) → ∀ v7 : Int, v7 = (gA es1 80 ((119 + (98 * bk)) + 1).toNat).toInt → ¬ (nt < 0) → (v7 - 1) < nt → ∀ es11 : PH, es11 = sI es1 79 0 (.int (zI 1)) → Q (.inl (some (.int (zI 0))), es11, kc, ks))
    (K5 : ∀ es1 : PH, es1 = sI es 79 0 (.int (zI 0)) → ∀ v2 : Int, v2 = (gA es1 80 (Int.toNat 1)).toInt → ¬ (bk < 0) → ¬ ((v2 - 1) < bk) → ∀ v7 : Int, v7 = (gA es1 80 ((119 + (98 * bk)) + 1).toNat).toInt → ¬ (nt < 0) → ¬ ((v7 - 1) < nt) → wh < 0 → ∀ es13 : PH, es13 = sI es1 79 0 (.int (zI 2)) → Q (.inl (some (.int (zI 0))), es13, kc, ks))
    (K6 : ∀ es1 : PH, es1 = sI es 79 0 (.int (zI 0)) → ∀ v2 : Int, v2 = (gA es1 80 (Int.toNat 1)).toInt → ¬ (bk < 0) → ¬ ((v2 - 1) < bk) → ∀ v7 : Int, v7 = (gA es1 80 ((119 + (98 * bk)) + 1).toNat).toInt → ¬ (nt < 0) → ¬ ((v7 - 1) < nt) → ¬ (wh < 0) → 3 < wh → ∀ es15 : PH, es15 = sI es1 79 0 (.int (zI 2)) → Q (.inl (some (.int (zI 0))), es15, kc, ks))
    (K7 : ∀ es1 : PH, es1 = sI es 79 0 (.int (zI 0)) → ∀ v2 : Int, v2 = (gA es1 80 (Int.toNat 1)).toInt → ¬ (bk < 0) → ¬ ((v2 - 1) < bk) → ∀ v7 : Int, v7 = (gA es1 80 ((119 + (98 * bk)) + 1).toNat).toInt → ¬ (nt < 0) → ¬ ((v7 - 1) < nt) → ¬ (wh < 0) → ¬ (3 < wh) → ∀ v16 : Int, v16 = (gA es1 80 ((119 + (98 * bk)) + ((2 + (4 * nt)) + wh)).toNat).toInt → Q (.inl (some (.int (zI v16))), es1, kc, ks)) :
    aW O (d + 4) 212 kc ks Q (0, [some (.ref 143), some (.int (zI bk)), some (.int (zI nt)), some (.int (zI wh))], [], es) := by
  refine x0 (r := (1, [some (.ref 143), some (.int (zI bk)), some (.int (zI nt)), some (.int (zI wh))], [.ref 143], es)) i_212_0 rfl ?_
  refine x0 (r := (2, [some (.ref 143), some (.int (zI bk)), some (.int (zI nt)), some (.int (zI wh))], [.int (zI 0), .ref 143], es)) i_212_1 (by rfl) ?_
  refine x_puti (p := 79) (ty := .int) i_212_2 hs_es rfl rfl rfl (Or.inl rfl) ?_
  obtain ⟨es1, e_es1⟩ : ∃ z : PH, z = sI es 79 0 (.int (zI 0)) := ⟨_, rfl⟩
  have hs_es1 : sh es1 := by rw [e_es1]; exact sh_sI hs_es (p := 79) (b := 0) rfl rfl
  have hT_es1 : hOK tT es1 := by rw [e_es1]; exact hOK_sI hT_es (p := 79) (b := 0) (lo := iLO) (hi := iHI) rfl rfl (i32_rng _)
  rw [← e_es1]
  refine x0 (r := (6, [some (.ref 143), some (.int (zI bk)), some (.int (zI nt)), some (.int (zI wh))], [.ref 143], es1)) i_212_5 rfl ?_
  refine x0 (r := (7, [some (.ref 143), some (.int (zI bk)), some (.int (zI nt)), some (.int (zI wh))], [.ref 143, .ref 143], es1)) i_212_6 rfl ?_
  refine x0 (r := (8, [some (.ref 143), some (.int (zI bk)), some (.int (zI nt)), some (.int (zI wh))], [.int (zI bk), .ref 143, .ref 143], es1)) i_212_7 rfl ?_
  refine x0 (r := (9, [some (.ref 143), some (.int (zI bk)), some (.int (zI nt)), some (.int (zI wh))], [.int (zI nt), .int (zI bk), .ref 143, .ref 143], es1)) i_212_8 rfl ?_
  refine x_call (vs := [.ref 143, .int (zI bk), .int (zI nt)]) (rs := [.ref 143]) i_212_9 rfl (fun _ => rfl) rfl rfl rfl rfl rfl (pCall_v (p := 79) hs_es1 rfl rfl rfl rfl rfl (by decide) rfl rfl rfl rfl rfl) ?_
  show aW _ _ _ _ _ _ (0, [some (.ref 143), some (.int (zI bk)), some (.int (zI nt))], [], es1)
  refine x0 (r := (1, [some (.ref 143), some (.int (zI bk)), some (.int (zI nt))], [.ref 143], es1)) i_210_0 rfl ?_
  refine x0 (r := (2, [some (.ref 143), some (.int (zI bk)), some (.int (zI nt))], [.int (zI bk), .ref 143], es1)) i_210_1 rfl ?_
  refine x_call (vs := [.ref 143, .int (zI bk)]) (rs := []) i_210_2 rfl (fun _ => rfl) rfl rfl rfl rfl rfl (pCall_v (p := 79) hs_es1 rfl rfl rfl rfl rfl (by decide) rfl rfl rfl rfl rfl) ?_
  show aW _ _ _ _ _ _ (0, [some (.ref 143), some (.int (zI bk))], [], es1)
  refine x0 (r := (1, [some (.ref 143), some (.int (zI bk))], [.ref 143], es1)) i_203_0 rfl ?_
  refine x0 (r := (2, [some (.ref 143), some (.int (zI bk))], [.int (zI bk), .ref 143], es1)) i_203_1 rfl ?_
  refine x0 (r := (3, [some (.ref 143), some (.int (zI bk))], [.int (zI 1), .int (zI bk), .ref 143], es1)) i_203_2 (by rfl) ?_
  refine x_call (vs := [.ref 143, .int (zI bk), .int (zI 1)]) (rs := []) i_203_3 rfl (fun _ => rfl) rfl rfl rfl rfl rfl (pCall_v (p := 79) hs_es1 rfl rfl rfl rfl rfl (by decide) rfl rfl rfl rfl rfl) ?_
  show aW _ _ _ _ _ _ (0, [some (.ref 143), some (.int (zI bk)), some (.int (zI 1))], [], es1)
  refine x0 (r := (1, [some (.ref 143), some (.int (zI bk)), some (.int (zI 1))], [.int (zI bk)], es1)) i_199_0 rfl ?_
  refine x0 (r := (2, [some (.ref 143), some (.int (zI bk)), some (.int (zI 1))], [.int (zI 0), .int (zI bk)], es1)) i_199_1 (by rfl) ?_
  refine x0 (r := (3, [some (.ref 143), some (.int (zI bk)), some (.int (zI 1))], [.ref 143, .int (zI 0), .int (zI bk)], es1)) i_199_2 rfl ?_
  refine x_getr (p := 79) (k := 144) i_199_3 hs_es1 rfl rfl ?_
  show aW _ _ _ _ _ _ (6, [some (.ref 143), some (.int (zI bk)), some (.int (zI 1))], [.ref 144, .int (zI 0), .int (zI bk)], es1)
  refine x0 (r := (7, [some (.ref 143), some (.int (zI bk)), some (.int (zI 1))], [.int (zI 1), .ref 144, .int (zI 0), .int (zI bk)], es1)) i_199_6 rfl ?_
  refine x_iald (p := 80) i_199_7 hs_es1 rfl (by unfold i32 iLO iHI; omega) (by omega) (by omega) ?_
  obtain ⟨v2, e_v2⟩ : ∃ z : Int, z = (gA es1 80 (Int.toNat 1)).toInt := ⟨_, rfl⟩
  rw [← e_v2]
  have r_v2 : iLO ≤ v2 ∧ v2 ≤ iHI := by rw [e_v2]; exact i32_rng _
  unfold iLO iHI at r_v2
  have b_v2 : (0 : Int) ≤ v2 ∧ v2 ≤ (3 : Int) := by rw [e_v2]; exact gA_bd hT_es1 (p := 80) (k := (Int.toNat 1)) rfl (by omega) (by decide)
  refine x0 (r := (9, [some (.ref 143), some (.int (zI bk)), some (.int (zI 1))], [.int (zI 1), .int (zI v2), .int (zI 0), .int (zI bk)], es1)) i_199_8 (by rfl) ?_
  refine x_isub i_199_9 ?_
  refine x_call (vs := [.int (zI bk), .int (zI 0), .int (zI (v2 - 1))]) (rs := []) i_199_10 rfl (fun _ => rfl) rfl rfl rfl rfl rfl rfl ?_
  show aW _ _ _ _ _ _ (0, [some (.int (zI bk)), some (.int (zI 0)), some (.int (zI (v2 - 1)))], [], es1)
  refine x0 (r := (1, [some (.int (zI bk)), some (.int (zI 0)), some (.int (zI (v2 - 1)))], [.int (zI bk)], es1)) i_193_0 rfl ?_
  refine x0 (r := (2, [some (.int (zI bk)), some (.int (zI 0)), some (.int (zI (v2 - 1)))], [.int (zI 0), .int (zI bk)], es1)) i_193_1 rfl ?_
  by_cases c3 : bk < 0
  · refine x_cmpT i_193_2 (by unfold i32 iLO iHI; omega) (by unfold i32 iLO iHI; omega) rfl (by simp only [zC, cR]; omega) ?_
    refine x0 (r := (15, [some (.int (zI bk)), some (.int (zI 0)), some (.int (zI (v2 - 1)))], [.int (zI 0)], es1)) i_193_14 (by rfl) ?_
    refine x_ret (v := some (.int (zI 0))) i_193_15 rfl (fun _ => rfl) rfl rfl (pFin_b (by omega)) ?_
    show aW _ _ _ _ _ _ (13, [some (.ref 143), some (.int (zI bk)), some (.int (zI 1))], [.int (zI 0)], es1)
    refine x_ifF i_199_13 (by unfold i32 iLO iHI; omega) rfl (by simp only [zC, cR]; omega) ?_
    refine x0 (r := (17, [some (.ref 143), some (.int (zI bk)), some (.int (zI 1))], [.int (zI 1)], es1)) i_199_16 (by rfl) ?_
    refine x0 (r := (21, [some (.ref 143), some (.int (zI bk)), some (.int (zI 1))], [.int (zI 1)], es1)) i_199_17 rfl ?_
    refine x_ret (v := some (.int (zI 1))) i_199_21 rfl (fun _ => rfl) rfl rfl (pFin_b (by omega)) ?_
    show aW _ _ _ _ _ _ (6, [some (.ref 143), some (.int (zI bk))], [.int (zI 1)], es1)
    refine x_ret (v := some (.int (zI 1))) i_203_6 rfl (fun _ => rfl) rfl rfl (pFin_b (by omega)) ?_
    show aW _ _ _ _ _ _ (5, [some (.ref 143), some (.int (zI bk)), some (.int (zI nt))], [.int (zI 1)], es1)
    refine x_ifT i_210_5 (by unfold i32 iLO iHI; omega) rfl (by simp only [zC, cR]; omega) ?_
    refine x0 (r := (24, [some (.ref 143), some (.int (zI bk)), some (.int (zI nt))], [.int (zI 1)], es1)) i_210_23 (by rfl) ?_
    refine x0 (r := (28, [some (.ref 143), some (.int (zI bk)), some (.int (zI nt))], [.int (zI 1)], es1)) i_210_24 rfl ?_
    refine x_ret (v := some (.int (zI 1))) i_210_28 rfl (fun _ => rfl) rfl rfl (pFin_b (by omega)) ?_
    show aW _ _ _ _ _ _ (12, [some (.ref 143), some (.int (zI bk)), some (.int (zI nt)), some (.int (zI wh))], [.int (zI 1), .ref 143], es1)
    refine x0 (r := (13, [some (.ref 143), some (.int (zI bk)), some (.int (zI nt)), some (.int (zI wh))], [.int (zI 1), .int (zI 1), .ref 143], es1)) i_212_12 (by rfl) ?_
    refine x_call (vs := [.ref 143, .int (zI 1), .int (zI 1)]) (rs := []) i_212_13 rfl (fun _ => rfl) rfl rfl rfl rfl rfl (pCall_v (p := 79) hs_es1 rfl rfl rfl rfl rfl (by decide) rfl rfl rfl rfl rfl) ?_
    show aW _ _ _ _ _ _ (0, [some (.ref 143), some (.int (zI 1)), some (.int (zI 1))], [], es1)
    refine x0 (r := (1, [some (.ref 143), some (.int (zI 1)), some (.int (zI 1))], [.int (zI 1)], es1)) i_194_0 rfl ?_
    refine x_ifF i_194_1 (by unfold i32 iLO iHI; omega) rfl (by simp only [zC, cR]; omega) ?_
    refine x0 (r := (5, [some (.ref 143), some (.int (zI 1)), some (.int (zI 1))], [.ref 143], es1)) i_194_4 rfl ?_
    refine x0 (r := (6, [some (.ref 143), some (.int (zI 1)), some (.int (zI 1))], [.int (zI 1), .ref 143], es1)) i_194_5 rfl ?_
    refine x_puti (p := 79) (ty := .int) i_194_6 hs_es1 rfl rfl rfl (Or.inl rfl) ?_
    obtain ⟨es4, e_es4⟩ : ∃ z : PH, z = sI es1 79 0 (.int (zI 1)) := ⟨_, rfl⟩
    have hs_es4 : sh es4 := by rw [e_es4]; exact sh_sI hs_es1 (p := 79) (b := 0) rfl rfl
    have hT_es4 : hOK tT es4 := by rw [e_es4]; exact hOK_sI hT_es1 (p := 79) (b := 0) (lo := iLO) (hi := iHI) rfl rfl (i32_rng _)
    rw [← e_es4]
    refine x0 (r := (10, [some (.ref 143), some (.int (zI 1)), some (.int (zI 1))], [.int (zI 1)], es4)) i_194_9 rfl ?_
    refine x_ret (v := some (.int (zI 1))) i_194_10 rfl (fun _ => rfl) rfl rfl (pFin_b (by omega)) ?_
    show aW _ _ _ _ _ _ (16, [some (.ref 143), some (.int (zI bk)), some (.int (zI nt)), some (.int (zI wh))], [.int (zI 1)], es4)
    refine x_ifT i_212_16 (by unfold i32 iLO iHI; omega) rfl (by simp only [zC, cR]; omega) ?_
    refine x0 (r := (42, [some (.ref 143), some (.int (zI bk)), some (.int (zI nt)), some (.int (zI wh))], [.int (zI 0)], es4)) i_212_41 (by rfl) ?_
    refine x0 (r := (52, [some (.ref 143), some (.int (zI bk)), some (.int (zI nt)), some (.int (zI wh))], [.int (zI 0)], es4)) i_212_42 rfl ?_
    refine x_ret (v := some (.int (zI 0))) i_212_52 rfl (fun _ => rfl) rfl rfl rfl ?_
    exact K1 es1 e_es1 v2 e_v2 c3 es4 e_es4
  · refine x_cmpF i_193_2 (by unfold i32 iLO iHI; omega) (by unfold i32 iLO iHI; omega) rfl (by simp only [zC, cR]; omega) ?_
    refine x0 (r := (6, [some (.int (zI bk)), some (.int (zI 0)), some (.int (zI (v2 - 1)))], [.int (zI bk)], es1)) i_193_5 rfl ?_
    refine x0 (r := (7, [some (.int (zI bk)), some (.int (zI 0)), some (.int (zI (v2 - 1)))], [.int (zI (v2 - 1)), .int (zI bk)], es1)) i_193_6 rfl ?_
    by_cases c5 : (v2 - 1) < bk
    · refine x_cmpT i_193_7 (by unfold i32 iLO iHI; omega) (by unfold i32 iLO iHI; omega) rfl (by simp only [zC, cR]; omega) ?_
      refine x0 (r := (15, [some (.int (zI bk)), some (.int (zI 0)), some (.int (zI (v2 - 1)))], [.int (zI 0)], es1)) i_193_14 (by rfl) ?_
      refine x_ret (v := some (.int (zI 0))) i_193_15 rfl (fun _ => rfl) rfl rfl (pFin_b (by omega)) ?_
      show aW _ _ _ _ _ _ (13, [some (.ref 143), some (.int (zI bk)), some (.int (zI 1))], [.int (zI 0)], es1)
      refine x_ifF i_199_13 (by unfold i32 iLO iHI; omega) rfl (by simp only [zC, cR]; omega) ?_
      refine x0 (r := (17, [some (.ref 143), some (.int (zI bk)), some (.int (zI 1))], [.int (zI 1)], es1)) i_199_16 (by rfl) ?_
      refine x0 (r := (21, [some (.ref 143), some (.int (zI bk)), some (.int (zI 1))], [.int (zI 1)], es1)) i_199_17 rfl ?_
      refine x_ret (v := some (.int (zI 1))) i_199_21 rfl (fun _ => rfl) rfl rfl (pFin_b (by omega)) ?_
      show aW _ _ _ _ _ _ (6, [some (.ref 143), some (.int (zI bk))], [.int (zI 1)], es1)
      refine x_ret (v := some (.int (zI 1))) i_203_6 rfl (fun _ => rfl) rfl rfl (pFin_b (by omega)) ?_
      show aW _ _ _ _ _ _ (5, [some (.ref 143), some (.int (zI bk)), some (.int (zI nt))], [.int (zI 1)], es1)
      refine x_ifT i_210_5 (by unfold i32 iLO iHI; omega) rfl (by simp only [zC, cR]; omega) ?_
      refine x0 (r := (24, [some (.ref 143), some (.int (zI bk)), some (.int (zI nt))], [.int (zI 1)], es1)) i_210_23 (by rfl) ?_
      refine x0 (r := (28, [some (.ref 143), some (.int (zI bk)), some (.int (zI nt))], [.int (zI 1)], es1)) i_210_24 rfl ?_
      refine x_ret (v := some (.int (zI 1))) i_210_28 rfl (fun _ => rfl) rfl rfl (pFin_b (by omega)) ?_
      show aW _ _ _ _ _ _ (12, [some (.ref 143), some (.int (zI bk)), some (.int (zI nt)), some (.int (zI wh))], [.int (zI 1), .ref 143], es1)
      refine x0 (r := (13, [some (.ref 143), some (.int (zI bk)), some (.int (zI nt)), some (.int (zI wh))], [.int (zI 1), .int (zI 1), .ref 143], es1)) i_212_12 (by rfl) ?_
      refine x_call (vs := [.ref 143, .int (zI 1), .int (zI 1)]) (rs := []) i_212_13 rfl (fun _ => rfl) rfl rfl rfl rfl rfl (pCall_v (p := 79) hs_es1 rfl rfl rfl rfl rfl (by decide) rfl rfl rfl rfl rfl) ?_
      show aW _ _ _ _ _ _ (0, [some (.ref 143), some (.int (zI 1)), some (.int (zI 1))], [], es1)
      refine x0 (r := (1, [some (.ref 143), some (.int (zI 1)), some (.int (zI 1))], [.int (zI 1)], es1)) i_194_0 rfl ?_
      refine x_ifF i_194_1 (by unfold i32 iLO iHI; omega) rfl (by simp only [zC, cR]; omega) ?_
      refine x0 (r := (5, [some (.ref 143), some (.int (zI 1)), some (.int (zI 1))], [.ref 143], es1)) i_194_4 rfl ?_
      refine x0 (r := (6, [some (.ref 143), some (.int (zI 1)), some (.int (zI 1))], [.int (zI 1), .ref 143], es1)) i_194_5 rfl ?_
      refine x_puti (p := 79) (ty := .int) i_194_6 hs_es1 rfl rfl rfl (Or.inl rfl) ?_
      obtain ⟨es6, e_es6⟩ : ∃ z : PH, z = sI es1 79 0 (.int (zI 1)) := ⟨_, rfl⟩
      have hs_es6 : sh es6 := by rw [e_es6]; exact sh_sI hs_es1 (p := 79) (b := 0) rfl rfl
      have hT_es6 : hOK tT es6 := by rw [e_es6]; exact hOK_sI hT_es1 (p := 79) (b := 0) (lo := iLO) (hi := iHI) rfl rfl (i32_rng _)
      rw [← e_es6]
      refine x0 (r := (10, [some (.ref 143), some (.int (zI 1)), some (.int (zI 1))], [.int (zI 1)], es6)) i_194_9 rfl ?_
      refine x_ret (v := some (.int (zI 1))) i_194_10 rfl (fun _ => rfl) rfl rfl (pFin_b (by omega)) ?_
      show aW _ _ _ _ _ _ (16, [some (.ref 143), some (.int (zI bk)), some (.int (zI nt)), some (.int (zI wh))], [.int (zI 1)], es6)
      refine x_ifT i_212_16 (by unfold i32 iLO iHI; omega) rfl (by simp only [zC, cR]; omega) ?_
      refine x0 (r := (42, [some (.ref 143), some (.int (zI bk)), some (.int (zI nt)), some (.int (zI wh))], [.int (zI 0)], es6)) i_212_41 (by rfl) ?_
      refine x0 (r := (52, [some (.ref 143), some (.int (zI bk)), some (.int (zI nt)), some (.int (zI wh))], [.int (zI 0)], es6)) i_212_42 rfl ?_
      refine x_ret (v := some (.int (zI 0))) i_212_52 rfl (fun _ => rfl) rfl rfl rfl ?_
      exact K2 es1 e_es1 v2 e_v2 c3 c5 es6 e_es6
    · refine x_cmpF i_193_7 (by unfold i32 iLO iHI; omega) (by unfold i32 iLO iHI; omega) rfl (by simp only [zC, cR]; omega) ?_
      refine x0 (r := (11, [some (.int (zI bk)), some (.int (zI 0)), some (.int (zI (v2 - 1)))], [.int (zI 1)], es1)) i_193_10 (by rfl) ?_
      refine x0 (r := (15, [some (.int (zI bk)), some (.int (zI 0)), some (.int (zI (v2 - 1)))], [.int (zI 1)], es1)) i_193_11 rfl ?_
      refine x_ret (v := some (.int (zI 1))) i_193_15 rfl (fun _ => rfl) rfl rfl (pFin_b (by omega)) ?_
      show aW _ _ _ _ _ _ (13, [some (.ref 143), some (.int (zI bk)), some (.int (zI 1))], [.int (zI 1)], es1)
      refine x_ifT i_199_13 (by unfold i32 iLO iHI; omega) rfl (by simp only [zC, cR]; omega) ?_
      refine x0 (r := (21, [some (.ref 143), some (.int (zI bk)), some (.int (zI 1))], [.int (zI 0)], es1)) i_199_20 (by rfl) ?_
      refine x_ret (v := some (.int (zI 0))) i_199_21 rfl (fun _ => rfl) rfl rfl (pFin_b (by omega)) ?_
      show aW _ _ _ _ _ _ (6, [some (.ref 143), some (.int (zI bk))], [.int (zI 0)], es1)
      refine x_ret (v := some (.int (zI 0))) i_203_6 rfl (fun _ => rfl) rfl rfl (pFin_b (by omega)) ?_
      show aW _ _ _ _ _ _ (5, [some (.ref 143), some (.int (zI bk)), some (.int (zI nt))], [.int (zI 0)], es1)
      refine x_ifF i_210_5 (by unfold i32 iLO iHI; omega) rfl (by simp only [zC, cR]; omega) ?_
      refine x0 (r := (9, [some (.ref 143), some (.int (zI bk)), some (.int (zI nt))], [.int (zI nt)], es1)) i_210_8 rfl ?_
      refine x0 (r := (10, [some (.ref 143), some (.int (zI bk)), some (.int (zI nt))], [.int (zI 0), .int (zI nt)], es1)) i_210_9 (by rfl) ?_
      refine x0 (r := (11, [some (.ref 143), some (.int (zI bk)), some (.int (zI nt))], [.ref 143, .int (zI 0), .int (zI nt)], es1)) i_210_10 rfl ?_
      refine x0 (r := (12, [some (.ref 143), some (.int (zI bk)), some (.int (zI nt))], [.int (zI bk), .ref 143, .int (zI 0), .int (zI nt)], es1)) i_210_11 rfl ?_
      refine x_call (vs := [.ref 143, .int (zI bk)]) (rs := [.int (zI 0), .int (zI nt)]) i_210_12 rfl (fun _ => rfl) rfl rfl rfl rfl rfl (pCall_v (p := 79) hs_es1 rfl rfl rfl rfl rfl (by decide) rfl rfl rfl rfl rfl) ?_
      show aW _ _ _ _ _ _ (0, [some (.ref 143), some (.int (zI bk))], [], es1)
      refine x0 (r := (1, [some (.ref 143), some (.int (zI bk))], [.ref 143], es1)) i_205_0 rfl ?_
      refine x0 (r := (2, [some (.ref 143), some (.int (zI bk))], [.int (zI bk), .ref 143], es1)) i_205_1 rfl ?_
      refine x0 (r := (3, [some (.ref 143), some (.int (zI bk))], [.int (zI 1), .int (zI bk), .ref 143], es1)) i_205_2 (by rfl) ?_
      refine x_call (vs := [.ref 143, .int (zI bk), .int (zI 1)]) (rs := []) i_205_3 rfl (fun _ => rfl) rfl rfl rfl rfl rfl (pCall_v (p := 79) hs_es1 rfl rfl rfl rfl rfl (by decide) rfl rfl rfl rfl rfl) ?_
      show aW _ _ _ _ _ _ (0, [some (.ref 143), some (.int (zI bk)), some (.int (zI 1))], [], es1)
      refine x0 (r := (1, [some (.ref 143), some (.int (zI bk)), some (.int (zI 1))], [.ref 143], es1)) i_206_0 rfl ?_
      refine x_getr (p := 79) (k := 144) i_206_1 hs_es1 rfl rfl ?_
      show aW _ _ _ _ _ _ (4, [some (.ref 143), some (.int (zI bk)), some (.int (zI 1))], [.ref 144], es1)
      refine x0 (r := (6, [some (.ref 143), some (.int (zI bk)), some (.int (zI 1))], [.int (zI 119), .ref 144], es1)) i_206_4 (by rfl) ?_
      refine x0 (r := (8, [some (.ref 143), some (.int (zI bk)), some (.int (zI 1))], [.int (zI 98), .int (zI 119), .ref 144], es1)) i_206_6 (by rfl) ?_
      refine x0 (r := (9, [some (.ref 143), some (.int (zI bk)), some (.int (zI 1))], [.int (zI bk), .int (zI 98), .int (zI 119), .ref 144], es1)) i_206_8 rfl ?_
      refine x_imul i_206_9 ?_
      refine x_iadd i_206_10 ?_
      refine x0 (r := (12, [some (.ref 143), some (.int (zI bk)), some (.int (zI 1))], [.int (zI 1), .int (zI (119 + (98 * bk))), .ref 144], es1)) i_206_11 rfl ?_
      refine x_iadd i_206_12 ?_
      refine x_iald (p := 80) i_206_13 hs_es1 rfl (by unfold i32 iLO iHI; omega) (by omega) (by omega) ?_
      obtain ⟨v7, e_v7⟩ : ∃ z : Int, z = (gA es1 80 ((119 + (98 * bk)) + 1).toNat).toInt := ⟨_, rfl⟩
      rw [← e_v7]
      have r_v7 : iLO ≤ v7 ∧ v7 ≤ iHI := by rw [e_v7]; exact i32_rng _
      unfold iLO iHI at r_v7
      have b_v7 : (0 : Int) ≤ v7 ∧ v7 ≤ (24 : Int) := by rw [e_v7]; exact cnt_bd hT_es1 (by omega) (by omega)
      refine x_ret (v := some (.int (zI v7))) i_206_14 rfl (fun _ => rfl) rfl rfl rfl ?_
      show aW _ _ _ _ _ _ (6, [some (.ref 143), some (.int (zI bk))], [.int (zI v7)], es1)
      refine x_ret (v := some (.int (zI v7))) i_205_6 rfl (fun _ => rfl) rfl rfl rfl ?_
      show aW _ _ _ _ _ _ (15, [some (.ref 143), some (.int (zI bk)), some (.int (zI nt))], [.int (zI v7), .int (zI 0), .int (zI nt)], es1)
      refine x0 (r := (16, [some (.ref 143), some (.int (zI bk)), some (.int (zI nt))], [.int (zI 1), .int (zI v7), .int (zI 0), .int (zI nt)], es1)) i_210_15 (by rfl) ?_
      refine x_isub i_210_16 ?_
      refine x_call (vs := [.int (zI nt), .int (zI 0), .int (zI (v7 - 1))]) (rs := []) i_210_17 rfl (fun _ => rfl) rfl rfl rfl rfl rfl rfl ?_
      show aW _ _ _ _ _ _ (0, [some (.int (zI nt)), some (.int (zI 0)), some (.int (zI (v7 - 1)))], [], es1)
      refine x0 (r := (1, [some (.int (zI nt)), some (.int (zI 0)), some (.int (zI (v7 - 1)))], [.int (zI nt)], es1)) i_193_0 rfl ?_
      refine x0 (r := (2, [some (.int (zI nt)), some (.int (zI 0)), some (.int (zI (v7 - 1)))], [.int (zI 0), .int (zI nt)], es1)) i_193_1 rfl ?_
      by_cases c8 : nt < 0
      · refine x_cmpT i_193_2 (by unfold i32 iLO iHI; omega) (by unfold i32 iLO iHI; omega) rfl (by simp only [zC, cR]; omega) ?_
        refine x0 (r := (15, [some (.int (zI nt)), some (.int (zI 0)), some (.int (zI (v7 - 1)))], [.int (zI 0)], es1)) i_193_14 (by rfl) ?_
        refine x_ret (v := some (.int (zI 0))) i_193_15 rfl (fun _ => rfl) rfl rfl (pFin_b (by omega)) ?_
        show aW _ _ _ _ _ _ (20, [some (.ref 143), some (.int (zI bk)), some (.int (zI nt))], [.int (zI 0)], es1)
        refine x_ifF i_210_20 (by unfold i32 iLO iHI; omega) rfl (by simp only [zC, cR]; omega) ?_
        refine x0 (r := (24, [some (.ref 143), some (.int (zI bk)), some (.int (zI nt))], [.int (zI 1)], es1)) i_210_23 (by rfl) ?_
        refine x0 (r := (28, [some (.ref 143), some (.int (zI bk)), some (.int (zI nt))], [.int (zI 1)], es1)) i_210_24 rfl ?_
        refine x_ret (v := some (.int (zI 1))) i_210_28 rfl (fun _ => rfl) rfl rfl (pFin_b (by omega)) ?_
        show aW _ _ _ _ _ _ (12, [some (.ref 143), some (.int (zI bk)), some (.int (zI nt)), some (.int (zI wh))], [.int (zI 1), .ref 143], es1)
        refine x0 (r := (13, [some (.ref 143), some (.int (zI bk)), some (.int (zI nt)), some (.int (zI wh))], [.int (zI 1), .int (zI 1), .ref 143], es1)) i_212_12 (by rfl) ?_
        refine x_call (vs := [.ref 143, .int (zI 1), .int (zI 1)]) (rs := []) i_212_13 rfl (fun _ => rfl) rfl rfl rfl rfl rfl (pCall_v (p := 79) hs_es1 rfl rfl rfl rfl rfl (by decide) rfl rfl rfl rfl rfl) ?_
        show aW _ _ _ _ _ _ (0, [some (.ref 143), some (.int (zI 1)), some (.int (zI 1))], [], es1)
        refine x0 (r := (1, [some (.ref 143), some (.int (zI 1)), some (.int (zI 1))], [.int (zI 1)], es1)) i_194_0 rfl ?_
        refine x_ifF i_194_1 (by unfold i32 iLO iHI; omega) rfl (by simp only [zC, cR]; omega) ?_
        refine x0 (r := (5, [some (.ref 143), some (.int (zI 1)), some (.int (zI 1))], [.ref 143], es1)) i_194_4 rfl ?_
        refine x0 (r := (6, [some (.ref 143), some (.int (zI 1)), some (.int (zI 1))], [.int (zI 1), .ref 143], es1)) i_194_5 rfl ?_
        refine x_puti (p := 79) (ty := .int) i_194_6 hs_es1 rfl rfl rfl (Or.inl rfl) ?_
        obtain ⟨es9, e_es9⟩ : ∃ z : PH, z = sI es1 79 0 (.int (zI 1)) := ⟨_, rfl⟩
        have hs_es9 : sh es9 := by rw [e_es9]; exact sh_sI hs_es1 (p := 79) (b := 0) rfl rfl
        have hT_es9 : hOK tT es9 := by rw [e_es9]; exact hOK_sI hT_es1 (p := 79) (b := 0) (lo := iLO) (hi := iHI) rfl rfl (i32_rng _)
        rw [← e_es9]
        refine x0 (r := (10, [some (.ref 143), some (.int (zI 1)), some (.int (zI 1))], [.int (zI 1)], es9)) i_194_9 rfl ?_
        refine x_ret (v := some (.int (zI 1))) i_194_10 rfl (fun _ => rfl) rfl rfl (pFin_b (by omega)) ?_
        show aW _ _ _ _ _ _ (16, [some (.ref 143), some (.int (zI bk)), some (.int (zI nt)), some (.int (zI wh))], [.int (zI 1)], es9)
        refine x_ifT i_212_16 (by unfold i32 iLO iHI; omega) rfl (by simp only [zC, cR]; omega) ?_
        refine x0 (r := (42, [some (.ref 143), some (.int (zI bk)), some (.int (zI nt)), some (.int (zI wh))], [.int (zI 0)], es9)) i_212_41 (by rfl) ?_
        refine x0 (r := (52, [some (.ref 143), some (.int (zI bk)), some (.int (zI nt)), some (.int (zI wh))], [.int (zI 0)], es9)) i_212_42 rfl ?_
        refine x_ret (v := some (.int (zI 0))) i_212_52 rfl (fun _ => rfl) rfl rfl rfl ?_
        exact K3 es1 e_es1 v2 e_v2 c3 c5 v7 e_v7 c8 es9 e_es9
      · refine x_cmpF i_193_2 (by unfold i32 iLO iHI; omega) (by unfold i32 iLO iHI; omega) rfl (by simp only [zC, cR]; omega) ?_
        refine x0 (r := (6, [some (.int (zI nt)), some (.int (zI 0)), some (.int (zI (v7 - 1)))], [.int (zI nt)], es1)) i_193_5 rfl ?_
        refine x0 (r := (7, [some (.int (zI nt)), some (.int (zI 0)), some (.int (zI (v7 - 1)))], [.int (zI (v7 - 1)), .int (zI nt)], es1)) i_193_6 rfl ?_
        by_cases c10 : (v7 - 1) < nt
        · refine x_cmpT i_193_7 (by unfold i32 iLO iHI; omega) (by unfold i32 iLO iHI; omega) rfl (by simp only [zC, cR]; omega) ?_
          refine x0 (r := (15, [some (.int (zI nt)), some (.int (zI 0)), some (.int (zI (v7 - 1)))], [.int (zI 0)], es1)) i_193_14 (by rfl) ?_
          refine x_ret (v := some (.int (zI 0))) i_193_15 rfl (fun _ => rfl) rfl rfl (pFin_b (by omega)) ?_
          show aW _ _ _ _ _ _ (20, [some (.ref 143), some (.int (zI bk)), some (.int (zI nt))], [.int (zI 0)], es1)
          refine x_ifF i_210_20 (by unfold i32 iLO iHI; omega) rfl (by simp only [zC, cR]; omega) ?_
          refine x0 (r := (24, [some (.ref 143), some (.int (zI bk)), some (.int (zI nt))], [.int (zI 1)], es1)) i_210_23 (by rfl) ?_
          refine x0 (r := (28, [some (.ref 143), some (.int (zI bk)), some (.int (zI nt))], [.int (zI 1)], es1)) i_210_24 rfl ?_
          refine x_ret (v := some (.int (zI 1))) i_210_28 rfl (fun _ => rfl) rfl rfl (pFin_b (by omega)) ?_
          show aW _ _ _ _ _ _ (12, [some (.ref 143), some (.int (zI bk)), some (.int (zI nt)), some (.int (zI wh))], [.int (zI 1), .ref 143], es1)
          refine x0 (r := (13, [some (.ref 143), some (.int (zI bk)), some (.int (zI nt)), some (.int (zI wh))], [.int (zI 1), .int (zI 1), .ref 143], es1)) i_212_12 (by rfl) ?_
          refine x_call (vs := [.ref 143, .int (zI 1), .int (zI 1)]) (rs := []) i_212_13 rfl (fun _ => rfl) rfl rfl rfl rfl rfl (pCall_v (p := 79) hs_es1 rfl rfl rfl rfl rfl (by decide) rfl rfl rfl rfl rfl) ?_
          show aW _ _ _ _ _ _ (0, [some (.ref 143), some (.int (zI 1)), some (.int (zI 1))], [], es1)
          refine x0 (r := (1, [some (.ref 143), some (.int (zI 1)), some (.int (zI 1))], [.int (zI 1)], es1)) i_194_0 rfl ?_
          refine x_ifF i_194_1 (by unfold i32 iLO iHI; omega) rfl (by simp only [zC, cR]; omega) ?_
          refine x0 (r := (5, [some (.ref 143), some (.int (zI 1)), some (.int (zI 1))], [.ref 143], es1)) i_194_4 rfl ?_
          refine x0 (r := (6, [some (.ref 143), some (.int (zI 1)), some (.int (zI 1))], [.int (zI 1), .ref 143], es1)) i_194_5 rfl ?_
          refine x_puti (p := 79) (ty := .int) i_194_6 hs_es1 rfl rfl rfl (Or.inl rfl) ?_
          obtain ⟨es11, e_es11⟩ : ∃ z : PH, z = sI es1 79 0 (.int (zI 1)) := ⟨_, rfl⟩
          have hs_es11 : sh es11 := by rw [e_es11]; exact sh_sI hs_es1 (p := 79) (b := 0) rfl rfl
          have hT_es11 : hOK tT es11 := by rw [e_es11]; exact hOK_sI hT_es1 (p := 79) (b := 0) (lo := iLO) (hi := iHI) rfl rfl (i32_rng _)
          rw [← e_es11]
          refine x0 (r := (10, [some (.ref 143), some (.int (zI 1)), some (.int (zI 1))], [.int (zI 1)], es11)) i_194_9 rfl ?_
          refine x_ret (v := some (.int (zI 1))) i_194_10 rfl (fun _ => rfl) rfl rfl (pFin_b (by omega)) ?_
          show aW _ _ _ _ _ _ (16, [some (.ref 143), some (.int (zI bk)), some (.int (zI nt)), some (.int (zI wh))], [.int (zI 1)], es11)
          refine x_ifT i_212_16 (by unfold i32 iLO iHI; omega) rfl (by simp only [zC, cR]; omega) ?_
          refine x0 (r := (42, [some (.ref 143), some (.int (zI bk)), some (.int (zI nt)), some (.int (zI wh))], [.int (zI 0)], es11)) i_212_41 (by rfl) ?_
          refine x0 (r := (52, [some (.ref 143), some (.int (zI bk)), some (.int (zI nt)), some (.int (zI wh))], [.int (zI 0)], es11)) i_212_42 rfl ?_
          refine x_ret (v := some (.int (zI 0))) i_212_52 rfl (fun _ => rfl) rfl rfl rfl ?_
          exact K4 es1 e_es1 v2 e_v2 c3 c5 v7 e_v7 c8 c10 es11 e_es11
        · refine x_cmpF i_193_7 (by unfold i32 iLO iHI; omega) (by unfold i32 iLO iHI; omega) rfl (by simp only [zC, cR]; omega) ?_
          refine x0 (r := (11, [some (.int (zI nt)), some (.int (zI 0)), some (.int (zI (v7 - 1)))], [.int (zI 1)], es1)) i_193_10 (by rfl) ?_
          refine x0 (r := (15, [some (.int (zI nt)), some (.int (zI 0)), some (.int (zI (v7 - 1)))], [.int (zI 1)], es1)) i_193_11 rfl ?_
          refine x_ret (v := some (.int (zI 1))) i_193_15 rfl (fun _ => rfl) rfl rfl (pFin_b (by omega)) ?_
          show aW _ _ _ _ _ _ (20, [some (.ref 143), some (.int (zI bk)), some (.int (zI nt))], [.int (zI 1)], es1)
          refine x_ifT i_210_20 (by unfold i32 iLO iHI; omega) rfl (by simp only [zC, cR]; omega) ?_
          refine x0 (r := (28, [some (.ref 143), some (.int (zI bk)), some (.int (zI nt))], [.int (zI 0)], es1)) i_210_27 (by rfl) ?_
          refine x_ret (v := some (.int (zI 0))) i_210_28 rfl (fun _ => rfl) rfl rfl (pFin_b (by omega)) ?_
          show aW _ _ _ _ _ _ (12, [some (.ref 143), some (.int (zI bk)), some (.int (zI nt)), some (.int (zI wh))], [.int (zI 0), .ref 143], es1)
          refine x0 (r := (13, [some (.ref 143), some (.int (zI bk)), some (.int (zI nt)), some (.int (zI wh))], [.int (zI 1), .int (zI 0), .ref 143], es1)) i_212_12 (by rfl) ?_
          refine x_call (vs := [.ref 143, .int (zI 0), .int (zI 1)]) (rs := []) i_212_13 rfl (fun _ => rfl) rfl rfl rfl rfl rfl (pCall_v (p := 79) hs_es1 rfl rfl rfl rfl rfl (by decide) rfl rfl rfl rfl rfl) ?_
          show aW _ _ _ _ _ _ (0, [some (.ref 143), some (.int (zI 0)), some (.int (zI 1))], [], es1)
          refine x0 (r := (1, [some (.ref 143), some (.int (zI 0)), some (.int (zI 1))], [.int (zI 0)], es1)) i_194_0 rfl ?_
          refine x_ifT i_194_1 (by unfold i32 iLO iHI; omega) rfl (by simp only [zC, cR]; omega) ?_
          refine x0 (r := (10, [some (.ref 143), some (.int (zI 0)), some (.int (zI 1))], [.int (zI 0)], es1)) i_194_9 rfl ?_
          refine x_ret (v := some (.int (zI 0))) i_194_10 rfl (fun _ => rfl) rfl rfl (pFin_b (by omega)) ?_
          show aW _ _ _ _ _ _ (16, [some (.ref 143), some (.int (zI bk)), some (.int (zI nt)), some (.int (zI wh))], [.int (zI 0)], es1)
          refine x_ifF i_212_16 (by unfold i32 iLO iHI; omega) rfl (by simp only [zC, cR]; omega) ?_
          refine x0 (r := (20, [some (.ref 143), some (.int (zI bk)), some (.int (zI nt)), some (.int (zI wh))], [.ref 143], es1)) i_212_19 rfl ?_
          refine x0 (r := (21, [some (.ref 143), some (.int (zI bk)), some (.int (zI nt)), some (.int (zI wh))], [.int (zI wh), .ref 143], es1)) i_212_20 rfl ?_
          refine x0 (r := (22, [some (.ref 143), some (.int (zI bk)), some (.int (zI nt)), some (.int (zI wh))], [.int (zI 0), .int (zI wh), .ref 143], es1)) i_212_21 (by rfl) ?_
          refine x0 (r := (23, [some (.ref 143), some (.int (zI bk)), some (.int (zI nt)), some (.int (zI wh))], [.int (zI 3), .int (zI 0), .int (zI wh), .ref 143], es1)) i_212_22 (by rfl) ?_
          refine x_call (vs := [.int (zI wh), .int (zI 0), .int (zI 3)]) (rs := [.ref 143]) i_212_23 rfl (fun _ => rfl) rfl rfl rfl rfl rfl rfl ?_
          show aW _ _ _ _ _ _ (0, [some (.int (zI wh)), some (.int (zI 0)), some (.int (zI 3))], [], es1)
          refine x0 (r := (1, [some (.int (zI wh)), some (.int (zI 0)), some (.int (zI 3))], [.int (zI wh)], es1)) i_193_0 rfl ?_
          refine x0 (r := (2, [some (.int (zI wh)), some (.int (zI 0)), some (.int (zI 3))], [.int (zI 0), .int (zI wh)], es1)) i_193_1 rfl ?_
          by_cases c12 : wh < 0
          · refine x_cmpT i_193_2 (by unfold i32 iLO iHI; omega) (by unfold i32 iLO iHI; omega) rfl (by simp only [zC, cR]; omega) ?_
            refine x0 (r := (15, [some (.int (zI wh)), some (.int (zI 0)), some (.int (zI 3))], [.int (zI 0)], es1)) i_193_14 (by rfl) ?_
            refine x_ret (v := some (.int (zI 0))) i_193_15 rfl (fun _ => rfl) rfl rfl (pFin_b (by omega)) ?_
            show aW _ _ _ _ _ _ (26, [some (.ref 143), some (.int (zI bk)), some (.int (zI nt)), some (.int (zI wh))], [.int (zI 0), .ref 143], es1)
            refine x_ifF i_212_26 (by unfold i32 iLO iHI; omega) rfl (by simp only [zC, cR]; omega) ?_
            refine x0 (r := (30, [some (.ref 143), some (.int (zI bk)), some (.int (zI nt)), some (.int (zI wh))], [.int (zI 1), .ref 143], es1)) i_212_29 (by rfl) ?_
            refine x0 (r := (34, [some (.ref 143), some (.int (zI bk)), some (.int (zI nt)), some (.int (zI wh))], [.int (zI 1), .ref 143], es1)) i_212_30 rfl ?_
            refine x0 (r := (35, [some (.ref 143), some (.int (zI bk)), some (.int (zI nt)), some (.int (zI wh))], [.int (zI 2), .int (zI 1), .ref 143], es1)) i_212_34 (by rfl) ?_
            refine x_call (vs := [.ref 143, .int (zI 1), .int (zI 2)]) (rs := []) i_212_35 rfl (fun _ => rfl) rfl rfl rfl rfl rfl (pCall_v (p := 79) hs_es1 rfl rfl rfl rfl rfl (by decide) rfl rfl rfl rfl rfl) ?_
            show aW _ _ _ _ _ _ (0, [some (.ref 143), some (.int (zI 1)), some (.int (zI 2))], [], es1)
            refine x0 (r := (1, [some (.ref 143), some (.int (zI 1)), some (.int (zI 2))], [.int (zI 1)], es1)) i_194_0 rfl ?_
            refine x_ifF i_194_1 (by unfold i32 iLO iHI; omega) rfl (by simp only [zC, cR]; omega) ?_
            refine x0 (r := (5, [some (.ref 143), some (.int (zI 1)), some (.int (zI 2))], [.ref 143], es1)) i_194_4 rfl ?_
            refine x0 (r := (6, [some (.ref 143), some (.int (zI 1)), some (.int (zI 2))], [.int (zI 2), .ref 143], es1)) i_194_5 rfl ?_
            refine x_puti (p := 79) (ty := .int) i_194_6 hs_es1 rfl rfl rfl (Or.inl rfl) ?_
            obtain ⟨es13, e_es13⟩ : ∃ z : PH, z = sI es1 79 0 (.int (zI 2)) := ⟨_, rfl⟩
            have hs_es13 : sh es13 := by rw [e_es13]; exact sh_sI hs_es1 (p := 79) (b := 0) rfl rfl
            have hT_es13 : hOK tT es13 := by rw [e_es13]; exact hOK_sI hT_es1 (p := 79) (b := 0) (lo := iLO) (hi := iHI) rfl rfl (i32_rng _)
            rw [← e_es13]
            refine x0 (r := (10, [some (.ref 143), some (.int (zI 1)), some (.int (zI 2))], [.int (zI 1)], es13)) i_194_9 rfl ?_
            refine x_ret (v := some (.int (zI 1))) i_194_10 rfl (fun _ => rfl) rfl rfl (pFin_b (by omega)) ?_
            show aW _ _ _ _ _ _ (38, [some (.ref 143), some (.int (zI bk)), some (.int (zI nt)), some (.int (zI wh))], [.int (zI 1)], es13)
            refine x_ifF i_212_38 (by unfold i32 iLO iHI; omega) rfl (by simp only [zC, cR]; omega) ?_
            refine x0 (r := (42, [some (.ref 143), some (.int (zI bk)), some (.int (zI nt)), some (.int (zI wh))], [.int (zI 0)], es13)) i_212_41 (by rfl) ?_
            refine x0 (r := (52, [some (.ref 143), some (.int (zI bk)), some (.int (zI nt)), some (.int (zI wh))], [.int (zI 0)], es13)) i_212_42 rfl ?_
            refine x_ret (v := some (.int (zI 0))) i_212_52 rfl (fun _ => rfl) rfl rfl rfl ?_
            exact K5 es1 e_es1 v2 e_v2 c3 c5 v7 e_v7 c8 c10 c12 es13 e_es13
          · refine x_cmpF i_193_2 (by unfold i32 iLO iHI; omega) (by unfold i32 iLO iHI; omega) rfl (by simp only [zC, cR]; omega) ?_
            refine x0 (r := (6, [some (.int (zI wh)), some (.int (zI 0)), some (.int (zI 3))], [.int (zI wh)], es1)) i_193_5 rfl ?_
            refine x0 (r := (7, [some (.int (zI wh)), some (.int (zI 0)), some (.int (zI 3))], [.int (zI 3), .int (zI wh)], es1)) i_193_6 rfl ?_
            by_cases c14 : 3 < wh
            · refine x_cmpT i_193_7 (by unfold i32 iLO iHI; omega) (by unfold i32 iLO iHI; omega) rfl (by simp only [zC, cR]; omega) ?_
              refine x0 (r := (15, [some (.int (zI wh)), some (.int (zI 0)), some (.int (zI 3))], [.int (zI 0)], es1)) i_193_14 (by rfl) ?_
              refine x_ret (v := some (.int (zI 0))) i_193_15 rfl (fun _ => rfl) rfl rfl (pFin_b (by omega)) ?_
              show aW _ _ _ _ _ _ (26, [some (.ref 143), some (.int (zI bk)), some (.int (zI nt)), some (.int (zI wh))], [.int (zI 0), .ref 143], es1)
              refine x_ifF i_212_26 (by unfold i32 iLO iHI; omega) rfl (by simp only [zC, cR]; omega) ?_
              refine x0 (r := (30, [some (.ref 143), some (.int (zI bk)), some (.int (zI nt)), some (.int (zI wh))], [.int (zI 1), .ref 143], es1)) i_212_29 (by rfl) ?_
              refine x0 (r := (34, [some (.ref 143), some (.int (zI bk)), some (.int (zI nt)), some (.int (zI wh))], [.int (zI 1), .ref 143], es1)) i_212_30 rfl ?_
              refine x0 (r := (35, [some (.ref 143), some (.int (zI bk)), some (.int (zI nt)), some (.int (zI wh))], [.int (zI 2), .int (zI 1), .ref 143], es1)) i_212_34 (by rfl) ?_
              refine x_call (vs := [.ref 143, .int (zI 1), .int (zI 2)]) (rs := []) i_212_35 rfl (fun _ => rfl) rfl rfl rfl rfl rfl (pCall_v (p := 79) hs_es1 rfl rfl rfl rfl rfl (by decide) rfl rfl rfl rfl rfl) ?_
              show aW _ _ _ _ _ _ (0, [some (.ref 143), some (.int (zI 1)), some (.int (zI 2))], [], es1)
              refine x0 (r := (1, [some (.ref 143), some (.int (zI 1)), some (.int (zI 2))], [.int (zI 1)], es1)) i_194_0 rfl ?_
              refine x_ifF i_194_1 (by unfold i32 iLO iHI; omega) rfl (by simp only [zC, cR]; omega) ?_
              refine x0 (r := (5, [some (.ref 143), some (.int (zI 1)), some (.int (zI 2))], [.ref 143], es1)) i_194_4 rfl ?_
              refine x0 (r := (6, [some (.ref 143), some (.int (zI 1)), some (.int (zI 2))], [.int (zI 2), .ref 143], es1)) i_194_5 rfl ?_
              refine x_puti (p := 79) (ty := .int) i_194_6 hs_es1 rfl rfl rfl (Or.inl rfl) ?_
              obtain ⟨es15, e_es15⟩ : ∃ z : PH, z = sI es1 79 0 (.int (zI 2)) := ⟨_, rfl⟩
              have hs_es15 : sh es15 := by rw [e_es15]; exact sh_sI hs_es1 (p := 79) (b := 0) rfl rfl
              have hT_es15 : hOK tT es15 := by rw [e_es15]; exact hOK_sI hT_es1 (p := 79) (b := 0) (lo := iLO) (hi := iHI) rfl rfl (i32_rng _)
              rw [← e_es15]
              refine x0 (r := (10, [some (.ref 143), some (.int (zI 1)), some (.int (zI 2))], [.int (zI 1)], es15)) i_194_9 rfl ?_
              refine x_ret (v := some (.int (zI 1))) i_194_10 rfl (fun _ => rfl) rfl rfl (pFin_b (by omega)) ?_
              show aW _ _ _ _ _ _ (38, [some (.ref 143), some (.int (zI bk)), some (.int (zI nt)), some (.int (zI wh))], [.int (zI 1)], es15)
              refine x_ifF i_212_38 (by unfold i32 iLO iHI; omega) rfl (by simp only [zC, cR]; omega) ?_
              refine x0 (r := (42, [some (.ref 143), some (.int (zI bk)), some (.int (zI nt)), some (.int (zI wh))], [.int (zI 0)], es15)) i_212_41 (by rfl) ?_
              refine x0 (r := (52, [some (.ref 143), some (.int (zI bk)), some (.int (zI nt)), some (.int (zI wh))], [.int (zI 0)], es15)) i_212_42 rfl ?_
              refine x_ret (v := some (.int (zI 0))) i_212_52 rfl (fun _ => rfl) rfl rfl rfl ?_
              exact K6 es1 e_es1 v2 e_v2 c3 c5 v7 e_v7 c8 c10 c12 c14 es15 e_es15
            · refine x_cmpF i_193_7 (by unfold i32 iLO iHI; omega) (by unfold i32 iLO iHI; omega) rfl (by simp only [zC, cR]; omega) ?_
              refine x0 (r := (11, [some (.int (zI wh)), some (.int (zI 0)), some (.int (zI 3))], [.int (zI 1)], es1)) i_193_10 (by rfl) ?_
              refine x0 (r := (15, [some (.int (zI wh)), some (.int (zI 0)), some (.int (zI 3))], [.int (zI 1)], es1)) i_193_11 rfl ?_
              refine x_ret (v := some (.int (zI 1))) i_193_15 rfl (fun _ => rfl) rfl rfl (pFin_b (by omega)) ?_
              show aW _ _ _ _ _ _ (26, [some (.ref 143), some (.int (zI bk)), some (.int (zI nt)), some (.int (zI wh))], [.int (zI 1), .ref 143], es1)
              refine x_ifT i_212_26 (by unfold i32 iLO iHI; omega) rfl (by simp only [zC, cR]; omega) ?_
              refine x0 (r := (34, [some (.ref 143), some (.int (zI bk)), some (.int (zI nt)), some (.int (zI wh))], [.int (zI 0), .ref 143], es1)) i_212_33 (by rfl) ?_
              refine x0 (r := (35, [some (.ref 143), some (.int (zI bk)), some (.int (zI nt)), some (.int (zI wh))], [.int (zI 2), .int (zI 0), .ref 143], es1)) i_212_34 (by rfl) ?_
              refine x_call (vs := [.ref 143, .int (zI 0), .int (zI 2)]) (rs := []) i_212_35 rfl (fun _ => rfl) rfl rfl rfl rfl rfl (pCall_v (p := 79) hs_es1 rfl rfl rfl rfl rfl (by decide) rfl rfl rfl rfl rfl) ?_
              show aW _ _ _ _ _ _ (0, [some (.ref 143), some (.int (zI 0)), some (.int (zI 2))], [], es1)
              refine x0 (r := (1, [some (.ref 143), some (.int (zI 0)), some (.int (zI 2))], [.int (zI 0)], es1)) i_194_0 rfl ?_
              refine x_ifT i_194_1 (by unfold i32 iLO iHI; omega) rfl (by simp only [zC, cR]; omega) ?_
              refine x0 (r := (10, [some (.ref 143), some (.int (zI 0)), some (.int (zI 2))], [.int (zI 0)], es1)) i_194_9 rfl ?_
              refine x_ret (v := some (.int (zI 0))) i_194_10 rfl (fun _ => rfl) rfl rfl (pFin_b (by omega)) ?_
              show aW _ _ _ _ _ _ (38, [some (.ref 143), some (.int (zI bk)), some (.int (zI nt)), some (.int (zI wh))], [.int (zI 0)], es1)
              refine x_ifT i_212_38 (by unfold i32 iLO iHI; omega) rfl (by simp only [zC, cR]; omega) ?_
              refine x0 (r := (46, [some (.ref 143), some (.int (zI bk)), some (.int (zI nt)), some (.int (zI wh))], [.ref 143], es1)) i_212_45 rfl ?_
              refine x0 (r := (47, [some (.ref 143), some (.int (zI bk)), some (.int (zI nt)), some (.int (zI wh))], [.int (zI bk), .ref 143], es1)) i_212_46 rfl ?_
              refine x0 (r := (48, [some (.ref 143), some (.int (zI bk)), some (.int (zI nt)), some (.int (zI wh))], [.int (zI nt), .int (zI bk), .ref 143], es1)) i_212_47 rfl ?_
              refine x0 (r := (49, [some (.ref 143), some (.int (zI bk)), some (.int (zI nt)), some (.int (zI wh))], [.int (zI wh), .int (zI nt), .int (zI bk), .ref 143], es1)) i_212_48 rfl ?_
              refine x_call (vs := [.ref 143, .int (zI bk), .int (zI nt), .int (zI wh)]) (rs := []) i_212_49 rfl (fun _ => rfl) rfl rfl rfl rfl rfl (pCall_v (p := 79) hs_es1 rfl rfl rfl rfl rfl (by decide) rfl rfl rfl rfl rfl) ?_
              show aW _ _ _ _ _ _ (0, [some (.ref 143), some (.int (zI bk)), some (.int (zI nt)), some (.int (zI wh))], [], es1)
              refine x0 (r := (1, [some (.ref 143), some (.int (zI bk)), some (.int (zI nt)), some (.int (zI wh))], [.ref 143], es1)) i_211_0 rfl ?_
              refine x0 (r := (2, [some (.ref 143), some (.int (zI bk)), some (.int (zI nt)), some (.int (zI wh))], [.int (zI bk), .ref 143], es1)) i_211_1 rfl ?_
              refine x0 (r := (3, [some (.ref 143), some (.int (zI bk)), some (.int (zI nt)), some (.int (zI wh))], [.int (zI 2), .int (zI bk), .ref 143], es1)) i_211_2 (by rfl) ?_
              refine x0 (r := (4, [some (.ref 143), some (.int (zI bk)), some (.int (zI nt)), some (.int (zI wh))], [.int (zI 4), .int (zI 2), .int (zI bk), .ref 143], es1)) i_211_3 (by rfl) ?_
              refine x0 (r := (5, [some (.ref 143), some (.int (zI bk)), some (.int (zI nt)), some (.int (zI wh))], [.int (zI nt), .int (zI 4), .int (zI 2), .int (zI bk), .ref 143], es1)) i_211_4 rfl ?_
              refine x_imul i_211_5 ?_
              refine x_iadd i_211_6 ?_
              refine x0 (r := (8, [some (.ref 143), some (.int (zI bk)), some (.int (zI nt)), some (.int (zI wh))], [.int (zI wh), .int (zI (2 + (4 * nt))), .int (zI bk), .ref 143], es1)) i_211_7 rfl ?_
              refine x_iadd i_211_8 ?_
              refine x_call (vs := [.ref 143, .int (zI bk), .int (zI ((2 + (4 * nt)) + wh))]) (rs := []) i_211_9 rfl (fun _ => rfl) rfl rfl rfl rfl rfl (pCall_v (p := 79) hs_es1 rfl rfl rfl rfl rfl (by decide) rfl rfl rfl rfl rfl) ?_
              show aW _ _ _ _ _ _ (0, [some (.ref 143), some (.int (zI bk)), some (.int (zI ((2 + (4 * nt)) + wh)))], [], es1)
              refine x0 (r := (1, [some (.ref 143), some (.int (zI bk)), some (.int (zI ((2 + (4 * nt)) + wh)))], [.ref 143], es1)) i_206_0 rfl ?_
              refine x_getr (p := 79) (k := 144) i_206_1 hs_es1 rfl rfl ?_
              show aW _ _ _ _ _ _ (4, [some (.ref 143), some (.int (zI bk)), some (.int (zI ((2 + (4 * nt)) + wh)))], [.ref 144], es1)
              refine x0 (r := (6, [some (.ref 143), some (.int (zI bk)), some (.int (zI ((2 + (4 * nt)) + wh)))], [.int (zI 119), .ref 144], es1)) i_206_4 (by rfl) ?_
              refine x0 (r := (8, [some (.ref 143), some (.int (zI bk)), some (.int (zI ((2 + (4 * nt)) + wh)))], [.int (zI 98), .int (zI 119), .ref 144], es1)) i_206_6 (by rfl) ?_
              refine x0 (r := (9, [some (.ref 143), some (.int (zI bk)), some (.int (zI ((2 + (4 * nt)) + wh)))], [.int (zI bk), .int (zI 98), .int (zI 119), .ref 144], es1)) i_206_8 rfl ?_
              refine x_imul i_206_9 ?_
              refine x_iadd i_206_10 ?_
              refine x0 (r := (12, [some (.ref 143), some (.int (zI bk)), some (.int (zI ((2 + (4 * nt)) + wh)))], [.int (zI ((2 + (4 * nt)) + wh)), .int (zI (119 + (98 * bk))), .ref 144], es1)) i_206_11 rfl ?_
              refine x_iadd i_206_12 ?_
              refine x_iald (p := 80) i_206_13 hs_es1 rfl (by unfold i32 iLO iHI; omega) (by omega) (by omega) ?_
              obtain ⟨v16, e_v16⟩ : ∃ z : Int, z = (gA es1 80 ((119 + (98 * bk)) + ((2 + (4 * nt)) + wh)).toNat).toInt := ⟨_, rfl⟩
              rw [← e_v16]
              have r_v16 : iLO ≤ v16 ∧ v16 ≤ iHI := by rw [e_v16]; exact i32_rng _
              unfold iLO iHI at r_v16
              refine x_ret (v := some (.int (zI v16))) i_206_14 rfl (fun _ => rfl) rfl rfl rfl ?_
              show aW _ _ _ _ _ _ (12, [some (.ref 143), some (.int (zI bk)), some (.int (zI nt)), some (.int (zI wh))], [.int (zI v16)], es1)
              refine x_ret (v := some (.int (zI v16))) i_211_12 rfl (fun _ => rfl) rfl rfl rfl ?_
              show aW _ _ _ _ _ _ (52, [some (.ref 143), some (.int (zI bk)), some (.int (zI nt)), some (.int (zI wh))], [.int (zI v16)], es1)
              refine x_ret (v := some (.int (zI v16))) i_212_52 rfl (fun _ => rfl) rfl rfl rfl ?_
              exact K7 es1 e_es1 v2 e_v2 c3 c5 v7 e_v7 c8 c10 c12 c14 v16 e_v16
def lookmP (bk : Int) (nt : Int) (wh : Int) (es : PH) (r : Option Value ⊕ Nat) (es1 : PH) : Prop := sh es1 ∧ True ∧ ∃ v : Int, r = .inl (some (.int (zI v))) ∧ i32 v ∧ (((gI es1 79 0).toInt = 1 ∧ (bk < 0 ∨ (gA es 80 1).toInt ≤ bk ∨ nt < 0 ∨ (gA es 80 ((119 + (98 * bk)) + 1).toNat).toInt ≤ nt) ∧ gA es1 80 = gA es 80) ∨ ((gI es1 79 0).toInt = 2 ∧ ((0 ≤ bk ∧ bk < (gA es 80 1).toInt ∧ 0 ≤ nt ∧ nt < (gA es 80 ((119 + (98 * bk)) + 1).toNat).toInt) ∧ (wh < 0 ∨ 3 < wh)) ∧ gA es1 80 = gA es 80) ∨ ((gI es1 79 0).toInt = 0 ∧ ((0 ≤ bk ∧ bk < (gA es 80 1).toInt ∧ 0 ≤ nt ∧ nt < (gA es 80 ((119 + (98 * bk)) + 1).toNat).toInt) ∧ (0 ≤ wh ∧ wh ≤ 3)) ∧ gA es1 80 = gA es 80 ∧ v = (gA es 80 ((119 + (98 * bk)) + ((2 + (4 * nt)) + wh)).toNat).toInt))
theorem fn_lookm {O : pOut} {d : Nat} {es : PH} {bk nt wh : Int} (h_bk : i32 bk) (h_nt : i32 nt) (h_wh : i32 wh) (hT : hOK tT es) : aW O (d + 4) 212 0 0 (fun o => lookmP bk nt wh es o.1 o.2.1) (0, [some (.ref 143), some (.int (zI bk)), some (.int (zI nt)), some (.int (zI wh))], [], es) := by
  have hs_es := sh_of hT
  have hB : (0 : Int) ≤ (gA es 80 1).toInt ∧ (gA es 80 1).toInt ≤ (3 : Int) := gA_bd hT (p := 80) (k := 1) rfl (by omega) (by decide)
  have hC : bk < 0 ∨ 2 < bk ∨ (0 ≤ (gA es 80 ((119 + (98 * bk)) + 1).toNat).toInt ∧ (gA es 80 ((119 + (98 * bk)) + 1).toNat).toInt ≤ 24) := by
    by_cases h1 : 0 ≤ bk ∧ bk ≤ 2
    · exact Or.inr (Or.inr (cnt_bd hT h1.1 h1.2))
    · omega
  unfold i32 iLO iHI at h_bk h_nt h_wh
  refine s_mlook (d := d) (kc := 0) (ks := 0) hs_es h_bk h_nt h_wh hT (fun es1 e_es1 v2 e_v2 c3 es4 e_es4 => ?_) (fun es1 e_es1 v2 e_v2 c3 c5 es6 e_es6 => ?_) (fun es1 e_es1 v2 e_v2 c3 c5 v7 e_v7 c8 es9 e_es9 => ?_) (fun es1 e_es1 v2 e_v2 c3 c5 v7 e_v7 c8 c10 es11 e_es11 => ?_) (fun es1 e_es1 v2 e_v2 c3 c5 v7 e_v7 c8 c10 c12 es13 e_es13 => ?_) (fun es1 e_es1 v2 e_v2 c3 c5 v7 e_v7 c8 c10 c12 c14 es15 e_es15 => ?_) (fun es1 e_es1 v2 e_v2 c3 c5 v7 e_v7 c8 c10 c12 c14 v16 e_v16 => ?_)
  · have hs_es1 : sh es1 := by rw [e_es1]; exact sh_sI hs_es (p := 79) (b := 0) rfl rfl
    have hs_es4 : sh es4 := by rw [e_es4]; exact sh_sI hs_es1 (p := 79) (b := 0) rfl rfl
    have b_v2 : v2 = (gA es 80 1).toInt := by
      have h := e_v2
      rw [e_es1, gA_sI] at h
      exact h
    exact ⟨hs_es4, trivial, _, rfl, by unfold i32 iLO iHI; omega, Or.inl ⟨by show (gI es4 79 0).toInt = _; rw [e_es4, gI_sI hs_es1 (p := 79) (b := 0) rfl (by decide)]; rfl, by omega, by show gA es4 80 = _; rw [e_es4, gA_sI, e_es1, gA_sI]⟩⟩
  · have hs_es1 : sh es1 := by rw [e_es1]; exact sh_sI hs_es (p := 79) (b := 0) rfl rfl
    have hs_es6 : sh es6 := by rw [e_es6]; exact sh_sI hs_es1 (p := 79) (b := 0) rfl rfl
    have b_v2 : v2 = (gA es 80 1).toInt := by
      have h := e_v2
      rw [e_es1, gA_sI] at h
      exact h
    exact ⟨hs_es6, trivial, _, rfl, by unfold i32 iLO iHI; omega, Or.inl ⟨by show (gI es6 79 0).toInt = _; rw [e_es6, gI_sI hs_es1 (p := 79) (b := 0) rfl (by decide)]; rfl, by omega, by show gA es6 80 = _; rw [e_es6, gA_sI, e_es1, gA_sI]⟩⟩
  · have hs_es1 : sh es1 := by rw [e_es1]; exact sh_sI hs_es (p := 79) (b := 0) rfl rfl
    have hs_es9 : sh es9 := by rw [e_es9]; exact sh_sI hs_es1 (p := 79) (b := 0) rfl rfl
    have b_v2 : v2 = (gA es 80 1).toInt := by
      have h := e_v2
      rw [e_es1, gA_sI] at h
      exact h
    have b_v7 : v7 = (gA es 80 ((119 + (98 * bk)) + 1).toNat).toInt := by
      have h := e_v7
      rw [e_es1, gA_sI] at h
      exact h
    exact ⟨hs_es9, trivial, _, rfl, by unfold i32 iLO iHI; omega, Or.inl ⟨by show (gI es9 79 0).toInt = _; rw [e_es9, gI_sI hs_es1 (p := 79) (b := 0) rfl (by decide)]; rfl, by omega, by show gA es9 80 = _; rw [e_es9, gA_sI, e_es1, gA_sI]⟩⟩
  · have hs_es1 : sh es1 := by rw [e_es1]; exact sh_sI hs_es (p := 79) (b := 0) rfl rfl
    have hs_es11 : sh es11 := by rw [e_es11]; exact sh_sI hs_es1 (p := 79) (b := 0) rfl rfl
    have b_v2 : v2 = (gA es 80 1).toInt := by
      have h := e_v2
      rw [e_es1, gA_sI] at h
      exact h
    have b_v7 : v7 = (gA es 80 ((119 + (98 * bk)) + 1).toNat).toInt := by
      have h := e_v7
      rw [e_es1, gA_sI] at h
      exact h
    exact ⟨hs_es11, trivial, _, rfl, by unfold i32 iLO iHI; omega, Or.inl ⟨by show (gI es11 79 0).toInt = _; rw [e_es11, gI_sI hs_es1 (p := 79) (b := 0) rfl (by decide)]; rfl, by omega, by show gA es11 80 = _; rw [e_es11, gA_sI, e_es1, gA_sI]⟩⟩
  · have hs_es1 : sh es1 := by rw [e_es1]; exact sh_sI hs_es (p := 79) (b := 0) rfl rfl
    have hs_es13 : sh es13 := by rw [e_es13]; exact sh_sI hs_es1 (p := 79) (b := 0) rfl rfl
    have b_v2 : v2 = (gA es 80 1).toInt := by
      have h := e_v2
      rw [e_es1, gA_sI] at h
      exact h
    have b_v7 : v7 = (gA es 80 ((119 + (98 * bk)) + 1).toNat).toInt := by
      have h := e_v7
      rw [e_es1, gA_sI] at h
      exact h
    exact ⟨hs_es13, trivial, _, rfl, by unfold i32 iLO iHI; omega, Or.inr (Or.inl ⟨by show (gI es13 79 0).toInt = _; rw [e_es13, gI_sI hs_es1 (p := 79) (b := 0) rfl (by decide)]; rfl, by omega, by show gA es13 80 = _; rw [e_es13, gA_sI, e_es1, gA_sI]⟩)⟩
  · have hs_es1 : sh es1 := by rw [e_es1]; exact sh_sI hs_es (p := 79) (b := 0) rfl rfl
    have hs_es15 : sh es15 := by rw [e_es15]; exact sh_sI hs_es1 (p := 79) (b := 0) rfl rfl
    have b_v2 : v2 = (gA es 80 1).toInt := by
      have h := e_v2
      rw [e_es1, gA_sI] at h
      exact h
    have b_v7 : v7 = (gA es 80 ((119 + (98 * bk)) + 1).toNat).toInt := by
      have h := e_v7
      rw [e_es1, gA_sI] at h
      exact h
    exact ⟨hs_es15, trivial, _, rfl, by unfold i32 iLO iHI; omega, Or.inr (Or.inl ⟨by show (gI es15 79 0).toInt = _; rw [e_es15, gI_sI hs_es1 (p := 79) (b := 0) rfl (by decide)]; rfl, by omega, by show gA es15 80 = _; rw [e_es15, gA_sI, e_es1, gA_sI]⟩)⟩
  · have hs_es1 : sh es1 := by rw [e_es1]; exact sh_sI hs_es (p := 79) (b := 0) rfl rfl
    have b_v2 : v2 = (gA es 80 1).toInt := by
      have h := e_v2
      rw [e_es1, gA_sI] at h
      exact h
    have b_v7 : v7 = (gA es 80 ((119 + (98 * bk)) + 1).toNat).toInt := by
      have h := e_v7
      rw [e_es1, gA_sI] at h
      exact h
    have b_v16 : v16 = (gA es 80 ((119 + (98 * bk)) + ((2 + (4 * nt)) + wh)).toNat).toInt := by
      have h := e_v16
      rw [e_es1, gA_sI] at h
      exact h
    exact ⟨hs_es1, trivial, _, rfl, by rw [e_v16]; exact i32_rng _, Or.inr (Or.inr (⟨by show (gI es1 79 0).toInt = _; rw [e_es1, gI_sI hs_es (p := 79) (b := 0) rfl (by decide)]; rfl, by omega, by show gA es1 80 = _; rw [e_es1, gA_sI], by omega⟩))⟩
