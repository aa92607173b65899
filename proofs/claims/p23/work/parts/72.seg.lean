/-! SEGMENTS of methods by hand, printed by wip/ai2/hand1.py -/
theorem i_193_0 : iRow 193 0 = some (.iload_n 0, 0, 0, 0, (some (Jvm.ClassFile.FieldType.boolean))) := rfl
theorem i_193_1 : iRow 193 1 = some (.iload_n 1, 0, 0, 0, (some (Jvm.ClassFile.FieldType.boolean))) := rfl
theorem i_193_2 : iRow 193 2 = some (.if_icmp .lt 12, 0, 0, 0, (some (Jvm.ClassFile.FieldType.boolean))) := rfl
theorem i_193_5 : iRow 193 5 = some (.iload_n 0, 0, 0, 0, (some (Jvm.ClassFile.FieldType.boolean))) := rfl
theorem i_193_6 : iRow 193 6 = some (.iload_n 2, 0, 0, 0, (some (Jvm.ClassFile.FieldType.boolean))) := rfl
theorem i_193_7 : iRow 193 7 = some (.if_icmp .gt 7, 0, 0, 0, (some (Jvm.ClassFile.FieldType.boolean))) := rfl
theorem i_193_10 : iRow 193 10 = some (.iconst 1, 0, 0, 0, (some (Jvm.ClassFile.FieldType.boolean))) := rfl
theorem i_193_11 : iRow 193 11 = some (.goto 4, 0, 0, 0, (some (Jvm.ClassFile.FieldType.boolean))) := rfl
theorem i_193_14 : iRow 193 14 = some (.iconst 0, 0, 0, 0, (some (Jvm.ClassFile.FieldType.boolean))) := rfl
theorem i_193_15 : iRow 193 15 = some (.ireturn, 0, 0, 0, (some (Jvm.ClassFile.FieldType.boolean))) := rfl
theorem i_223_0 : iRow 223 0 = some (.iload_n 0, 0, 0, 0, (some (Jvm.ClassFile.FieldType.int))) := rfl
theorem i_223_1 : iRow 223 1 = some (.bipush 6, 0, 0, 0, (some (Jvm.ClassFile.FieldType.int))) := rfl
theorem i_223_3 : iRow 223 3 = some (.irem, 0, 0, 0, (some (Jvm.ClassFile.FieldType.int))) := rfl
theorem i_223_4 : iRow 223 4 = some (.iload_n 1, 0, 0, 0, (some (Jvm.ClassFile.FieldType.int))) := rfl
theorem i_223_5 : iRow 223 5 = some (.iadd, 0, 0, 0, (some (Jvm.ClassFile.FieldType.int))) := rfl
theorem i_223_6 : iRow 223 6 = some (.istore_n 3, 0, 0, 0, (some (Jvm.ClassFile.FieldType.int))) := rfl
theorem i_223_7 : iRow 223 7 = some (.iload_n 0, 0, 0, 0, (some (Jvm.ClassFile.FieldType.int))) := rfl
theorem i_223_8 : iRow 223 8 = some (.bipush 6, 0, 0, 0, (some (Jvm.ClassFile.FieldType.int))) := rfl
theorem i_223_10 : iRow 223 10 = some (.idiv, 0, 0, 0, (some (Jvm.ClassFile.FieldType.int))) := rfl
theorem i_223_11 : iRow 223 11 = some (.iload_n 2, 0, 0, 0, (some (Jvm.ClassFile.FieldType.int))) := rfl
theorem i_223_12 : iRow 223 12 = some (.iadd, 0, 0, 0, (some (Jvm.ClassFile.FieldType.int))) := rfl
theorem i_223_13 : iRow 223 13 = some (.istore 4, 0, 0, 0, (some (Jvm.ClassFile.FieldType.int))) := rfl
theorem i_223_15 : iRow 223 15 = some (.iload_n 3, 0, 0, 0, (some (Jvm.ClassFile.FieldType.int))) := rfl
theorem i_223_16 : iRow 223 16 = some (.iconst 0, 0, 0, 0, (some (Jvm.ClassFile.FieldType.int))) := rfl
theorem i_223_17 : iRow 223 17 = some (.iconst 5, 0, 0, 0, (some (Jvm.ClassFile.FieldType.int))) := rfl
theorem i_223_18 : iRow 223 18 = some (.invokestatic 106, 282, 193, 0, (some (Jvm.ClassFile.FieldType.int))) := rfl
theorem i_223_21 : iRow 223 21 = some (.ifCond .eq 23, 0, 0, 0, (some (Jvm.ClassFile.FieldType.int))) := rfl
theorem i_223_24 : iRow 223 24 = some (.iload 4, 0, 0, 0, (some (Jvm.ClassFile.FieldType.int))) := rfl
theorem i_223_26 : iRow 223 26 = some (.iconst 0, 0, 0, 0, (some (Jvm.ClassFile.FieldType.int))) := rfl
theorem i_223_27 : iRow 223 27 = some (.iconst 5, 0, 0, 0, (some (Jvm.ClassFile.FieldType.int))) := rfl
theorem i_223_28 : iRow 223 28 = some (.invokestatic 106, 282, 193, 0, (some (Jvm.ClassFile.FieldType.int))) := rfl
theorem i_223_31 : iRow 223 31 = some (.ifCond .eq 13, 0, 0, 0, (some (Jvm.ClassFile.FieldType.int))) := rfl
theorem i_223_34 : iRow 223 34 = some (.bipush 6, 0, 0, 0, (some (Jvm.ClassFile.FieldType.int))) := rfl
theorem i_223_36 : iRow 223 36 = some (.iload 4, 0, 0, 0, (some (Jvm.ClassFile.FieldType.int))) := rfl
theorem i_223_38 : iRow 223 38 = some (.imul, 0, 0, 0, (some (Jvm.ClassFile.FieldType.int))) := rfl
theorem i_223_39 : iRow 223 39 = some (.iload_n 3, 0, 0, 0, (some (Jvm.ClassFile.FieldType.int))) := rfl
theorem i_223_40 : iRow 223 40 = some (.iadd, 0, 0, 0, (some (Jvm.ClassFile.FieldType.int))) := rfl
theorem i_223_41 : iRow 223 41 = some (.goto 4, 0, 0, 0, (some (Jvm.ClassFile.FieldType.int))) := rfl
theorem i_223_44 : iRow 223 44 = some (.iconst (-1), 0, 0, 0, (some (Jvm.ClassFile.FieldType.int))) := rfl
theorem i_223_45 : iRow 223 45 = some (.ireturn, 0, 0, 0, (some (Jvm.ClassFile.FieldType.int))) := rfl
theorem s_off {O : pOut} {d kc ks : Nat} {Q : pRes → Prop} {es : PH} {sq f r : Int} (hs_es : sh es) (h1 : 0 ≤ sq ∧ sq ≤ 35) (h2 : -2 ≤ f ∧ f ≤ 2) (h3 : -2 ≤ r ∧ r ≤ 2)
    (K1 : ((sq % 6) + f) < 0 → Q (.inl (some (.int (zI (-1)))), es, kc, ks))
    (K2 : ¬ (((sq % 6) + f) < 0) → 5 < ((sq % 6) + f) → Q (.inl (some (.int (zI (-1)))), es, kc, ks))
    (K3 : ¬ (((sq % 6) + f) < 0) → ¬ (5 < ((sq % 6) + f)) → ((sq / 6) + r) < 0 → Q (.inl (some (.int (zI (-1)))), es, kc, ks))
    (K4 : ¬ (((sq % 6) + f) < 0) → ¬ (5 < ((sq % 6) + f)) → ¬ (((sq / 6) + r) < 0) → 5 < ((sq / 6) + r) → Q (.inl (some (.int (zI (-1)))), es, kc, ks))
    (K5 : ¬ (((sq % 6) + f) < 0) → ¬ (5 < ((sq % 6) + f)) → ¬ (((sq / 6) + r) < 0) → ¬ (5 < ((sq / 6) + r)) → Q (.inl (some (.int (zI ((6 * ((sq / 6) + r)) + ((sq % 6) + f))))), es, kc, ks)) :
    aW O (d + 1) 223 kc ks Q (0, [some (.int (zI sq)), some (.int (zI f)), some (.int (zI r)), none, none], [], es) := by
  refine x0 (r := (1, [some (.int (zI sq)), some (.int (zI f)), some (.int (zI r)), none, none], [.int (zI sq)], es)) i_223_0 rfl ?_
  refine x0 (r := (3, [some (.int (zI sq)), some (.int (zI f)), some (.int (zI r)), none, none], [.int (zI 6), .int (zI sq)], es)) i_223_1 (by rfl) ?_
  refine x_iremn i_223_3 (by omega) (by unfold i32 iLO iHI; omega) (by unfold i32 iLO iHI; omega) (by omega) ?_
  refine x0 (r := (5, [some (.int (zI sq)), some (.int (zI f)), some (.int (zI r)), none, none], [.int (zI f), .int (zI (sq % 6))], es)) i_223_4 rfl ?_
  refine x_iadd i_223_5 ?_
  refine x0 (r := (7, [some (.int (zI sq)), some (.int (zI f)), some (.int (zI r)), some (.int (zI ((sq % 6) + f))), none], [], es)) i_223_6 rfl ?_
  refine x0 (r := (8, [some (.int (zI sq)), some (.int (zI f)), some (.int (zI r)), some (.int (zI ((sq % 6) + f))), none], [.int (zI sq)], es)) i_223_7 rfl ?_
  refine x0 (r := (10, [some (.int (zI sq)), some (.int (zI f)), some (.int (zI r)), some (.int (zI ((sq % 6) + f))), none], [.int (zI 6), .int (zI sq)], es)) i_223_8 (by rfl) ?_
  refine x_idivn i_223_10 (by omega) (by unfold i32 iLO iHI; omega) (by unfold i32 iLO iHI; omega) (by omega) ?_
  refine x0 (r := (12, [some (.int (zI sq)), some (.int (zI f)), some (.int (zI r)), some (.int (zI ((sq % 6) + f))), none], [.int (zI r), .int (zI (sq / 6))], es)) i_223_11 rfl ?_
  refine x_iadd i_223_12 ?_
  refine x0 (r := (15, [some (.int (zI sq)), some (.int (zI f)), some (.int (zI r)), some (.int (zI ((sq % 6) + f))), some (.int (zI ((sq / 6) + r)))], [], es)) i_223_13 rfl ?_
  refine x0 (r := (16, [some (.int (zI sq)), some (.int (zI f)), some (.int (zI r)), some (.int (zI ((sq % 6) + f))), some (.int (zI ((sq / 6) + r)))], [.int (zI ((sq % 6) + f))], es)) i_223_15 rfl ?_
  refine x0 (r := (17, [some (.int (zI sq)), some (.int (zI f)), some (.int (zI r)), some (.int (zI ((sq % 6) + f))), some (.int (zI ((sq / 6) + r)))], [.int (zI 0), .int (zI ((sq % 6) + f))], es)) i_223_16 (by rfl) ?_
  refine x0 (r := (18, [some (.int (zI sq)), some (.int (zI f)), some (.int (zI r)), some (.int (zI ((sq % 6) + f))), some (.int (zI ((sq / 6) + r)))], [.int (zI 5), .int (zI 0), .int (zI ((sq % 6) + f))], es)) i_223_17 (by rfl) ?_
  refine x_call (vs := [.int (zI ((sq % 6) + f)), .int (zI 0), .int (zI 5)]) (rs := []) i_223_18 rfl (fun _ => rfl) rfl rfl rfl rfl rfl rfl ?_
  show aW _ _ _ _ _ _ (0, [some (.int (zI ((sq % 6) + f))), some (.int (zI 0)), some (.int (zI 5))], [], es)
  refine x0 (r := (1, [some (.int (zI ((sq % 6) + f))), some (.int (zI 0)), some (.int (zI 5))], [.int (zI ((sq % 6) + f))], es)) i_193_0 rfl ?_
  refine x0 (r := (2, [some (.int (zI ((sq % 6) + f))), some (.int (zI 0)), some (.int (zI 5))], [.int (zI 0), .int (zI ((sq % 6) + f))], es)) i_193_1 rfl ?_
  by_cases c1 : ((sq % 6) + f) < 0
  · refine x_cmpT i_193_2 (by unfold i32 iLO iHI; omega) (by unfold i32 iLO iHI; omega) rfl (by simp only [zC, cR]; omega) ?_
    refine x0 (r := (15, [some (.int (zI ((sq % 6) + f))), some (.int (zI 0)), some (.int (zI 5))], [.int (zI 0)], es)) i_193_14 (by rfl) ?_
    refine x_ret (v := some (.int (zI 0))) i_193_15 rfl (fun _ => rfl) rfl rfl (pFin_b (by omega)) ?_
    show aW _ _ _ _ _ _ (21, [some (.int (zI sq)), some (.int (zI f)), some (.int (zI r)), some (.int (zI ((sq % 6) + f))), some (.int (zI ((sq / 6) + r)))], [.int (zI 0)], es)
    refine x_ifT i_223_21 (by unfold i32 iLO iHI; omega) rfl (by simp only [zC, cR]; omega) ?_
    refine x0 (r := (45, [some (.int (zI sq)), some (.int (zI f)), some (.int (zI r)), some (.int (zI ((sq % 6) + f))), some (.int (zI ((sq / 6) + r)))], [.int (zI (-1))], es)) i_223_44 (by rfl) ?_
    refine x_ret (v := some (.int (zI (-1)))) i_223_45 rfl (fun _ => rfl) rfl rfl rfl ?_
    exact K1 c1
  · refine x_cmpF i_193_2 (by unfold i32 iLO iHI; omega) (by unfold i32 iLO iHI; omega) rfl (by simp only [zC, cR]; omega) ?_
    refine x0 (r := (6, [some (.int (zI ((sq % 6) + f))), some (.int (zI 0)), some (.int (zI 5))], [.int (zI ((sq % 6) + f))], es)) i_193_5 rfl ?_
    refine x0 (r := (7, [some (.int (zI ((sq % 6) + f))), some (.int (zI 0)), some (.int (zI 5))], [.int (zI 5), .int (zI ((sq % 6) + f))], es)) i_193_6 rfl ?_
    by_cases c2 : 5 < ((sq % 6) + f)
    · refine x_cmpT i_193_7 (by unfold i32 iLO iHI; omega) (by unfold i32 iLO iHI; omega) rfl (by simp only [zC, cR]; omega) ?_
      refine x0 (r := (15, [some (.int (zI ((sq % 6) + f))), some (.int (zI 0)), some (.int (zI 5))], [.int (zI 0)], es)) i_193_14 (by rfl) ?_
      refine x_ret (v := some (.int (zI 0))) i_193_15 rfl (fun _ => rfl) rfl rfl (pFin_b (by omega)) ?_
      show aW _ _ _ _ _ _ (21, [some (.int (zI sq)), some (.int (zI f)), some (.int (zI r)), some (.int (zI ((sq % 6) + f))), some (.int (zI ((sq / 6) + r)))], [.int (zI 0)], es)
      refine x_ifT i_223_21 (by unfold i32 iLO iHI; omega) rfl (by simp only [zC, cR]; omega) ?_
      refine x0 (r := (45, [some (.int (zI sq)), some (.int (zI f)), some (.int (zI r)), some (.int (zI ((sq % 6) + f))), some (.int (zI ((sq / 6) + r)))], [.int (zI (-1))], es)) i_223_44 (by rfl) ?_
      refine x_ret (v := some (.int (zI (-1)))) i_223_45 rfl (fun _ => rfl) rfl rfl rfl ?_
      exact K2 c1 c2
    · refine x_cmpF i_193_7 (by unfold i32 iLO iHI; omega) (by unfold i32 iLO iHI; omega) rfl (by simp only [zC, cR]; omega) ?_
      refine x0 (r := (11, [some (.int (zI ((sq % 6) + f))), some (.int (zI 0)), some (.int (zI 5))], [.int (zI 1)], es)) i_193_10 (by rfl) ?_
      refine x0 (r := (15, [some (.int (zI ((sq % 6) + f))), some (.int (zI 0)), some (.int (zI 5))], [.int (zI 1)], es)) i_193_11 rfl ?_
      refine x_ret (v := some (.int (zI 1))) i_193_15 rfl (fun _ => rfl) rfl rfl (pFin_b (by omega)) ?_
      show aW _ _ _ _ _ _ (21, [some (.int (zI sq)), some (.int (zI f)), some (.int (zI r)), some (.int (zI ((sq % 6) + f))), some (.int (zI ((sq / 6) + r)))], [.int (zI 1)], es)
      refine x_ifF i_223_21 (by unfold i32 iLO iHI; omega) rfl (by simp only [zC, cR]; omega) ?_
      refine x0 (r := (26, [some (.int (zI sq)), some (.int (zI f)), some (.int (zI r)), some (.int (zI ((sq % 6) + f))), some (.int (zI ((sq / 6) + r)))], [.int (zI ((sq / 6) + r))], es)) i_223_24 rfl ?_
      refine x0 (r := (27, [some (.int (zI sq)), some (.int (zI f)), some (.int (zI r)), some (.int (zI ((sq % 6) + f))), some (.int (zI ((sq / 6) + r)))], [.int (zI 0), .int (zI ((sq / 6) + r))], es)) i_223_26 (by rfl) ?_
      refine x0 (r := (28, [some (.int (zI sq)), some (.int (zI f)), some (.int (zI r)), some (.int (zI ((sq % 6) + f))), some (.int (zI ((sq / 6) + r)))], [.int (zI 5), .int (zI 0), .int (zI ((sq / 6) + r))], es)) i_223_27 (by rfl) ?_
      refine x_call (vs := [.int (zI ((sq / 6) + r)), .int (zI 0), .int (zI 5)]) (rs := []) i_223_28 rfl (fun _ => rfl) rfl rfl rfl rfl rfl rfl ?_
      show aW _ _ _ _ _ _ (0, [some (.int (zI ((sq / 6) + r))), some (.int (zI 0)), some (.int (zI 5))], [], es)
      refine x0 (r := (1, [some (.int (zI ((sq / 6) + r))), some (.int (zI 0)), some (.int (zI 5))], [.int (zI ((sq / 6) + r))], es)) i_193_0 rfl ?_
      refine x0 (r := (2, [some (.int (zI ((sq / 6) + r))), some (.int (zI 0)), some (.int (zI 5))], [.int (zI 0), .int (zI ((sq / 6) + r))], es)) i_193_1 rfl ?_
      by_cases c3 : ((sq / 6) + r) < 0
      · refine x_cmpT i_193_2 (by unfold i32 iLO iHI; omega) (by unfold i32 iLO iHI; omega) rfl (by simp only [zC, cR]; omega) ?_
        refine x0 (r := (15, [some (.int (zI ((sq / 6) + r))), some (.int (zI 0)), some (.int (zI 5))], [.int (zI 0)], es)) i_193_14 (by rfl) ?_
        refine x_ret (v := some (.int (zI 0))) i_193_15 rfl (fun _ => rfl) rfl rfl (pFin_b (by omega)) ?_
        show aW _ _ _ _ _ _ (31, [some (.int (zI sq)), some (.int (zI f)), some (.int (zI r)), some (.int (zI ((sq % 6) + f))), some (.int (zI ((sq / 6) + r)))], [.int (zI 0)], es)
        refine x_ifT i_223_31 (by unfold i32 iLO iHI; omega) rfl (by simp only [zC, cR]; omega) ?_
        refine x0 (r := (45, [some (.int (zI sq)), some (.int (zI f)), some (.int (zI r)), some (.int (zI ((sq % 6) + f))), some (.int (zI ((sq / 6) + r)))], [.int (zI (-1))], es)) i_223_44 (by rfl) ?_
        refine x_ret (v := some (.int (zI (-1)))) i_223_45 rfl (fun _ => rfl) rfl rfl rfl ?_
        exact K3 c1 c2 c3
      · refine x_cmpF i_193_2 (by unfold i32 iLO iHI; omega) (by unfold i32 iLO iHI; omega) rfl (by simp only [zC, cR]; omega) ?_
        refine x0 (r := (6, [some (.int (zI ((sq / 6) + r))), some (.int (zI 0)), some (.int (zI 5))], [.int (zI ((sq / 6) + r))], es)) i_193_5 rfl ?_
        refine x0 (r := (7, [some (.int (zI ((sq / 6) + r))), some (.int (zI 0)), some (.int (zI 5))], [.int (zI 5), .int (zI ((sq / 6) + r))], es)) i_193_6 rfl ?_
        by_cases c4 : 5 < ((sq / 6) + r)
        · refine x_cmpT i_193_7 (by unfold i32 iLO iHI; omega) (by unfold i32 iLO iHI; omega) rfl (by simp only [zC, cR]; omega) ?_
          refine x0 (r := (15, [some (.int (zI ((sq / 6) + r))), some (.int (zI 0)), some (.int (zI 5))], [.int (zI 0)], es)) i_193_14 (by rfl) ?_
          refine x_ret (v := some (.int (zI 0))) i_193_15 rfl (fun _ => rfl) rfl rfl (pFin_b (by omega)) ?_
          show aW _ _ _ _ _ _ (31, [some (.int (zI sq)), some (.int (zI f)), some (.int (zI r)), some (.int (zI ((sq % 6) + f))), some (.int (zI ((sq / 6) + r)))], [.int (zI 0)], es)
          refine x_ifT i_223_31 (by unfold i32 iLO iHI; omega) rfl (by simp only [zC, cR]; omega) ?_
          refine x0 (r := (45, [some (.int (zI sq)), some (.int (zI f)), some (.int (zI r)), some (.int (zI ((sq % 6) + f))), some (.int (zI ((sq / 6) + r)))], [.int (zI (-1))], es)) i_223_44 (by rfl) ?_
          refine x_ret (v := some (.int (zI (-1)))) i_223_45 rfl (fun _ => rfl) rfl rfl rfl ?_
          exact K4 c1 c2 c3 c4
        · refine x_cmpF i_193_7 (by unfold i32 iLO iHI; omega) (by unfold i32 iLO iHI; omega) rfl (by simp only [zC, cR]; omega) ?_
          refine x0 (r := (11, [some (.int (zI ((sq / 6) + r))), some (.int (zI 0)), some (.int (zI 5))], [.int (zI 1)], es)) i_193_10 (by rfl) ?_
          refine x0 (r := (15, [some (.int (zI ((sq / 6) + r))), some (.int (zI 0)), some (.int (zI 5))], [.int (zI 1)], es)) i_193_11 rfl ?_
          refine x_ret (v := some (.int (zI 1))) i_193_15 rfl (fun _ => rfl) rfl rfl (pFin_b (by omega)) ?_
          show aW _ _ _ _ _ _ (31, [some (.int (zI sq)), some (.int (zI f)), some (.int (zI r)), some (.int (zI ((sq % 6) + f))), some (.int (zI ((sq / 6) + r)))], [.int (zI 1)], es)
          refine x_ifF i_223_31 (by unfold i32 iLO iHI; omega) rfl (by simp only [zC, cR]; omega) ?_
          refine x0 (r := (36, [some (.int (zI sq)), some (.int (zI f)), some (.int (zI r)), some (.int (zI ((sq % 6) + f))), some (.int (zI ((sq / 6) + r)))], [.int (zI 6)], es)) i_223_34 (by rfl) ?_
          refine x0 (r := (38, [some (.int (zI sq)), some (.int (zI f)), some (.int (zI r)), some (.int (zI ((sq % 6) + f))), some (.int (zI ((sq / 6) + r)))], [.int (zI ((sq / 6) + r)), .int (zI 6)], es)) i_223_36 rfl ?_
          refine x_imul i_223_38 ?_
          refine x0 (r := (40, [some (.int (zI sq)), some (.int (zI f)), some (.int (zI r)), some (.int (zI ((sq % 6) + f))), some (.int (zI ((sq / 6) + r)))], [.int (zI ((sq % 6) + f)), .int (zI (6 * ((sq / 6) + r)))], es)) i_223_39 rfl ?_
          refine x_iadd i_223_40 ?_
          refine x0 (r := (45, [some (.int (zI sq)), some (.int (zI f)), some (.int (zI r)), some (.int (zI ((sq % 6) + f))), some (.int (zI ((sq / 6) + r)))], [.int (zI ((6 * ((sq / 6) + r)) + ((sq % 6) + f)))], es)) i_223_41 rfl ?_
          refine x_ret (v := some (.int (zI ((6 * ((sq / 6) + r)) + ((sq % 6) + f))))) i_223_45 rfl (fun _ => rfl) rfl rfl rfl ?_
          exact K5 c1 c2 c3 c4
