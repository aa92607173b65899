/-! printed by wip/rel/notes.py -/
theorem i_43_0 : iRow 43 0 = some (.aload_n 0, 0, 0, 0, (some (Jvm.ClassFile.FieldType.int))) := rfl
theorem i_43_1 : iRow 43 1 = some (.getfield 30, 37, 1, 8, (some (Jvm.ClassFile.FieldType.int))) := rfl
theorem i_43_4 : iRow 43 4 = some (.iload_n 1, 0, 0, 0, (some (Jvm.ClassFile.FieldType.int))) := rfl
theorem i_43_5 : iRow 43 5 = some (.bipush 24, 0, 0, 0, (some (Jvm.ClassFile.FieldType.int))) := rfl
theorem i_43_7 : iRow 43 7 = some (.imul, 0, 0, 0, (some (Jvm.ClassFile.FieldType.int))) := rfl
theorem i_43_8 : iRow 43 8 = some (.iload_n 2, 0, 0, 0, (some (Jvm.ClassFile.FieldType.int))) := rfl
theorem i_43_9 : iRow 43 9 = some (.iadd, 0, 0, 0, (some (Jvm.ClassFile.FieldType.int))) := rfl
theorem i_43_10 : iRow 43 10 = some (.iconst 4, 0, 0, 0, (some (Jvm.ClassFile.FieldType.int))) := rfl
theorem i_43_11 : iRow 43 11 = some (.imul, 0, 0, 0, (some (Jvm.ClassFile.FieldType.int))) := rfl
theorem i_43_12 : iRow 43 12 = some (.iload_n 3, 0, 0, 0, (some (Jvm.ClassFile.FieldType.int))) := rfl
theorem i_43_13 : iRow 43 13 = some (.iadd, 0, 0, 0, (some (Jvm.ClassFile.FieldType.int))) := rfl
theorem i_43_14 : iRow 43 14 = some (.invokestatic 73, 11, 28, 3, (some (Jvm.ClassFile.FieldType.int))) := rfl
theorem i_43_17 : iRow 43 17 = some (.ireturn, 0, 0, 0, (some (Jvm.ClassFile.FieldType.int))) := rfl
theorem i_58_0 : iRow 58 0 = some (.iload_n 1, 0, 0, 0, (some (Jvm.ClassFile.FieldType.int))) := rfl
theorem i_58_1 : iRow 58 1 = some (.bipush 36, 0, 0, 0, (some (Jvm.ClassFile.FieldType.int))) := rfl
theorem i_58_3 : iRow 58 3 = some (.idiv, 0, 0, 0, (some (Jvm.ClassFile.FieldType.int))) := rfl
theorem i_58_4 : iRow 58 4 = some (.istore_n 2, 0, 0, 0, (some (Jvm.ClassFile.FieldType.int))) := rfl
theorem i_58_5 : iRow 58 5 = some (.iload_n 1, 0, 0, 0, (some (Jvm.ClassFile.FieldType.int))) := rfl
theorem i_58_6 : iRow 58 6 = some (.bipush 36, 0, 0, 0, (some (Jvm.ClassFile.FieldType.int))) := rfl
theorem i_58_8 : iRow 58 8 = some (.irem, 0, 0, 0, (some (Jvm.ClassFile.FieldType.int))) := rfl
theorem i_58_9 : iRow 58 9 = some (.istore_n 3, 0, 0, 0, (some (Jvm.ClassFile.FieldType.int))) := rfl
theorem i_58_10 : iRow 58 10 = some (.aload_n 0, 0, 0, 0, (some (Jvm.ClassFile.FieldType.int))) := rfl
theorem i_58_11 : iRow 58 11 = some (.getfield 9, 54, 0, 1, (some (Jvm.ClassFile.FieldType.int))) := rfl
theorem i_58_14 : iRow 58 14 = some (.iload_n 3, 0, 0, 0, (some (Jvm.ClassFile.FieldType.int))) := rfl
theorem i_58_15 : iRow 58 15 = some (.invokestatic 28, 16, 28, 3, (some (Jvm.ClassFile.FieldType.int))) := rfl
theorem i_58_18 : iRow 58 18 = some (.istore 4, 0, 0, 0, (some (Jvm.ClassFile.FieldType.int))) := rfl
theorem i_58_20 : iRow 58 20 = some (.aload_n 0, 0, 0, 0, (some (Jvm.ClassFile.FieldType.int))) := rfl
theorem i_58_21 : iRow 58 21 = some (.getfield 9, 54, 0, 1, (some (Jvm.ClassFile.FieldType.int))) := rfl
theorem i_58_24 : iRow 58 24 = some (.iload_n 3, 0, 0, 0, (some (Jvm.ClassFile.FieldType.int))) := rfl
theorem i_58_25 : iRow 58 25 = some (.aload_n 0, 0, 0, 0, (some (Jvm.ClassFile.FieldType.int))) := rfl
theorem i_58_26 : iRow 58 26 = some (.getfield 9, 54, 0, 1, (some (Jvm.ClassFile.FieldType.int))) := rfl
theorem i_58_29 : iRow 58 29 = some (.iload_n 2, 0, 0, 0, (some (Jvm.ClassFile.FieldType.int))) := rfl
theorem i_58_30 : iRow 58 30 = some (.invokestatic 28, 16, 28, 3, (some (Jvm.ClassFile.FieldType.int))) := rfl
theorem i_58_33 : iRow 58 33 = some (.invokestatic 32, 20, 14, 3, (some (Jvm.ClassFile.FieldType.int))) := rfl
theorem i_58_36 : iRow 58 36 = some (.aload_n 0, 0, 0, 0, (some (Jvm.ClassFile.FieldType.int))) := rfl
theorem i_58_37 : iRow 58 37 = some (.getfield 9, 54, 0, 1, (some (Jvm.ClassFile.FieldType.int))) := rfl
theorem i_58_40 : iRow 58 40 = some (.iload_n 2, 0, 0, 0, (some (Jvm.ClassFile.FieldType.int))) := rfl
theorem i_58_41 : iRow 58 41 = some (.iconst 0, 0, 0, 0, (some (Jvm.ClassFile.FieldType.int))) := rfl
theorem i_58_42 : iRow 58 42 = some (.invokestatic 32, 20, 14, 3, (some (Jvm.ClassFile.FieldType.int))) := rfl
theorem i_58_45 : iRow 58 45 = some (.iload 4, 0, 0, 0, (some (Jvm.ClassFile.FieldType.int))) := rfl
theorem i_58_47 : iRow 58 47 = some (.ireturn, 0, 0, 0, (some (Jvm.ClassFile.FieldType.int))) := rfl
theorem i_119_0 : iRow 119 0 = some (.iload_n 1, 0, 0, 0, none) := rfl
theorem i_119_1 : iRow 119 1 = some (.bipush 24, 0, 0, 0, none) := rfl
theorem i_119_3 : iRow 119 3 = some (.imul, 0, 0, 0, none) := rfl
theorem i_119_4 : iRow 119 4 = some (.iload_n 2, 0, 0, 0, none) := rfl
theorem i_119_5 : iRow 119 5 = some (.iadd, 0, 0, 0, none) := rfl
theorem i_119_6 : iRow 119 6 = some (.iconst 4, 0, 0, 0, none) := rfl
theorem i_119_7 : iRow 119 7 = some (.imul, 0, 0, 0, none) := rfl
theorem i_119_8 : iRow 119 8 = some (.istore 7, 0, 0, 0, none) := rfl
theorem i_119_10 : iRow 119 10 = some (.aload_n 0, 0, 0, 0, none) := rfl
theorem i_119_11 : iRow 119 11 = some (.getfield 30, 37, 1, 8, none) := rfl
theorem i_119_14 : iRow 119 14 = some (.iload 7, 0, 0, 0, none) := rfl
theorem i_119_16 : iRow 119 16 = some (.iload_n 3, 0, 0, 0, none) := rfl
theorem i_119_17 : iRow 119 17 = some (.invokestatic 62, 28, 14, 3, none) := rfl
theorem i_119_20 : iRow 119 20 = some (.aload_n 0, 0, 0, 0, none) := rfl
theorem i_119_21 : iRow 119 21 = some (.getfield 30, 37, 1, 8, none) := rfl
theorem i_119_24 : iRow 119 24 = some (.iload 7, 0, 0, 0, none) := rfl
theorem i_119_26 : iRow 119 26 = some (.iconst 1, 0, 0, 0, none) := rfl
theorem i_119_27 : iRow 119 27 = some (.iadd, 0, 0, 0, none) := rfl
theorem i_119_28 : iRow 119 28 = some (.iload 4, 0, 0, 0, none) := rfl
theorem i_119_30 : iRow 119 30 = some (.invokestatic 62, 28, 14, 3, none) := rfl
theorem i_119_33 : iRow 119 33 = some (.aload_n 0, 0, 0, 0, none) := rfl
theorem i_119_34 : iRow 119 34 = some (.getfield 30, 37, 1, 8, none) := rfl
theorem i_119_37 : iRow 119 37 = some (.iload 7, 0, 0, 0, none) := rfl
theorem i_119_39 : iRow 119 39 = some (.iconst 2, 0, 0, 0, none) := rfl
theorem i_119_40 : iRow 119 40 = some (.iadd, 0, 0, 0, none) := rfl
theorem i_119_41 : iRow 119 41 = some (.iload 5, 0, 0, 0, none) := rfl
theorem i_119_43 : iRow 119 43 = some (.invokestatic 62, 28, 14, 3, none) := rfl
theorem i_119_46 : iRow 119 46 = some (.aload_n 0, 0, 0, 0, none) := rfl
theorem i_119_47 : iRow 119 47 = some (.getfield 30, 37, 1, 8, none) := rfl
theorem i_119_50 : iRow 119 50 = some (.iload 7, 0, 0, 0, none) := rfl
theorem i_119_52 : iRow 119 52 = some (.iconst 3, 0, 0, 0, none) := rfl
theorem i_119_53 : iRow 119 53 = some (.iadd, 0, 0, 0, none) := rfl
theorem i_119_54 : iRow 119 54 = some (.iload 6, 0, 0, 0, none) := rfl
theorem i_119_56 : iRow 119 56 = some (.invokestatic 62, 28, 14, 3, none) := rfl
theorem i_119_59 : iRow 119 59 = some (.return_, 0, 0, 0, none) := rfl
/-! set of the class in the row of the counts -/
section
variable {O : pOut} {d kc ks : Nat} {Q : pRes → Prop} {es : PH} {x v : Int}
theorem set13 (hs : sh es) (hT : hOK tT es) (h0 : 0 ≤ x) (h1 : x < 3) (hv : 0 ≤ v ∧ v ≤ 24) (K : ∀ es', stP 13 x v es es' → Q (.inl none, es', kc, ks)) : aW O d 14 kc ks Q (0, [some (.ref 77), some (.int (zI x)), some (.int (zI v))], [], es) := by
  have hx : i32 x := by unfold i32 iLO iHI; omega
  have hT' : hOK tT (sA es 13 x.toNat (zI v)) := hOK_sA hT (p := 13) (t := 0) (n := 3) rfl (fun _ => by rw [zI_toInt (by unfold i32 iLO iHI; omega)]; exact ⟨by show (0 : Int) ≤ v; omega, by show v ≤ (24 : Int); omega⟩)
  refine x0 (r := (1, [some (.ref 77), some (.int (zI x)), some (.int (zI v))], [.int (zI x)], es)) i_14_0 rfl ?_
  refine x_ifF i_14_1 hx rfl (by simp only [zC, cR]; omega) ?_
  refine x0 (r := (5, [some (.ref 77), some (.int (zI x)), some (.int (zI v))], [.int (zI x)], es)) i_14_4 rfl ?_
  refine x0 (r := (6, [some (.ref 77), some (.int (zI x)), some (.int (zI v))], [.ref 77, .int (zI x)], es)) i_14_5 rfl ?_
  refine x_alen (p := 13) i_14_6 hs rfl ?_
  refine x_cmpF i_14_7 hx (by unfold i32 iLO iHI; omega) rfl (by simp only [zC, cR]; omega) ?_
  refine x0 (r := (11, [some (.ref 77), some (.int (zI x)), some (.int (zI v))], [.ref 77], es)) i_14_10 rfl ?_
  refine x0 (r := (12, [some (.ref 77), some (.int (zI x)), some (.int (zI v))], [.int (zI x), .ref 77], es)) i_14_11 rfl ?_
  refine x0 (r := (13, [some (.ref 77), some (.int (zI x)), some (.int (zI v))], [.int (zI v), .int (zI x), .ref 77], es)) i_14_12 rfl ?_
  refine x_iast (p := 13) i_14_13 hs rfl hx h0 h1 ?_
  refine x_ret (v := none) i_14_14 rfl (fun _ => rfl) rfl rfl rfl ?_
  exact K _ ⟨sh_of hT', hT', rfl⟩
end
theorem s_wan {O : pOut} {d kc ks : Nat} {Q : pRes → Prop} {es : PH} {b : Int} (hs_es : sh es) (hb : 0 ≤ b ∧ b ≤ 2) (hn : 0 ≤ (gA es 13 b.toNat).toInt ∧ (gA es 13 b.toNat).toInt ≤ 23) (hT_es : hOK tT es)
    (K1 : ∀ v1 : Int, atP 13 b es v1 → ∀ es2 : PH, stP 13 b (v1 + 1) es es2 → Q (.inl (some (.int (zI v1))), es2, kc, ks)) :
    aW O (d + 2) 118 kc ks Q (0, [some (.ref 71), some (.int (zI b)), none], [], es) := by
  refine x0 (r := (1, [some (.ref 71), some (.int (zI b)), none], [.ref 71], es)) i_118_0 rfl ?_
  refine x0 (r := (2, [some (.ref 71), some (.int (zI b)), none], [.int (zI b), .ref 71], es)) i_118_1 rfl ?_
  refine x_call (vs := [.ref 71, .int (zI b)]) (rs := []) i_118_2 rfl (fun _ => rfl) rfl rfl rfl rfl rfl (pCall_v (p := 7) hs_es rfl rfl rfl rfl rfl (by decide) rfl rfl rfl rfl rfl) ?_
  show aW _ _ _ _ _ _ (0, [some (.ref 71), some (.int (zI b))], [], es)
  refine x0 (r := (1, [some (.ref 71), some (.int (zI b))], [.ref 71], es)) i_35_0 rfl ?_
  refine x_getr (p := 7) (k := 77) i_35_1 hs_es rfl rfl ?_
  show aW _ _ _ _ _ _ (4, [some (.ref 71), some (.int (zI b))], [.ref 77], es)
  refine x0 (r := (5, [some (.ref 71), some (.int (zI b))], [.int (zI b), .ref 77], es)) i_35_4 rfl ?_
  refine x_call (vs := [.ref 77, .int (zI b)]) (rs := []) i_35_5 rfl (fun _ => rfl) rfl rfl rfl rfl rfl rfl ?_
  show aW _ _ _ _ _ _ (0, [some (.ref 77), some (.int (zI b))], [], es)
  refine at_sp (p := 13) rfl hs_es (by omega) (by omega) (by decide) (fun v1 p_v1 => ?_)
  have r_v1 := atP_is p_v1
  show aW _ _ _ _ _ _ (8, [some (.ref 71), some (.int (zI b))], [.int (zI v1)], es)
  refine x_ret (v := some (.int (zI v1))) i_35_8 rfl (fun _ => rfl) rfl rfl rfl ?_
  show aW _ _ _ _ _ _ (5, [some (.ref 71), some (.int (zI b)), none], [.int (zI v1)], es)
  refine x0 (r := (6, [some (.ref 71), some (.int (zI b)), some (.int (zI v1))], [], es)) i_118_5 rfl ?_
  refine x0 (r := (7, [some (.ref 71), some (.int (zI b)), some (.int (zI v1))], [.ref 71], es)) i_118_6 rfl ?_
  refine x_getr (p := 7) (k := 77) i_118_7 hs_es rfl rfl ?_
  show aW _ _ _ _ _ _ (10, [some (.ref 71), some (.int (zI b)), some (.int (zI v1))], [.ref 77], es)
  refine x0 (r := (11, [some (.ref 71), some (.int (zI b)), some (.int (zI v1))], [.int (zI b), .ref 77], es)) i_118_10 rfl ?_
  refine x0 (r := (12, [some (.ref 71), some (.int (zI b)), some (.int (zI v1))], [.int (zI v1), .int (zI b), .ref 77], es)) i_118_11 rfl ?_
  refine x0 (r := (13, [some (.ref 71), some (.int (zI b)), some (.int (zI v1))], [.int (zI 1), .int (zI v1), .int (zI b), .ref 77], es)) i_118_12 (by rfl) ?_
  refine x_iadd i_118_13 ?_
  refine x_call (vs := [.ref 77, .int (zI b), .int (zI (v1 + 1))]) (rs := []) i_118_14 rfl (fun _ => rfl) rfl rfl rfl rfl rfl rfl ?_
  show aW _ _ _ _ _ _ (0, [some (.ref 77), some (.int (zI b)), some (.int (zI (v1 + 1)))], [], es)
  refine set13 hs_es hT_es (by omega) (by omega) ⟨by omega, by omega⟩ (fun es2 p_es2 => ?_)
  have hs_es2 : sh es2 := p_es2.1
  have hT_es2 : hOK tT es2 := p_es2.2.1
  show aW _ _ _ _ _ _ (17, [some (.ref 71), some (.int (zI b)), some (.int (zI v1))], [], es2)
  refine x0 (r := (18, [some (.ref 71), some (.int (zI b)), some (.int (zI v1))], [.int (zI v1)], es2)) i_118_17 rfl ?_
  refine x_ret (v := some (.int (zI v1))) i_118_18 rfl (fun _ => rfl) rfl rfl rfl ?_
  exact K1 v1 p_v1 es2 p_es2
theorem s_wsn {O : pOut} {d kc ks : Nat} {Q : pRes → Prop} {es : PH} {b j k f g r : Int} (hs_es : sh es) (hb : 0 ≤ b ∧ b ≤ 2) (hj : 0 ≤ j ∧ j ≤ 23) (hT_es : hOK tT es)
    (K1 : ∀ es1 : PH, stP 14 (((b * 24) + j) * 4) k es es1 → ∀ es2 : PH, stP 14 ((((b * 24) + j) * 4) + 1) f es1 es2 → ∀ es3 : PH, stP 14 ((((b * 24) + j) * 4) + 2) g es2 es3 → ∀ es4 : PH, stP 14 ((((b * 24) + j) * 4) + 3) r es3 es4 → Q (.inl (none), es4, kc, ks)) :
    aW O (d + 1) 119 kc ks Q (0, [some (.ref 71), some (.int (zI b)), some (.int (zI j)), some (.int (zI k)), some (.int (zI f)), some (.int (zI g)), some (.int (zI r)), none], [], es) := by
  refine x0 (r := (1, [some (.ref 71), some (.int (zI b)), some (.int (zI j)), some (.int (zI k)), some (.int (zI f)), some (.int (zI g)), some (.int (zI r)), none], [.int (zI b)], es)) i_119_0 rfl ?_
  refine x0 (r := (3, [some (.ref 71), some (.int (zI b)), some (.int (zI j)), some (.int (zI k)), some (.int (zI f)), some (.int (zI g)), some (.int (zI r)), none], [.int (zI 24), .int (zI b)], es)) i_119_1 (by rfl) ?_
  refine x_imul i_119_3 ?_
  refine x0 (r := (5, [some (.ref 71), some (.int (zI b)), some (.int (zI j)), some (.int (zI k)), some (.int (zI f)), some (.int (zI g)), some (.int (zI r)), none], [.int (zI j), .int (zI (b * 24))], es)) i_119_4 rfl ?_
  refine x_iadd i_119_5 ?_
  refine x0 (r := (7, [some (.ref 71), some (.int (zI b)), some (.int (zI j)), some (.int (zI k)), some (.int (zI f)), some (.int (zI g)), some (.int (zI r)), none], [.int (zI 4), .int (zI ((b * 24) + j))], es)) i_119_6 (by rfl) ?_
  refine x_imul i_119_7 ?_
  refine x0 (r := (10, [some (.ref 71), some (.int (zI b)), some (.int (zI j)), some (.int (zI k)), some (.int (zI f)), some (.int (zI g)), some (.int (zI r)), some (.int (zI (((b * 24) + j) * 4)))], [], es)) i_119_8 rfl ?_
  refine x0 (r := (11, [some (.ref 71), some (.int (zI b)), some (.int (zI j)), some (.int (zI k)), some (.int (zI f)), some (.int (zI g)), some (.int (zI r)), some (.int (zI (((b * 24) + j) * 4)))], [.ref 71], es)) i_119_10 rfl ?_
  refine x_getr (p := 7) (k := 78) i_119_11 hs_es rfl rfl ?_
  show aW _ _ _ _ _ _ (14, [some (.ref 71), some (.int (zI b)), some (.int (zI j)), some (.int (zI k)), some (.int (zI f)), some (.int (zI g)), some (.int (zI r)), some (.int (zI (((b * 24) + j) * 4)))], [.ref 78], es)
  refine x0 (r := (16, [some (.ref 71), some (.int (zI b)), some (.int (zI j)), some (.int (zI k)), some (.int (zI f)), some (.int (zI g)), some (.int (zI r)), some (.int (zI (((b * 24) + j) * 4)))], [.int (zI (((b * 24) + j) * 4)), .ref 78], es)) i_119_14 rfl ?_
  refine x0 (r := (17, [some (.ref 71), some (.int (zI b)), some (.int (zI j)), some (.int (zI k)), some (.int (zI f)), some (.int (zI g)), some (.int (zI r)), some (.int (zI (((b * 24) + j) * 4)))], [.int (zI k), .int (zI (((b * 24) + j) * 4)), .ref 78], es)) i_119_16 rfl ?_
  refine x_call (vs := [.ref 78, .int (zI (((b * 24) + j) * 4)), .int (zI k)]) (rs := []) i_119_17 rfl (fun _ => rfl) rfl rfl rfl rfl rfl rfl ?_
  show aW _ _ _ _ _ _ (0, [some (.ref 78), some (.int (zI (((b * 24) + j) * 4))), some (.int (zI k))], [], es)
  refine set_sp (p := 14) rfl hs_es hT_es (fun _ => ⟨Int.le_refl _, Int.le_refl _⟩) (by omega) (by omega) (by decide) (fun es1 p_es1 => ?_)
  have hs_es1 : sh es1 := p_es1.1
  have hT_es1 : hOK tT es1 := p_es1.2.1
  show aW _ _ _ _ _ _ (20, [some (.ref 71), some (.int (zI b)), some (.int (zI j)), some (.int (zI k)), some (.int (zI f)), some (.int (zI g)), some (.int (zI r)), some (.int (zI (((b * 24) + j) * 4)))], [], es1)
  refine x0 (r := (21, [some (.ref 71), some (.int (zI b)), some (.int (zI j)), some (.int (zI k)), some (.int (zI f)), some (.int (zI g)), some (.int (zI r)), some (.int (zI (((b * 24) + j) * 4)))], [.ref 71], es1)) i_119_20 rfl ?_
  refine x_getr (p := 7) (k := 78) i_119_21 hs_es1 rfl rfl ?_
  show aW _ _ _ _ _ _ (24, [some (.ref 71), some (.int (zI b)), some (.int (zI j)), some (.int (zI k)), some (.int (zI f)), some (.int (zI g)), some (.int (zI r)), some (.int (zI (((b * 24) + j) * 4)))], [.ref 78], es1)
  refine x0 (r := (26, [some (.ref 71), some (.int (zI b)), some (.int (zI j)), some (.int (zI k)), some (.int (zI f)), some (.int (zI g)), some (.int (zI r)), some (.int (zI (((b * 24) + j) * 4)))], [.int (zI (((b * 24) + j) * 4)), .ref 78], es1)) i_119_24 rfl ?_
  refine x0 (r := (27, [some (.ref 71), some (.int (zI b)), some (.int (zI j)), some (.int (zI k)), some (.int (zI f)), some (.int (zI g)), some (.int (zI r)), some (.int (zI (((b * 24) + j) * 4)))], [.int (zI 1), .int (zI (((b * 24) + j) * 4)), .ref 78], es1)) i_119_26 (by rfl) ?_
  refine x_iadd i_119_27 ?_
  refine x0 (r := (30, [some (.ref 71), some (.int (zI b)), some (.int (zI j)), some (.int (zI k)), some (.int (zI f)), some (.int (zI g)), some (.int (zI r)), some (.int (zI (((b * 24) + j) * 4)))], [.int (zI f), .int (zI ((((b * 24) + j) * 4) + 1)), .ref 78], es1)) i_119_28 rfl ?_
  refine x_call (vs := [.ref 78, .int (zI ((((b * 24) + j) * 4) + 1)), .int (zI f)]) (rs := []) i_119_30 rfl (fun _ => rfl) rfl rfl rfl rfl rfl rfl ?_
  show aW _ _ _ _ _ _ (0, [some (.ref 78), some (.int (zI ((((b * 24) + j) * 4) + 1))), some (.int (zI f))], [], es1)
  refine set_sp (p := 14) rfl hs_es1 hT_es1 (fun _ => ⟨Int.le_refl _, Int.le_refl _⟩) (by omega) (by omega) (by decide) (fun es2 p_es2 => ?_)
  have hs_es2 : sh es2 := p_es2.1
  have hT_es2 : hOK tT es2 := p_es2.2.1
  show aW _ _ _ _ _ _ (33, [some (.ref 71), some (.int (zI b)), some (.int (zI j)), some (.int (zI k)), some (.int (zI f)), some (.int (zI g)), some (.int (zI r)), some (.int (zI (((b * 24) + j) * 4)))], [], es2)
  refine x0 (r := (34, [some (.ref 71), some (.int (zI b)), some (.int (zI j)), some (.int (zI k)), some (.int (zI f)), some (.int (zI g)), some (.int (zI r)), some (.int (zI (((b * 24) + j) * 4)))], [.ref 71], es2)) i_119_33 rfl ?_
  refine x_getr (p := 7) (k := 78) i_119_34 hs_es2 rfl rfl ?_
  show aW _ _ _ _ _ _ (37, [some (.ref 71), some (.int (zI b)), some (.int (zI j)), some (.int (zI k)), some (.int (zI f)), some (.int (zI g)), some (.int (zI r)), some (.int (zI (((b * 24) + j) * 4)))], [.ref 78], es2)
  refine x0 (r := (39, [some (.ref 71), some (.int (zI b)), some (.int (zI j)), some (.int (zI k)), some (.int (zI f)), some (.int (zI g)), some (.int (zI r)), some (.int (zI (((b * 24) + j) * 4)))], [.int (zI (((b * 24) + j) * 4)), .ref 78], es2)) i_119_37 rfl ?_
  refine x0 (r := (40, [some (.ref 71), some (.int (zI b)), some (.int (zI j)), some (.int (zI k)), some (.int (zI f)), some (.int (zI g)), some (.int (zI r)), some (.int (zI (((b * 24) + j) * 4)))], [.int (zI 2), .int (zI (((b * 24) + j) * 4)), .ref 78], es2)) i_119_39 (by rfl) ?_
  refine x_iadd i_119_40 ?_
  refine x0 (r := (43, [some (.ref 71), some (.int (zI b)), some (.int (zI j)), some (.int (zI k)), some (.int (zI f)), some (.int (zI g)), some (.int (zI r)), some (.int (zI (((b * 24) + j) * 4)))], [.int (zI g), .int (zI ((((b * 24) + j) * 4) + 2)), .ref 78], es2)) i_119_41 rfl ?_
  refine x_call (vs := [.ref 78, .int (zI ((((b * 24) + j) * 4) + 2)), .int (zI g)]) (rs := []) i_119_43 rfl (fun _ => rfl) rfl rfl rfl rfl rfl rfl ?_
  show aW _ _ _ _ _ _ (0, [some (.ref 78), some (.int (zI ((((b * 24) + j) * 4) + 2))), some (.int (zI g))], [], es2)
  refine set_sp (p := 14) rfl hs_es2 hT_es2 (fun _ => ⟨Int.le_refl _, Int.le_refl _⟩) (by omega) (by omega) (by decide) (fun es3 p_es3 => ?_)
  have hs_es3 : sh es3 := p_es3.1
  have hT_es3 : hOK tT es3 := p_es3.2.1
  show aW _ _ _ _ _ _ (46, [some (.ref 71), some (.int (zI b)), some (.int (zI j)), some (.int (zI k)), some (.int (zI f)), some (.int (zI g)), some (.int (zI r)), some (.int (zI (((b * 24) + j) * 4)))], [], es3)
  refine x0 (r := (47, [some (.ref 71), some (.int (zI b)), some (.int (zI j)), some (.int (zI k)), some (.int (zI f)), some (.int (zI g)), some (.int (zI r)), some (.int (zI (((b * 24) + j) * 4)))], [.ref 71], es3)) i_119_46 rfl ?_
  refine x_getr (p := 7) (k := 78) i_119_47 hs_es3 rfl rfl ?_
  show aW _ _ _ _ _ _ (50, [some (.ref 71), some (.int (zI b)), some (.int (zI j)), some (.int (zI k)), some (.int (zI f)), some (.int (zI g)), some (.int (zI r)), some (.int (zI (((b * 24) + j) * 4)))], [.ref 78], es3)
  refine x0 (r := (52, [some (.ref 71), some (.int (zI b)), some (.int (zI j)), some (.int (zI k)), some (.int (zI f)), some (.int (zI g)), some (.int (zI r)), some (.int (zI (((b * 24) + j) * 4)))], [.int (zI (((b * 24) + j) * 4)), .ref 78], es3)) i_119_50 rfl ?_
  refine x0 (r := (53, [some (.ref 71), some (.int (zI b)), some (.int (zI j)), some (.int (zI k)), some (.int (zI f)), some (.int (zI g)), some (.int (zI r)), some (.int (zI (((b * 24) + j) * 4)))], [.int (zI 3), .int (zI (((b * 24) + j) * 4)), .ref 78], es3)) i_119_52 (by rfl) ?_
  refine x_iadd i_119_53 ?_
  refine x0 (r := (56, [some (.ref 71), some (.int (zI b)), some (.int (zI j)), some (.int (zI k)), some (.int (zI f)), some (.int (zI g)), some (.int (zI r)), some (.int (zI (((b * 24) + j) * 4)))], [.int (zI r), .int (zI ((((b * 24) + j) * 4) + 3)), .ref 78], es3)) i_119_54 rfl ?_
  refine x_call (vs := [.ref 78, .int (zI ((((b * 24) + j) * 4) + 3)), .int (zI r)]) (rs := []) i_119_56 rfl (fun _ => rfl) rfl rfl rfl rfl rfl rfl ?_
  show aW _ _ _ _ _ _ (0, [some (.ref 78), some (.int (zI ((((b * 24) + j) * 4) + 3))), some (.int (zI r))], [], es3)
  refine set_sp (p := 14) rfl hs_es3 hT_es3 (fun _ => ⟨Int.le_refl _, Int.le_refl _⟩) (by omega) (by omega) (by decide) (fun es4 p_es4 => ?_)
  have hs_es4 : sh es4 := p_es4.1
  have hT_es4 : hOK tT es4 := p_es4.2.1
  show aW _ _ _ _ _ _ (59, [some (.ref 71), some (.int (zI b)), some (.int (zI j)), some (.int (zI k)), some (.int (zI f)), some (.int (zI g)), some (.int (zI r)), some (.int (zI (((b * 24) + j) * 4)))], [], es4)
  refine x_ret (v := none) i_119_59 rfl (fun _ => rfl) rfl rfl rfl ?_
  exact K1 es1 p_es1 es2 p_es2 es3 p_es3 es4 p_es4
theorem s_wnc {O : pOut} {d kc ks : Nat} {Q : pRes → Prop} {es : PH} {b j f : Int} (hs_es : sh es) (hb : 0 ≤ b ∧ b ≤ 2) (hj : 0 ≤ j ∧ j ≤ 23) (hf : 0 ≤ f ∧ f ≤ 3) (hT_es : hOK tT es)
    (K1 : ∀ v1 : Int, atP 14 ((((b * 24) + j) * 4) + f) es v1 → Q (.inl (some (.int (zI v1))), es, kc, ks)) :
    aW O (d + 1) 43 kc ks Q (0, [some (.ref 71), some (.int (zI b)), some (.int (zI j)), some (.int (zI f))], [], es) := by
  refine x0 (r := (1, [some (.ref 71), some (.int (zI b)), some (.int (zI j)), some (.int (zI f))], [.ref 71], es)) i_43_0 rfl ?_
  refine x_getr (p := 7) (k := 78) i_43_1 hs_es rfl rfl ?_
  show aW _ _ _ _ _ _ (4, [some (.ref 71), some (.int (zI b)), some (.int (zI j)), some (.int (zI f))], [.ref 78], es)
  refine x0 (r := (5, [some (.ref 71), some (.int (zI b)), some (.int (zI j)), some (.int (zI f))], [.int (zI b), .ref 78], es)) i_43_4 rfl ?_
  refine x0 (r := (7, [some (.ref 71), some (.int (zI b)), some (.int (zI j)), some (.int (zI f))], [.int (zI 24), .int (zI b), .ref 78], es)) i_43_5 (by rfl) ?_
  refine x_imul i_43_7 ?_
  refine x0 (r := (9, [some (.ref 71), some (.int (zI b)), some (.int (zI j)), some (.int (zI f))], [.int (zI j), .int (zI (b * 24)), .ref 78], es)) i_43_8 rfl ?_
  refine x_iadd i_43_9 ?_
  refine x0 (r := (11, [some (.ref 71), some (.int (zI b)), some (.int (zI j)), some (.int (zI f))], [.int (zI 4), .int (zI ((b * 24) + j)), .ref 78], es)) i_43_10 (by rfl) ?_
  refine x_imul i_43_11 ?_
  refine x0 (r := (13, [some (.ref 71), some (.int (zI b)), some (.int (zI j)), some (.int (zI f))], [.int (zI f), .int (zI (((b * 24) + j) * 4)), .ref 78], es)) i_43_12 rfl ?_
  refine x_iadd i_43_13 ?_
  refine x_call (vs := [.ref 78, .int (zI ((((b * 24) + j) * 4) + f))]) (rs := []) i_43_14 rfl (fun _ => rfl) rfl rfl rfl rfl rfl rfl ?_
  show aW _ _ _ _ _ _ (0, [some (.ref 78), some (.int (zI ((((b * 24) + j) * 4) + f)))], [], es)
  refine at_sp (p := 14) rfl hs_es (by omega) (by omega) (by decide) (fun v1 p_v1 => ?_)
  have r_v1 := atP_is p_v1
  show aW _ _ _ _ _ _ (17, [some (.ref 71), some (.int (zI b)), some (.int (zI j)), some (.int (zI f))], [.int (zI v1)], es)
  refine x_ret (v := some (.int (zI v1))) i_43_17 rfl (fun _ => rfl) rfl rfl rfl ?_
  exact K1 v1 p_v1
theorem s_wgo {O : pOut} {d kc ks : Nat} {Q : pRes → Prop} {es : PH} {c : Int} (hs_es : sh es) (hc : 0 ≤ c ∧ c ≤ 1295) (hT_es : hOK tT es)
    (K1 : ∀ v1 : Int, atP 30 (c % 36) es v1 → ∀ v2 : Int, atP 30 (c / 36) es v2 → ∀ es3 : PH, stP 30 (c % 36) v2 es es3 → ∀ es4 : PH, stP 30 (c / 36) 0 es3 es4 → Q (.inl (some (.int (zI v1))), es4, kc, ks)) :
    aW O (d + 1) 58 kc ks Q (0, [some (.ref 93), some (.int (zI c)), none, none, none], [], es) := by
  refine x0 (r := (1, [some (.ref 93), some (.int (zI c)), none, none, none], [.int (zI c)], es)) i_58_0 rfl ?_
  refine x0 (r := (3, [some (.ref 93), some (.int (zI c)), none, none, none], [.int (zI 36), .int (zI c)], es)) i_58_1 (by rfl) ?_
  refine x_idivn i_58_3 (by omega) (by unfold i32 iLO iHI; omega) (by unfold i32 iLO iHI; omega) (by omega) ?_
  refine x0 (r := (5, [some (.ref 93), some (.int (zI c)), some (.int (zI (c / 36))), none, none], [], es)) i_58_4 rfl ?_
  refine x0 (r := (6, [some (.ref 93), some (.int (zI c)), some (.int (zI (c / 36))), none, none], [.int (zI c)], es)) i_58_5 rfl ?_
  refine x0 (r := (8, [some (.ref 93), some (.int (zI c)), some (.int (zI (c / 36))), none, none], [.int (zI 36), .int (zI c)], es)) i_58_6 (by rfl) ?_
  refine x_iremn i_58_8 (by omega) (by unfold i32 iLO iHI; omega) (by unfold i32 iLO iHI; omega) (by omega) ?_
  refine x0 (r := (10, [some (.ref 93), some (.int (zI c)), some (.int (zI (c / 36))), some (.int (zI (c % 36))), none], [], es)) i_58_9 rfl ?_
  refine x0 (r := (11, [some (.ref 93), some (.int (zI c)), some (.int (zI (c / 36))), some (.int (zI (c % 36))), none], [.ref 93], es)) i_58_10 rfl ?_
  refine x_getr (p := 29) (k := 94) i_58_11 hs_es rfl rfl ?_
  show aW _ _ _ _ _ _ (14, [some (.ref 93), some (.int (zI c)), some (.int (zI (c / 36))), some (.int (zI (c % 36))), none], [.ref 94], es)
  refine x0 (r := (15, [some (.ref 93), some (.int (zI c)), some (.int (zI (c / 36))), some (.int (zI (c % 36))), none], [.int (zI (c % 36)), .ref 94], es)) i_58_14 rfl ?_
  refine x_call (vs := [.ref 94, .int (zI (c % 36))]) (rs := []) i_58_15 rfl (fun _ => rfl) rfl rfl rfl rfl rfl rfl ?_
  show aW _ _ _ _ _ _ (0, [some (.ref 94), some (.int (zI (c % 36)))], [], es)
  refine at_sp (p := 30) rfl hs_es (by omega) (by omega) (by decide) (fun v1 p_v1 => ?_)
  have r_v1 := atP_is p_v1
  show aW _ _ _ _ _ _ (18, [some (.ref 93), some (.int (zI c)), some (.int (zI (c / 36))), some (.int (zI (c % 36))), none], [.int (zI v1)], es)
  refine x0 (r := (20, [some (.ref 93), some (.int (zI c)), some (.int (zI (c / 36))), some (.int (zI (c % 36))), some (.int (zI v1))], [], es)) i_58_18 rfl ?_
  refine x0 (r := (21, [some (.ref 93), some (.int (zI c)), some (.int (zI (c / 36))), some (.int (zI (c % 36))), some (.int (zI v1))], [.ref 93], es)) i_58_20 rfl ?_
  refine x_getr (p := 29) (k := 94) i_58_21 hs_es rfl rfl ?_
  show aW _ _ _ _ _ _ (24, [some (.ref 93), some (.int (zI c)), some (.int (zI (c / 36))), some (.int (zI (c % 36))), some (.int (zI v1))], [.ref 94], es)
  refine x0 (r := (25, [some (.ref 93), some (.int (zI c)), some (.int (zI (c / 36))), some (.int (zI (c % 36))), some (.int (zI v1))], [.int (zI (c % 36)), .ref 94], es)) i_58_24 rfl ?_
  refine x0 (r := (26, [some (.ref 93), some (.int (zI c)), some (.int (zI (c / 36))), some (.int (zI (c % 36))), some (.int (zI v1))], [.ref 93, .int (zI (c % 36)), .ref 94], es)) i_58_25 rfl ?_
  refine x_getr (p := 29) (k := 94) i_58_26 hs_es rfl rfl ?_
  show aW _ _ _ _ _ _ (29, [some (.ref 93), some (.int (zI c)), some (.int (zI (c / 36))), some (.int (zI (c % 36))), some (.int (zI v1))], [.ref 94, .int (zI (c % 36)), .ref 94], es)
  refine x0 (r := (30, [some (.ref 93), some (.int (zI c)), some (.int (zI (c / 36))), some (.int (zI (c % 36))), some (.int (zI v1))], [.int (zI (c / 36)), .ref 94, .int (zI (c % 36)), .ref 94], es)) i_58_29 rfl ?_
  refine x_call (vs := [.ref 94, .int (zI (c / 36))]) (rs := [.int (zI (c % 36)), .ref 94]) i_58_30 rfl (fun _ => rfl) rfl rfl rfl rfl rfl rfl ?_
  show aW _ _ _ _ _ _ (0, [some (.ref 94), some (.int (zI (c / 36)))], [], es)
  refine at_sp (p := 30) rfl hs_es (by omega) (by omega) (by decide) (fun v2 p_v2 => ?_)
  have r_v2 := atP_is p_v2
  show aW _ _ _ _ _ _ (33, [some (.ref 93), some (.int (zI c)), some (.int (zI (c / 36))), some (.int (zI (c % 36))), some (.int (zI v1))], [.int (zI v2), .int (zI (c % 36)), .ref 94], es)
  refine x_call (vs := [.ref 94, .int (zI (c % 36)), .int (zI v2)]) (rs := []) i_58_33 rfl (fun _ => rfl) rfl rfl rfl rfl rfl rfl ?_
  show aW _ _ _ _ _ _ (0, [some (.ref 94), some (.int (zI (c % 36))), some (.int (zI v2))], [], es)
  refine set_sp (p := 30) rfl hs_es hT_es (fun _ => ⟨Int.le_refl _, Int.le_refl _⟩) (by omega) (by omega) (by decide) (fun es3 p_es3 => ?_)
  have hs_es3 : sh es3 := p_es3.1
  have hT_es3 : hOK tT es3 := p_es3.2.1
  show aW _ _ _ _ _ _ (36, [some (.ref 93), some (.int (zI c)), some (.int (zI (c / 36))), some (.int (zI (c % 36))), some (.int (zI v1))], [], es3)
  refine x0 (r := (37, [some (.ref 93), some (.int (zI c)), some (.int (zI (c / 36))), some (.int (zI (c % 36))), some (.int (zI v1))], [.ref 93], es3)) i_58_36 rfl ?_
  refine x_getr (p := 29) (k := 94) i_58_37 hs_es3 rfl rfl ?_
  show aW _ _ _ _ _ _ (40, [some (.ref 93), some (.int (zI c)), some (.int (zI (c / 36))), some (.int (zI (c % 36))), some (.int (zI v1))], [.ref 94], es3)
  refine x0 (r := (41, [some (.ref 93), some (.int (zI c)), some (.int (zI (c / 36))), some (.int (zI (c % 36))), some (.int (zI v1))], [.int (zI (c / 36)), .ref 94], es3)) i_58_40 rfl ?_
  refine x0 (r := (42, [some (.ref 93), some (.int (zI c)), some (.int (zI (c / 36))), some (.int (zI (c % 36))), some (.int (zI v1))], [.int (zI 0), .int (zI (c / 36)), .ref 94], es3)) i_58_41 (by rfl) ?_
  refine x_call (vs := [.ref 94, .int (zI (c / 36)), .int (zI 0)]) (rs := []) i_58_42 rfl (fun _ => rfl) rfl rfl rfl rfl rfl rfl ?_
  show aW _ _ _ _ _ _ (0, [some (.ref 94), some (.int (zI (c / 36))), some (.int (zI 0))], [], es3)
  refine set_sp (p := 30) rfl hs_es3 hT_es3 (fun _ => ⟨Int.le_refl _, Int.le_refl _⟩) (by omega) (by omega) (by decide) (fun es4 p_es4 => ?_)
  have hs_es4 : sh es4 := p_es4.1
  have hT_es4 : hOK tT es4 := p_es4.2.1
  show aW _ _ _ _ _ _ (45, [some (.ref 93), some (.int (zI c)), some (.int (zI (c / 36))), some (.int (zI (c % 36))), some (.int (zI v1))], [], es4)
  refine x0 (r := (47, [some (.ref 93), some (.int (zI c)), some (.int (zI (c / 36))), some (.int (zI (c % 36))), some (.int (zI v1))], [.int (zI v1)], es4)) i_58_45 rfl ?_
  refine x_ret (v := some (.int (zI v1))) i_58_47 rfl (fun _ => rfl) rfl rfl rfl ?_
  exact K1 v1 p_v1 v2 p_v2 es3 p_es3 es4 p_es4
theorem s_wsu {O : pOut} {d kc ks : Nat} {Q : pRes → Prop} {es : PH} (hs_es : sh es) (hT_es : hOK tT es)
    (K1 : ∀ es1 : PH, es1 = sR es 30 (va_cpy (gA es 11) (gA es 30) 0 0 36) → Q (.inl (none), es1, kc, ks)) :
    aW O (d + 2) 24 kc ks Q (0, [some (.ref 93)], [], es) := by
  refine x0 (r := (1, [some (.ref 93)], [.ref 93], es)) i_24_0 rfl ?_
  refine x_getr (p := 29) (k := 71) i_24_1 hs_es rfl rfl ?_
  show aW _ _ _ _ _ _ (4, [some (.ref 93)], [.ref 71], es)
  refine x_getr (p := 7) (k := 75) i_24_4 hs_es rfl rfl ?_
  show aW _ _ _ _ _ _ (7, [some (.ref 93)], [.ref 75], es)
  refine x0 (r := (8, [some (.ref 93)], [.ref 93, .ref 75], es)) i_24_7 rfl ?_
  refine x_getr (p := 29) (k := 94) i_24_8 hs_es rfl rfl ?_
  show aW _ _ _ _ _ _ (11, [some (.ref 93)], [.ref 94, .ref 75], es)
  refine x_call (vs := [.ref 75, .ref 94]) (rs := []) i_24_11 rfl (fun _ => rfl) rfl rfl rfl rfl rfl rfl ?_
  show aW _ _ _ _ _ _ (0, [some (.ref 75), some (.ref 94)], [], es)
  refine x0 (r := (1, [some (.ref 75), some (.ref 94)], [.ref 75], es)) i_20_0 rfl ?_
  refine x0 (r := (2, [some (.ref 75), some (.ref 94)], [.int (zI 0), .ref 75], es)) i_20_1 (by rfl) ?_
  refine x0 (r := (3, [some (.ref 75), some (.ref 94)], [.ref 94, .int (zI 0), .ref 75], es)) i_20_2 rfl ?_
  refine x0 (r := (4, [some (.ref 75), some (.ref 94)], [.int (zI 0), .ref 94, .int (zI 0), .ref 75], es)) i_20_3 (by rfl) ?_
  refine x0 (r := (5, [some (.ref 75), some (.ref 94)], [.ref 75, .int (zI 0), .ref 94, .int (zI 0), .ref 75], es)) i_20_4 rfl ?_
  refine x_alen (p := 11) (n := 36) i_20_5 hs_es rfl ?_
  refine x0 (r := (7, [some (.ref 75), some (.ref 94)], [.ref 94, .int (zI 36), .int (zI 0), .ref 94, .int (zI 0), .ref 75], es)) i_20_6 rfl ?_
  refine x_alen (p := 30) (n := 36) i_20_7 hs_es rfl ?_
  refine x_min i_20_8 (by unfold i32 iLO iHI; omega) (by unfold i32 iLO iHI; omega) (Nat.le_of_ble_eq_true rfl) ?_
  show aW _ _ _ _ _ _ (11, [some (.ref 75), some (.ref 94)], [.int (zI 36), .int (zI 0), .ref 94, .int (zI 0), .ref 75], es)
  refine x_acp (p := 11) (p2 := 30) (n := 36) i_20_11 hs_es rfl rfl (by decide) (Nat.le_of_ble_eq_true rfl) ?_
  obtain ⟨es1, e_es1⟩ : ∃ z : PH, z = sR es 30 (va_cpy (gA es 11) (gA es 30) 0 0 36) := ⟨_, rfl⟩
  have hs_es1 : sh es1 := by rw [e_es1]; exact sh_sR hs_es
  rw [← e_es1]
  refine x_ret (v := none) i_20_14 rfl (fun _ => rfl) rfl rfl rfl ?_
  show aW _ _ _ _ _ _ (14, [some (.ref 93)], [], es1)
  refine x_ret (v := none) i_24_14 rfl (fun _ => rfl) rfl rfl rfl ?_
  exact K1 es1 e_es1
/-! the NOTES that WRITE makes, of the class -/
/-- cells of a NOTE of the class -/
def ntC (w : Nat → Int32) (b j : Nat) (x : Int × Int × Int) : Prop := (w (96 * b + 4 * j)).toInt = x.1 ∧ (w (96 * b + 4 * j + 1)).toInt = -1 ∧ (w (96 * b + 4 * j + 2)).toInt = x.2.1 ∧ (w (96 * b + 4 * j + 3)).toInt = x.2.2
def wpC (e0 : PH) (lp b : Nat) (B : Nat → Int) (l : List (Int × Int × Int)) (m : Nat) (s : Int32) (es : PH) : Prop := hOK tT es ∧ es[lp]? = some (.inr (10, [.ref 71, .ref 93, .int s])) ∧ bdC B 30 es ∧ (gA es 13 b).toInt = (m : Int) ∧ (∀ i, i ≠ b → gA es 13 i = gA e0 13 i) ∧ (∀ (j : Nat) (x : Int × Int × Int), l[j]? = some x → ntC (gA es 14) b j x) ∧ (∀ i, ¬ (96 * b ≤ i ∧ i < 96 * b + 96) → gA es 14 i = gA e0 14 i) ∧ ∀ p, p < 108 → p ≠ 13 → p ≠ 14 → p ≠ 30 → es[p]? = e0[p]?
theorem gA_eq {a c : PH} {p : Nat} (h : c[p]? = a[p]?) : gA c p = gA a p := by unfold gA; rw [h]
theorem gI_eq {a c : PH} {p b : Nat} (h : c[p]? = a[p]?) : gI c p b = gI a p b := by unfold gI gFd; rw [h]
theorem stP_ne {p q : Nat} {x v : Int} {a c : PH} (h : stP p x v a c) (hq : q ≠ p) : c[q]? = a[q]? := by rw [h.2.2, sA_at, if_neg hq]
theorem stP_g {p t n : Nat} {sp : Nat → Int × Int} {x v : Int} {a c : PH} (hp : tT[p]? = some (.inl (t, n, sp))) (ht : t ≠ 1) (hs : sh a) (h : stP p x v a c) : ∀ i, gA c p i = if i = x.toNat then zI v else gA a p i := fun i => by
  rw [h.2.2, gA_sA hs hp ht]
  rfl
section
variable {e0 es : PH} {lp b m : Nat} {B : Nat → Int} {l : List (Int × Int × Int)} {s : Int32}
theorem wpC_set (h0 : 108 ≤ lp) (h : wpC e0 lp b B l m s es) (s' : Int32) : wpC e0 lp b B l m s' (es.set lp (.inr (10, [.ref 71, .ref 93, .int s']))) := by
  obtain ⟨a1, a2, a3, a4, a5, a6, a7, a8⟩ := h
  have hl := (List.getElem?_eq_some_iff.mp a2).1
  have hn : ∀ p, p < 108 → (es.set lp (.inr (10, [.ref 71, .ref 93, .int s'])))[p]? = es[p]? := fun p hp => by rw [List.getElem?_set_ne (by omega)]
  have g : ∀ p, p < 108 → gA (es.set lp (.inr (10, [.ref 71, .ref 93, .int s']))) p = gA es p := fun p hp => gA_eq (hn p hp)
  refine ⟨hOK_set a1 (fun t ht => ?_), List.getElem?_set_self hl, fun q hq => ?_, ?_, fun i hi => ?_, fun j x hx => ?_, fun i hi => ?_, fun p h1 h2 h3 h4 => ?_⟩
  · have := (List.getElem?_eq_some_iff.mp ht).1
    rw [tT_len] at this
    omega
  · rw [g 30 (by omega)]; exact a3 q hq
  · rw [g 13 (by omega)]; exact a4
  · rw [g 13 (by omega)]; exact a5 i hi
  · rw [g 14 (by omega)]; exact a6 j x hx
  · rw [g 14 (by omega)]; exact a7 i hi
  · rw [hn p h1]; exact a8 p h1 h2 h3 h4
theorem wpC_drop {x : Int × Int × Int} (h : wpC e0 lp b B (l ++ [x]) m s es) : wpC e0 lp b B l m s es := by
  obtain ⟨a1, a2, a3, a4, a5, a6, a7, a8⟩ := h
  refine ⟨a1, a2, a3, a4, a5, fun j y hy => a6 j y ?_, a7, a8⟩
  rw [List.getElem?_append_left (List.getElem?_eq_some_iff.mp hy).1]
  exact hy
/-- the four cells of a NOTE are set -/
theorem wpC_note {x : Int × Int × Int} {c : PH} (hb : b ≤ 2) (hl : l.length ≤ 23) (hx : i32 x.1 ∧ i32 x.2.1 ∧ i32 x.2.2) (h : wpC e0 lp b B l m s es) (h0 : 108 ≤ lp) (hT : hOK tT c) (hn : ∀ q, q ≠ 14 → c[q]? = es[q]?) (hc : ∀ i, gA c 14 i = if i = 96 * b + 4 * l.length + 3 then zI x.2.2 else if i = 96 * b + 4 * l.length + 2 then zI x.2.1 else if i = 96 * b + 4 * l.length + 1 then zI (-1) else if i = 96 * b + 4 * l.length then zI x.1 else gA es 14 i) : wpC e0 lp b B (l ++ [x]) m s c := by
  obtain ⟨a1, a2, a3, a4, a5, a6, a7, a8⟩ := h
  have g : ∀ p, p ≠ 14 → gA c p = gA es p := fun p hp => gA_eq (hn p hp)
  refine ⟨hT, by rw [hn lp (by omega)]; exact a2, fun q hq => by rw [g 30 (by decide)]; exact a3 q hq, by rw [g 13 (by decide)]; exact a4, fun i hi => by rw [g 13 (by decide)]; exact a5 i hi, fun j y hy => ?_, fun i hi => ?_, fun p h1 h2 h3 h4 => by rw [hn p h3]; exact a8 p h1 h2 h3 h4⟩
  · by_cases hj : j < l.length
    · rw [List.getElem?_append_left hj] at hy
      obtain ⟨g1, g2, g3, g4⟩ := a6 j y hy
      refine ⟨?_, ?_, ?_, ?_⟩
      · rw [hc, if_neg (by omega), if_neg (by omega), if_neg (by omega), if_neg (by omega)]; exact g1
      · rw [hc, if_neg (by omega), if_neg (by omega), if_neg (by omega), if_neg (by omega)]; exact g2
      · rw [hc, if_neg (by omega), if_neg (by omega), if_neg (by omega), if_neg (by omega)]; exact g3
      · rw [hc, if_neg (by omega), if_neg (by omega), if_neg (by omega), if_neg (by omega)]; exact g4
    · rw [List.getElem?_append_right (by omega)] at hy
      have hj0 : j - l.length = 0 := by
        cases hz : j - l.length with
        | zero => rfl
        | succ z => rw [hz] at hy; cases hy
      rw [hj0] at hy
      have hxy : x = y := Option.some.inj hy
      rw [show j = l.length by omega, ← hxy]
      refine ⟨?_, ?_, ?_, ?_⟩
      · rw [hc, if_neg (by omega), if_neg (by omega), if_neg (by omega), if_pos rfl]; exact zI_toInt hx.1
      · rw [hc, if_neg (by omega), if_neg (by omega), if_pos rfl]; rfl
      · rw [hc, if_neg (by omega), if_pos rfl]; exact zI_toInt hx.2.1
      · rw [hc, if_pos rfl]; exact zI_toInt hx.2.2
  · rw [hc, if_neg (by omega), if_neg (by omega), if_neg (by omega), if_neg (by omega)]
    exact a7 i hi
end
theorem zNt_r {B : Nat → Int} {wy sd : Int} {c : Nat} (hr : rwB B) (h0 : 0 ≤ B (c / 36)) : (0 ≤ (zNt B wy sd c).1 ∧ (zNt B wy sd c).1 ≤ 4) ∧ (0 ≤ (zNt B wy sd c).2.1 ∧ (zNt B wy sd c).2.1 ≤ 5) ∧ (0 ≤ (zNt B wy sd c).2.2 ∧ (zNt B wy sd c).2.2 ≤ 5) := by
  have h1 := hr (c / 36)
  refine ⟨?_, ?_, ?_⟩
  · show 0 ≤ B (c / 36) / 2 ∧ B (c / 36) / 2 ≤ 4
    omega
  · show 0 ≤ ((c % 36 % 6 : Nat) : Int) ∧ ((c % 36 % 6 : Nat) : Int) ≤ 5
    omega
  · show 0 ≤ (if wy = 1 ∧ sd = 1 then 5 - ((c % 36 / 6 : Nat) : Int) else ((c % 36 / 6 : Nat) : Int)) ∧ (if wy = 1 ∧ sd = 1 then 5 - ((c % 36 / 6 : Nat) : Int) else ((c % 36 / 6 : Nat) : Int)) ≤ 5
    split <;> omega
theorem z1m_r {x : Int} (h : 0 ≤ x ∧ x ≤ 5) : 0 ≤ z1m x ∧ z1m x ≤ 5 := by
  unfold z1m
  split <;> omega
theorem shr1B {x : Int} (h0 : 0 ≤ x) (h1 : x ≤ 9) : (zI x >>> (zI 1 &&& 31)).toInt = x / 2 := shr1 h0 (by omega)
section
variable {O : pOut} {d kc ks : Nat} {Q : pRes → Prop} {e0 es : PH} {lp b m : Nat} {B : Nat → Int} {l : List (Int × Int × Int)} {s : Int32}
theorem drawC (ho : es[lp]? = some (.inr (10, [.ref 71, .ref 93, .int s]))) (K : Q (.inl (some (.int (zI (zDv s)))), es.set lp (.inr (10, [.ref 71, .ref 93, .int (zDs s)])), kc, ks)) : aW O d 126 kc ks Q (0, [some (.ref (64 + lp))], [], es) := by
  obtain ⟨sd, hsd⟩ : ∃ sd : Int, s = zI sd := ⟨s.toInt, (zI_id s).symm⟩
  subst hsd
  have hl : lp < es.length := (List.getElem?_eq_some_iff.mp ho).1
  have hd : zI (1103515245 * sd + 12345) = zDs (zI sd) := zDs_i
  obtain ⟨w, hw⟩ : ∃ w : Int32, w = ((zI (1103515245 * sd + 12345)).toUInt32 >>> ((zI 16).toUInt32 &&& Int32.toUInt32 31)).toInt32 := ⟨_, rfl⟩
  have e : (zI w.toInt &&& zI 32767).toInt = zDv (zI sd) := by
    rw [zI_id, hw, shr_same, hd]
    rfl
  rw [← hd, ← e] at K
  refine x0 (r := (1, [some (.ref (64 + lp))], [.ref (64 + lp)], es)) i_126_0 rfl ?_
  refine x1 (r := (3, [some (.ref (64 + lp))], [.int (zI 1103515245), .ref (64 + lp)], es)) i_126_1 rfl (fun _ => rfl) rfl ?_
  refine x0 (r := (4, [some (.ref (64 + lp))], [.ref (64 + lp), .int (zI 1103515245), .ref (64 + lp)], es)) i_126_3 rfl ?_
  refine x_getp i_126_4 ho rfl ?_
  refine x_imul i_126_7 ?_
  refine x0 (r := (11, [some (.ref (64 + lp))], [.int (zI 12345), .int (zI (1103515245 * sd)), .ref (64 + lp)], es)) i_126_8 rfl ?_
  refine x_iadd i_126_11 ?_
  refine x_putp (j := 126) rfl rfl rfl ho rfl rfl (by show (_ : Nat) < 3; decide) ?_
  refine x0 (r := (16, [some (.ref (64 + lp))], [.ref (64 + lp)], _)) i_126_15 rfl ?_
  refine x_getp i_126_16 (List.getElem?_set_self hl) rfl ?_
  refine x0 (r := (21, [some (.ref (64 + lp))], [.int (zI 16), .int (zI (1103515245 * sd + 12345))], _)) i_126_19 rfl ?_
  refine x_op i_126_21 (w := w) (by rw [hw]; rfl) rfl ?_
  refine x0 (r := (25, [some (.ref (64 + lp))], [.int (zI 32767), .int (zI w.toInt)], _)) i_126_22 rfl ?_
  refine x_op i_126_25 (w := zI w.toInt &&& zI 32767) rfl rfl ?_
  refine x_ret i_126_26 rfl (fun _ => rfl) rfl rfl rfl ?_
  exact K
theorem sn_call {x : Int × Int × Int} (h0 : 108 ≤ lp) (hb : b ≤ 2) (hl : l.length ≤ 23) (hx : i32 x.1 ∧ i32 x.2.1 ∧ i32 x.2.2) (h : wpC e0 lp b B l m s es) (K : ∀ es', wpC e0 lp b B (l ++ [x]) m s es' → Q (.inl none, es', kc, ks)) : aW O (d + 1) 119 kc ks Q (0, [some (.ref 71), some (.int (zI (b : Int))), some (.int (zI (l.length : Int))), some (.int (zI x.1)), some (.int (zI (-1))), some (.int (zI x.2.1)), some (.int (zI x.2.2)), none], [], es) := by
  refine s_wsn (sh_of h.1) ⟨by omega, by omega⟩ ⟨by omega, by omega⟩ h.1 (fun es1 p1 es2 p2 es3 p3 es4 p4 => ?_)
  refine K es4 (wpC_note hb hl hx h h0 p4.2.1 (fun q hq => by rw [stP_ne p4 hq, stP_ne p3 hq, stP_ne p2 hq, stP_ne p1 hq]) (fun i => ?_))
  rw [stP_g (p := 14) (t := 0) (n := 288) rfl (by decide) p3.1 p4, stP_g (p := 14) (t := 0) (n := 288) rfl (by decide) p2.1 p3, stP_g (p := 14) (t := 0) (n := 288) rfl (by decide) p1.1 p2, stP_g (p := 14) (t := 0) (n := 288) rfl (by decide) (sh_of h.1) p1]
  rw [show (((((b : Int) * 24) + (l.length : Int)) * 4) + 3).toNat = 96 * b + 4 * l.length + 3 by omega, show (((((b : Int) * 24) + (l.length : Int)) * 4) + 2).toNat = 96 * b + 4 * l.length + 2 by omega, show (((((b : Int) * 24) + (l.length : Int)) * 4) + 1).toNat = 96 * b + 4 * l.length + 1 by omega, show ((((b : Int) * 24) + (l.length : Int)) * 4).toNat = 96 * b + 4 * l.length by omega]
theorem nc_call {x : Int × Int × Int} {q : Nat} {v : Int} (hb : b ≤ 2) (hl : l.length ≤ 23) (hq : q ≤ 3) (h : wpC e0 lp b B (l ++ [x]) m s es) (hv : (gA es 14 (96 * b + 4 * l.length + q)).toInt = v) (K : Q (.inl (some (.int (zI v))), es, kc, ks)) : aW O (d + 1) 43 kc ks Q (0, [some (.ref 71), some (.int (zI (b : Int))), some (.int (zI (l.length : Int))), some (.int (zI (q : Int)))], [], es) := by
  refine s_wnc (sh_of h.1) ⟨by omega, by omega⟩ ⟨by omega, by omega⟩ ⟨by omega, by omega⟩ h.1 (fun v1 p1 => ?_)
  have e : v1 = v := by
    unfold atP at p1
    rw [p1, show (((((b : Int) * 24) + (l.length : Int)) * 4) + (q : Int)).toNat = 96 * b + 4 * l.length + q by omega]
    exact hv
  rw [e]
  exact K
/-- a NOTE is written -/
theorem wnC {wy sd : Int} {c : Nat} (h0 : 108 ≤ lp) (hb : b ≤ 2) (hl : l.length ≤ 23) (hc : c < 1296) (hsd : 0 ≤ sd ∧ sd ≤ 1) (hway : (gA e0 12 b).toInt = wy) (hr : rwB B) (hm : 0 ≤ B (c / 36)) (h : wpC e0 lp b B l l.length s es) (K : ∀ es', wpC e0 lp b B (l ++ [zNt B wy sd c]) (l.length + 1) s es' → Q (.inl none, es', kc, ks)) : aW O (d + 3) 127 kc ks Q (0, [some (.ref (64 + lp)), some (.int (zI (b : Int))), some (.int (zI (c : Int))), some (.int (zI sd)), none, none, none], [], es) := by
  have ho : es[lp]? = some (.inr (10, [.ref 71, .ref 93, .int (zI s.toInt)])) := by rw [zI_id]; exact h.2.1
  have hT := h.1
  have e12 : gA es 12 = gA e0 12 := gA_eq (h.2.2.2.2.2.2.2 12 (by decide) (by decide) (by decide) (by decide))
  obtain ⟨m1, m2, m3⟩ := h.2.2.1 (c / 36) (by omega)
  have hrx := zNt_r (wy := wy) (sd := sd) hr hm
  have ekd : ((c : Int) % 36) % 6 = (zNt B wy sd c).2.1 := by
    show ((c : Int) % 36) % 6 = ((c % 36 % 6 : Nat) : Int)
    omega
  have go : ∀ rk kd : Int, kd = (zNt B wy sd c).1 → rk = (zNt B wy sd c).2.2 → aW O (d + 3) 127 kc ks Q (57, [some (.ref (64 + lp)), some (.int (zI (b : Int))), some (.int (zI (c : Int))), some (.int (zI sd)), some (.int (zI ((c : Int) % 36))), some (.int (zI rk)), some (.int (zI kd))], [.int (zI (b : Int)), .ref 71, .int (zI (b : Int)), .ref 71], es) := fun rk kd h1 h2 => by
    refine x_call (vs := [.ref 71, .int (zI (b : Int))]) (rs := [.int (zI (b : Int)), .ref 71]) i_127_57 rfl (fun _ => rfl) rfl rfl rfl rfl rfl (pCall_v (p := 7) (sh_of hT) rfl rfl rfl rfl rfl (by decide) rfl rfl rfl rfl rfl) ?_
    show aW _ _ _ _ _ _ (0, [some (.ref 71), some (.int (zI (b : Int))), none], [], es)
    have hcnt := h.2.2.2.1
    have eb : ((b : Int)).toNat = b := Int.toNat_natCast b
    refine s_wan (d := d) (sh_of hT) ⟨by omega, by omega⟩ (by rw [eb, hcnt]; exact ⟨by omega, by omega⟩) hT (fun v1 p1 es2 p2 => ?_)
    have hv1 : v1 = (l.length : Int) := by
      unfold atP at p1
      rw [p1, eb]
      exact hcnt
    have g13 := stP_g (p := 13) (t := 0) (n := 3) rfl (by decide) (sh_of hT) p2
    rw [eb] at g13
    have h2' : wpC e0 lp b B l (l.length + 1) s es2 := by
      obtain ⟨a1, a2, a3, a4, a5, a6, a7, a8⟩ := h
      have g : ∀ p, p ≠ 13 → gA es2 p = gA es p := fun p hp => gA_eq (stP_ne p2 hp)
      refine ⟨p2.2.1, by rw [stP_ne p2 (by omega)]; exact a2, fun q hq => by rw [g 30 (by decide)]; exact a3 q hq, ?_, fun i hi => by rw [g13, if_neg hi]; exact a5 i hi, fun j y hy => by rw [g 14 (by decide)]; exact a6 j y hy, fun i hi => by rw [g 14 (by decide)]; exact a7 i hi, fun p q1 q2 q3 q4 => by rw [stP_ne p2 q2]; exact a8 p q1 q2 q3 q4⟩
      rw [g13, if_pos rfl, zI_toInt (by unfold i32 iLO iHI; omega), hv1]
      omega
    show aW _ _ _ _ _ _ (60, [some (.ref (64 + lp)), some (.int (zI (b : Int))), some (.int (zI (c : Int))), some (.int (zI sd)), some (.int (zI ((c : Int) % 36))), some (.int (zI rk)), some (.int (zI kd))], [.int (zI v1), .int (zI (b : Int)), .ref 71], es2)
    refine s_wn60 (sh_of h2'.1) ⟨by omega, by omega⟩ ?_
    rw [hv1, ekd, h1, h2]
    refine x_call (vs := [.ref 71, .int (zI (b : Int)), .int (zI (l.length : Int)), .int (zI (zNt B wy sd c).1), .int (zI (-1)), .int (zI (zNt B wy sd c).2.1), .int (zI (zNt B wy sd c).2.2)]) (rs := []) i_127_70 rfl (fun _ => rfl) rfl rfl rfl rfl rfl (pCall_v (p := 7) (sh_of h2'.1) rfl rfl rfl rfl rfl (by decide) rfl rfl rfl rfl rfl) ?_
    show aW _ _ _ _ _ _ (0, [some (.ref 71), some (.int (zI (b : Int))), some (.int (zI (l.length : Int))), some (.int (zI (zNt B wy sd c).1)), some (.int (zI (-1))), some (.int (zI (zNt B wy sd c).2.1)), some (.int (zI (zNt B wy sd c).2.2)), none], [], es2)
    refine sn_call (d := d + 1) h0 hb hl ⟨by unfold i32 iLO iHI; omega, by unfold i32 iLO iHI; omega, by unfold i32 iLO iHI; omega⟩ h2' (fun es3 h3 => ?_)
    show aW _ _ _ _ _ _ (73, [some (.ref (64 + lp)), some (.int (zI (b : Int))), some (.int (zI (c : Int))), some (.int (zI sd)), some (.int (zI ((c : Int) % 36))), some (.int (zI (zNt B wy sd c).2.2)), some (.int (zI (zNt B wy sd c).1))], [], es3)
    exact s_wn73 (sh_of h3.1) (K es3 h3)
  have eb : ((b : Int)).toNat = b := Int.toNat_natCast b
  have ec : ((c : Int) / 36).toNat = c / 36 := by omega
  have kd : ∀ v3 v4 : Int, v3 = (gA es 30 ((c : Int) / 36).toNat).toInt → v4 = (zI (v3 - 1) >>> (zI 1 &&& 31)).toInt → v4 = (zNt B wy sd c).1 := fun v3 v4 e3 e4 => by
    rw [ec, m1] at e3
    rw [e4, e3, show B (c / 36) + 1 - 1 = B (c / 36) by omega, shr1B hm m3]
    rfl
  have wv : ∀ v1 : Int, v1 = (gA es 12 ((b : Int)).toNat).toInt → v1 = wy := fun v1 e1 => by rw [e1, eb, e12]; exact hway
  refine s_wn0 (d := d + 2) (sh_of hT) ho hT ⟨by omega, by omega⟩ ⟨by omega, by omega⟩ ⟨by omega, by omega⟩ (fun v1 e1 c1 v3 e3 v4 e4 => go _ _ (kd v3 v4 e3 e4) ?_) (fun v1 e1 c1 c2 v3 e3 v4 e4 => go _ _ (kd v3 v4 e3 e4) ?_) (fun v1 e1 c1 c2 v3 e3 v4 e4 => go _ _ (kd v3 v4 e3 e4) ?_)
  · show ((c : Int) % 36) / 6 = if wy = 1 ∧ sd = 1 then 5 - ((c % 36 / 6 : Nat) : Int) else ((c % 36 / 6 : Nat) : Int)
    have := wv v1 e1
    rw [if_neg (by omega)]
    omega
  · show ((c : Int) % 36) / 6 = if wy = 1 ∧ sd = 1 then 5 - ((c % 36 / 6 : Nat) : Int) else ((c % 36 / 6 : Nat) : Int)
    rw [if_neg (by omega)]
    omega
  · show 5 - ((c : Int) % 36) / 6 = if wy = 1 ∧ sd = 1 then 5 - ((c % 36 / 6 : Nat) : Int) else ((c % 36 / 6 : Nat) : Int)
    have := wv v1 e1
    rw [if_pos (by omega)]
    omega
/-- a SLIP is put into the last NOTE -/
theorem asC {x : Int × Int × Int} {w κ : Int} (h0 : 108 ≤ lp) (hb : b ≤ 2) (hl : l.length ≤ 23) (hκ : (gI e0 7 0).toInt = κ) (hκ5 : κ ≤ 5) (hx : (0 ≤ x.1 ∧ x.1 < κ) ∧ (0 ≤ x.2.1 ∧ x.2.1 ≤ 5) ∧ (0 ≤ x.2.2 ∧ x.2.2 ≤ 5)) (hw : 0 ≤ w ∧ w ≤ 2) (h : wpC e0 lp b B (l ++ [x]) m s es) (K : ∀ es', wpC e0 lp b B (l ++ [zSlw κ w x]) m s es' → Q (.inl none, es', kc, ks)) : aW O (d + 3) 128 kc ks Q (0, [some (.ref (64 + lp)), some (.int (zI (b : Int))), some (.int (zI (l.length : Int))), some (.int (zI w)), none, none, none], [], es) := by
  have ho : es[lp]? = some (.inr (10, [.ref 71, .ref 93, .int (zI s.toInt)])) := by rw [zI_id]; exact h.2.1
  have hT := h.1
  have e7 : gI es 7 0 = gI e0 7 0 := gI_eq (h.2.2.2.2.2.2.2 7 (by decide) (by decide) (by decide) (by decide))
  have hnt := h.2.2.2.2.2.1 l.length x (by rw [List.getElem?_append_right (Nat.le_refl _), Nat.sub_self]; rfl)
  obtain ⟨n1, n2, n3, n4⟩ := hnt
  obtain ⟨⟨x1, x2⟩, ⟨x3, x4⟩, x5, x6⟩ := hx
  refine s_as0 (sh_of hT) ho ?_
  refine x_call (vs := [.ref 71, .int (zI (b : Int)), .int (zI (l.length : Int)), .int (zI 0)]) (rs := []) i_128_7 rfl (fun _ => rfl) rfl rfl rfl rfl rfl (pCall_v (p := 7) (sh_of hT) rfl rfl rfl rfl rfl (by decide) rfl rfl rfl rfl rfl) ?_
  show aW _ _ _ _ _ _ (0, [some (.ref 71), some (.int (zI (b : Int))), some (.int (zI (l.length : Int))), some (.int (zI ((0 : Nat) : Int)))], [], es)
  refine nc_call (d := d + 1) hb hl (by omega) h n1 ?_
  show aW _ _ _ _ _ _ (10, [some (.ref (64 + lp)), some (.int (zI (b : Int))), some (.int (zI (l.length : Int))), some (.int (zI w)), none, none, none], [.int (zI x.1)], es)
  refine s_as10 (sh_of hT) ho ?_
  refine x_call (vs := [.ref 71, .int (zI (b : Int)), .int (zI (l.length : Int)), .int (zI 2)]) (rs := []) i_128_19 rfl (fun _ => rfl) rfl rfl rfl rfl rfl (pCall_v (p := 7) (sh_of hT) rfl rfl rfl rfl rfl (by decide) rfl rfl rfl rfl rfl) ?_
  show aW _ _ _ _ _ _ (0, [some (.ref 71), some (.int (zI (b : Int))), some (.int (zI (l.length : Int))), some (.int (zI ((2 : Nat) : Int)))], [], es)
  refine nc_call (d := d + 1) hb hl (by omega) h n3 ?_
  show aW _ _ _ _ _ _ (22, [some (.ref (64 + lp)), some (.int (zI (b : Int))), some (.int (zI (l.length : Int))), some (.int (zI w)), some (.int (zI x.1)), none, none], [.int (zI x.2.1)], es)
  refine s_as22 (sh_of hT) ho ?_
  refine x_call (vs := [.ref 71, .int (zI (b : Int)), .int (zI (l.length : Int)), .int (zI 3)]) (rs := []) i_128_31 rfl (fun _ => rfl) rfl rfl rfl rfl rfl (pCall_v (p := 7) (sh_of hT) rfl rfl rfl rfl rfl (by decide) rfl rfl rfl rfl rfl) ?_
  show aW _ _ _ _ _ _ (0, [some (.ref 71), some (.int (zI (b : Int))), some (.int (zI (l.length : Int))), some (.int (zI ((3 : Nat) : Int)))], [], es)
  refine nc_call (d := d + 1) hb hl (by omega) h n4 ?_
  show aW _ _ _ _ _ _ (34, [some (.ref (64 + lp)), some (.int (zI (b : Int))), some (.int (zI (l.length : Int))), some (.int (zI w)), some (.int (zI x.1)), some (.int (zI x.2.1)), none], [.int (zI x.2.2)], es)
  have go : ∀ y : Int × Int × Int, y = zSlw κ w x → (0 ≤ y.1 ∧ y.1 ≤ 5) → (0 ≤ y.2.1 ∧ y.2.1 ≤ 5) → (0 ≤ y.2.2 ∧ y.2.2 ≤ 5) → aW O (d + 3) 128 kc ks Q (102, [some (.ref (64 + lp)), some (.int (zI (b : Int))), some (.int (zI (l.length : Int))), some (.int (zI w)), some (.int (zI y.1)), some (.int (zI y.2.1)), some (.int (zI y.2.2))], [.int (zI y.2.2), .int (zI y.2.1), .int (zI (-1)), .int (zI y.1), .int (zI (l.length : Int)), .int (zI (b : Int)), .ref 71], es) := fun y hy y1 y2 y3 => by
    refine x_call (vs := [.ref 71, .int (zI (b : Int)), .int (zI (l.length : Int)), .int (zI y.1), .int (zI (-1)), .int (zI y.2.1), .int (zI y.2.2)]) (rs := []) i_128_102 rfl (fun _ => rfl) rfl rfl rfl rfl rfl (pCall_v (p := 7) (sh_of hT) rfl rfl rfl rfl rfl (by decide) rfl rfl rfl rfl rfl) ?_
    show aW _ _ _ _ _ _ (0, [some (.ref 71), some (.int (zI (b : Int))), some (.int (zI (l.length : Int))), some (.int (zI y.1)), some (.int (zI (-1))), some (.int (zI y.2.1)), some (.int (zI y.2.2)), none], [], es)
    refine sn_call (d := d + 1) h0 hb hl ⟨by unfold i32 iLO iHI; omega, by unfold i32 iLO iHI; omega, by unfold i32 iLO iHI; omega⟩ (wpC_drop h) (fun es4 h4 => ?_)
    show aW _ _ _ _ _ _ (105, [some (.ref (64 + lp)), some (.int (zI (b : Int))), some (.int (zI (l.length : Int))), some (.int (zI w)), some (.int (zI y.1)), some (.int (zI y.2.1)), some (.int (zI y.2.2))], [], es4)
    rw [hy] at h4
    exact s_as105 (sh_of h4.1) (K es4 h4)
  have z1 : ∀ a : Int, a ≠ 5 → z1m a = a + 1 := fun a ha => by unfold z1m; rw [if_neg ha]
  have z2 : ∀ a : Int, a = 5 → z1m a = a - 1 := fun a ha => by unfold z1m; rw [if_pos ha]
  refine s_as34 (d := d + 2) (sh_of hT) ho hT ⟨by omega, by omega⟩ ⟨by omega, by omega⟩ ⟨by omega, by omega⟩ ⟨by omega, by omega⟩ (fun c1 c2 c3 => go (x.1, x.2.1, x.2.2 + 1) ?_ ⟨x1, by show x.1 ≤ 5; omega⟩ ⟨x3, x4⟩ ⟨by show 0 ≤ x.2.2 + 1; omega, by show x.2.2 + 1 ≤ 5; omega⟩) (fun c1 c2 c3 => go (x.1, x.2.1, x.2.2 - 1) ?_ ⟨x1, by show x.1 ≤ 5; omega⟩ ⟨x3, x4⟩ ⟨by show 0 ≤ x.2.2 - 1; omega, by show x.2.2 - 1 ≤ 5; omega⟩) (fun c1 c2 c3 => go (x.1, x.2.1 + 1, x.2.2) ?_ ⟨x1, by show x.1 ≤ 5; omega⟩ ⟨by show 0 ≤ x.2.1 + 1; omega, by show x.2.1 + 1 ≤ 5; omega⟩ ⟨x5, x6⟩) (fun c1 c2 c3 => go (x.1, x.2.1 - 1, x.2.2) ?_ ⟨x1, by show x.1 ≤ 5; omega⟩ ⟨by show 0 ≤ x.2.1 - 1; omega, by show x.2.1 - 1 ≤ 5; omega⟩ ⟨x5, x6⟩) (fun c1 v5 e5 v6 e6 c2 => go (x.1 + 1, x.2.1, x.2.2) ?_ ⟨by show 0 ≤ x.1 + 1; omega, by show x.1 + 1 ≤ 5; omega⟩ ⟨x3, x4⟩ ⟨x5, x6⟩) (fun c1 v5 e5 v6 e6 c2 => go (0, x.2.1, x.2.2) ?_ ⟨by show (0 : Int) ≤ 0; omega, by show (0 : Int) ≤ 5; omega⟩ ⟨x3, x4⟩ ⟨x5, x6⟩)
  · unfold zSlw
    rw [if_neg c1, if_neg c2, z1 _ c3]
  · unfold zSlw
    rw [if_neg c1, if_neg c2, z2 _ (by omega)]
  · unfold zSlw
    rw [if_neg c1, if_pos (by omega), z1 _ c3]
  · unfold zSlw
    rw [if_neg c1, if_pos (by omega), z2 _ (by omega)]
  · unfold zSlw
    rw [if_pos (by omega)]
    rw [zI_toInt (by unfold i32 iLO iHI; omega)] at e5
    rw [e7, hκ] at e6
    rw [Int.emod_eq_of_lt (by omega) (by omega)]
  · unfold zSlw
    rw [if_pos (by omega)]
    rw [zI_toInt (by unfold i32 iLO iHI; omega)] at e5
    rw [e7, hκ] at e6
    rw [show x.1 + 1 = κ by omega, Int.emod_self]
/-- a MOVE is made -/
theorem goC {c : Nat} (h0 : 108 ≤ lp) (hc : c < 1296) (hr : rwB B) (h : wpC e0 lp b B l m s es) (K : ∀ (es' : PH) (v : Int), wpC e0 lp b (zBd B c) l m s es' → Q (.inl (some (.int (zI v))), es', kc, ks)) : aW O (d + 1) 58 kc ks Q (0, [some (.ref 93), some (.int (zI (c : Int))), none, none, none], [], es) := by
  have ef : ((c : Int) / 36).toNat = c / 36 := by omega
  have et : ((c : Int) % 36).toNat = c % 36 := by omega
  refine s_wgo (sh_of h.1) ⟨by omega, by omega⟩ h.1 (fun v1 p1 v2 p2 es3 p3 es4 p4 => K es4 v1 ?_)
  obtain ⟨a1, a2, a3, a4, a5, a6, a7, a8⟩ := h
  have q3 := stP_g (p := 30) (t := 0) (n := 36) rfl (by decide) (sh_of a1) p3
  have q4 := stP_g (p := 30) (t := 0) (n := 36) rfl (by decide) p3.1 p4
  rw [et] at q3
  rw [ef] at q4
  unfold atP at p2
  rw [ef] at p2
  obtain ⟨m1, m2, m3⟩ := a3 (c / 36) (by omega)
  have hn : ∀ q, q ≠ 30 → es4[q]? = es[q]? := fun q hq => by rw [stP_ne p4 hq, stP_ne p3 hq]
  have g : ∀ p, p ≠ 30 → gA es4 p = gA es p := fun p hp => gA_eq (hn p hp)
  refine ⟨p4.2.1, by rw [hn lp (by omega)]; exact a2, fun q hq => ⟨?_, zBd_r hr q⟩, by rw [g 13 (by decide)]; exact a4, fun i hi => by rw [g 13 (by decide)]; exact a5 i hi, fun j y hy => by rw [g 14 (by decide)]; exact a6 j y hy, fun i hi => by rw [g 14 (by decide)]; exact a7 i hi, fun p h1 h2 h3 h4 => by rw [hn p h4]; exact a8 p h1 h2 h3 h4⟩
  rw [q4, q3]
  unfold zBd
  by_cases hq1 : q = c / 36
  · rw [if_pos hq1, if_pos hq1]; rfl
  · rw [if_neg hq1, if_neg hq1]
    by_cases hq2 : q = c % 36
    · rw [if_pos hq2, if_pos hq2, zI_toInt (by unfold i32 iLO iHI; omega), p2, m1]
    · rw [if_neg hq2, if_neg hq2]
      exact (a3 q hq).1
end
section
variable {xs : Nat → Int32} {N d kc ks : Nat} {Q : pRes → Prop} {e0 : PH} {lp b mv : Nat} {K : Nat → Nat × (Nat → Int × Nat)} {κ wy sl : Int} {W : List (Int × Int × Int)}
/-- the class's loop writes what the pure one says -/
theorem fillC (h0 : 108 ≤ lp) (hb : b ≤ 2) (hmv : 1 ≤ mv ∧ mv ≤ 24) (hsl : 0 ≤ sl ∧ sl ≤ 9) (hK : kdC K 9 10 e0) (hκ : (gI e0 7 0).toInt = κ) (hκ5 : κ ≤ 5) (hway : (gA e0 12 b).toInt = wy) (KQ : ∀ (es' : PH) (s' : Int32) (B' : Nat → Int), wpC e0 lp b B' W W.length s' es' → Q (.inl none, es', kc, ks)) : ∀ (f n : Nat) (B : Nat → Int) (s : Int32) (l : List (Int × Int × Int)) (es : PH) (x5 x6 x7 : Option Value), n + f = mv → l.length = n → wpC e0 lp b B l n s es → rwB B → (∀ t, t < 36 → B t < 2 * κ) → l ++ zWr K κ wy sl f n B s = W → aW (pO0 xs N) (d + 6) 125 kc ks Q (3, [some (.ref (64 + lp)), some (.int (zI (b : Int))), some (.int (zI (mv : Int))), some (.int (zI sl)), some (.int (zI (n : Int))), x5, x6, x7], [], es) := by
  intro f
  induction f with
  | zero =>
    intro n B s l es x5 x6 x7 hnf hl hw hBr hBk hW
    have ho : es[lp]? = some (.inr (10, [.ref 71, .ref 93, .int (zI s.toInt)])) := by rw [zI_id]; exact hw.2.1
    have hW' : l ++ [] = W := hW
    rw [List.append_nil] at hW'
    rw [← hl, hW'] at hw
    exact s_fill3 (sh_of hw.1) ho ⟨by omega, by omega⟩ ⟨by omega, by omega⟩ hsl ⟨by omega, by omega⟩ (fun _ => KQ es s B hw) (fun h => absurd (by omega) h)
  | succ f ih =>
    intro n B s l es x5 x6 x7 hnf hl hw hBr hBk hW
    have H1 : 0 ≤ (b : Int) ∧ (b : Int) ≤ 2 := ⟨by omega, by omega⟩
    have H2 : 1 ≤ (mv : Int) ∧ (mv : Int) ≤ 24 := ⟨by omega, by omega⟩
    have H3 : 0 ≤ (n : Int) ∧ (n : Int) ≤ 24 := ⟨by omega, by omega⟩
    have hos : ∀ {B' : Nat → Int} {l' : List (Int × Int × Int)} {m' : Nat} {t : Int32} {a : PH}, wpC e0 lp b B' l' m' t a → a[lp]? = some (.inr (10, [.ref 71, .ref 93, .int (zI t.toInt)])) := fun h => by rw [zI_id]; exact h.2.1
    have hKc : ∀ {B' : Nat → Int} {l' : List (Int × Int × Int)} {m' : Nat} {t : Int32} {a : PH}, wpC e0 lp b B' l' m' t a → kdC K 9 10 a := fun h => by
      have k9 := gA_eq (h.2.2.2.2.2.2.2 9 (by decide) (by decide) (by decide) (by decide))
      have k10 := gA_eq (h.2.2.2.2.2.2.2 10 (by decide) (by decide) (by decide) (by decide))
      unfold kdC at hK ⊢
      rw [k9, k10]
      exact hK
    refine s_fill3 (sh_of hw.1) (hos hw) H1 H2 hsl H3 (fun h => absurd h (by omega)) (fun _ si hsi => ?_)
    have hsi2 : si = (n : Int) % 2 := by rw [hsi]; exact and1 (by unfold i32 iLO iHI; omega)
    rw [hsi2]
    have hsd : 0 ≤ (n : Int) % 2 ∧ (n : Int) % 2 ≤ 1 := ⟨by omega, by omega⟩
    refine x_call (vs := [.ref 93, .int (zI ((n : Int) % 2))]) (rs := []) i_125_21 rfl (fun _ => rfl) rfl rfl rfl rfl rfl (pCall_v (p := 29) (sh_of hw.1) rfl rfl rfl rfl rfl (by decide) rfl rfl rfl rfl rfl) ?_
    show aW _ _ _ _ _ _ (0, [some (.ref 93), some (.int (zI ((n : Int) % 2))), none, none], [], es)
    refine hm_spec (d := d + 1) hw.1 hw.2.2.1 (hKc hw) hsd ?_
    obtain ⟨al, hal⟩ : ∃ al : Int, al = zCnt (zMv B K ((n : Int) % 2)) 1296 0 := ⟨_, rfl⟩
    have halb := zCnt_nn (P := zMv B K ((n : Int) % 2)) 1296 0
    rw [← hal] at halb ⊢
    show aW _ _ _ _ _ _ (24, [some (.ref (64 + lp)), some (.int (zI (b : Int))), some (.int (zI (mv : Int))), some (.int (zI sl)), some (.int (zI (n : Int))), some (.int (zI ((n : Int) % 2))), x6, x7], [.int (zI al)], es)
    refine s_fill24 (sh_of hw.1) (hos hw) H1 H2 hsl H3 ⟨by omega, by omega⟩ (fun ha1 => ?_) (fun ha1 => ?_)
    rotate_left
    · have hW' : l ++ zWr K κ wy sl (f + 1) n B s = W := hW
      unfold zWr at hW'
      rw [← hal, if_pos (by omega), List.append_nil] at hW'
      rw [← hl, hW'] at hw
      exact KQ es s B hw
    refine x_call (vs := [.ref (64 + lp)]) (rs := [.int (zI ((n : Int) % 2)), .ref 93]) i_125_40 rfl (fun _ => rfl) rfl rfl rfl rfl rfl (pCall_p hw.2.1 rfl rfl rfl rfl (by decide) rfl rfl rfl rfl rfl) ?_
    show aW _ _ _ _ _ _ (0, [some (.ref (64 + lp))], [], es)
    refine drawC hw.2.1 ?_
    have hw2 := wpC_set h0 hw (zDs s)
    generalize es.set lp (.inr (10, [.ref 71, .ref 93, .int (zDs s)])) = es2 at hw2 ⊢
    show aW _ _ _ _ _ _ (43, [some (.ref (64 + lp)), some (.int (zI (b : Int))), some (.int (zI (mv : Int))), some (.int (zI sl)), some (.int (zI (n : Int))), some (.int (zI ((n : Int) % 2))), some (.int (zI al)), x7], [.int (zI (zDv s)), .int (zI ((n : Int) % 2)), .ref 93], es2)
    refine s_fill43 (sh_of hw2.1) (hos hw2) H1 H2 hsl H3 (zDv_r s) ⟨ha1, by omega⟩ ?_
    have hm1 : 0 ≤ zDv s % al := Int.emod_nonneg _ (by omega)
    have hm2 : zDv s % al < al := Int.emod_lt_of_pos _ (by omega)
    refine x_call (vs := [.ref 93, .int (zI ((n : Int) % 2)), .int (zI (zDv s % al))]) (rs := []) i_125_46 rfl (fun _ => rfl) rfl rfl rfl rfl rfl (pCall_v (p := 29) (sh_of hw2.1) rfl rfl rfl rfl rfl (by decide) rfl rfl rfl rfl rfl) ?_
    show aW _ _ _ _ _ _ (0, [some (.ref 93), some (.int (zI ((n : Int) % 2))), some (.int (zI (zDv s % al))), none, none, none, none, none], [], es2)
    refine mva_spec (d := d + 1) hw2.1 hw2.2.2.1 (hKc hw2) hsd hm1 (by omega) ?_
    obtain ⟨c, hcd⟩ : ∃ c : Int, c = zNth (zMv B K ((n : Int) % 2)) 1296 0 (zDv s % al) := ⟨_, rfl⟩
    have hcb := zNth_bd (P := zMv B K ((n : Int) % 2)) 1296 0 (zDv s % al) hm1 (by rw [← hal]; exact hm2)
    have hco := zNth_ok (P := zMv B K ((n : Int) % 2)) 1296 0 (zDv s % al) hm1 (by rw [← hal]; exact hm2)
    rw [← hcd] at hcb hco ⊢
    obtain ⟨cN, hcN⟩ : ∃ cN : Nat, c = (cN : Int) := ⟨c.toNat, by omega⟩
    have hcl : cN < 1296 := by omega
    rw [hcN, Int.toNat_natCast] at hco
    have hman : 0 ≤ B (cN / 36) := by
      unfold zMv zGo at hco
      rw [Bool.and_eq_true, decide_eq_true_iff] at hco
      exact hco.1
    have hkk := hBk (cN / 36) (by omega)
    have hW' : l ++ zWr K κ wy sl (f + 1) n B s = W := hW
    unfold zWr at hW'
    rw [← hal, if_neg (by omega), ← hcd, hcN, Int.toNat_natCast] at hW'
    rw [hcN]
    show aW _ _ _ _ _ _ (49, [some (.ref (64 + lp)), some (.int (zI (b : Int))), some (.int (zI (mv : Int))), some (.int (zI sl)), some (.int (zI (n : Int))), some (.int (zI ((n : Int) % 2))), some (.int (zI al)), x7], [.int (zI (cN : Int))], es2)
    refine s_fill49 (sh_of hw2.1) (hos hw2) H1 H2 hsl H3 ⟨by omega, by omega⟩ (fun _ => ?_) (fun h => absurd (by omega) h)
    refine x_call (vs := [.ref (64 + lp), .int (zI (b : Int)), .int (zI (cN : Int)), .int (zI ((n : Int) % 2))]) (rs := []) i_125_63 rfl (fun _ => rfl) rfl rfl rfl rfl rfl (pCall_p hw2.2.1 rfl rfl rfl rfl (by decide) rfl rfl rfl rfl rfl) ?_
    show aW _ _ _ _ _ _ (0, [some (.ref (64 + lp)), some (.int (zI (b : Int))), some (.int (zI (cN : Int))), some (.int (zI ((n : Int) % 2))), none, none, none], [], es2)
    rw [← hl] at hw2
    refine wnC (d := d + 2) (wy := wy) h0 hb (by omega) hcl hsd hway hBr hman hw2 (fun es4 hw4 => ?_)
    show aW _ _ _ _ _ _ (66, [some (.ref (64 + lp)), some (.int (zI (b : Int))), some (.int (zI (mv : Int))), some (.int (zI sl)), some (.int (zI (n : Int))), some (.int (zI ((n : Int) % 2))), some (.int (zI al)), some (.int (zI (cN : Int)))], [], es4)
    have tail : ∀ (y : Int × Int × Int) (t : Int32) (a : PH), wpC e0 lp b B (l ++ [y]) (l.length + 1) t a → (l ++ [y]) ++ zWr K κ wy sl f (n + 1) (zBd B cN) t = W → aW (pO0 xs N) (d + 6) 125 kc ks Q (98, [some (.ref (64 + lp)), some (.int (zI (b : Int))), some (.int (zI (mv : Int))), some (.int (zI sl)), some (.int (zI (n : Int))), some (.int (zI ((n : Int) % 2))), some (.int (zI al)), some (.int (zI (cN : Int)))], [], a) := fun y t a ha hWa => by
      refine s_fill98 (sh_of ha.1) (hos ha) H1 H2 hsl H3 ?_
      refine x_call (vs := [.ref 93, .int (zI (cN : Int))]) (rs := []) i_125_104 rfl (fun _ => rfl) rfl rfl rfl rfl rfl (pCall_v (p := 29) (sh_of ha.1) rfl rfl rfl rfl rfl (by decide) rfl rfl rfl rfl rfl) ?_
      show aW _ _ _ _ _ _ (0, [some (.ref 93), some (.int (zI (cN : Int))), none, none, none], [], a)
      refine goC (d := d + 4) h0 hcl hBr ha (fun es9 v9 h9 => ?_)
      show aW _ _ _ _ _ _ (107, [some (.ref (64 + lp)), some (.int (zI (b : Int))), some (.int (zI (mv : Int))), some (.int (zI sl)), some (.int (zI (n : Int))), some (.int (zI ((n : Int) % 2))), some (.int (zI al)), some (.int (zI (cN : Int)))], [.int (zI v9)], es9)
      refine s_fill107 (sh_of h9.1) (hos h9) H1 H2 hsl H3 ?_
      rw [hl] at h9
      have hB2 : ∀ t, t < 36 → zBd B cN t < 2 * κ := fun t ht => by
        unfold zBd
        by_cases q1 : t = cN / 36
        · rw [if_pos q1]; omega
        · rw [if_neg q1]
          by_cases q2 : t = cN % 36
          · rw [if_pos q2]; exact hkk
          · rw [if_neg q2]; exact hBk t ht
      have h := ih (n + 1) (zBd B cN) t (l ++ [y]) es9 (some (.int (zI ((n : Int) % 2)))) (some (.int (zI al))) (some (.int (zI (cN : Int)))) (by omega) (by rw [List.length_append, hl]; rfl) h9 (zBd_r hBr) hB2 hWa
      rw [show ((n + 1 : Nat) : Int) = (n : Int) + 1 by omega] at h
      exact h
    refine s_fill66 (sh_of hw4.1) (hos hw4) H1 H2 hsl H3 ?_
    refine x_call (vs := [.ref (64 + lp)]) (rs := []) i_125_67 rfl (fun _ => rfl) rfl rfl rfl rfl rfl (pCall_p hw4.2.1 rfl rfl rfl rfl (by decide) rfl rfl rfl rfl rfl) ?_
    show aW _ _ _ _ _ _ (0, [some (.ref (64 + lp))], [], es4)
    refine drawC hw4.2.1 ?_
    have hw5 := wpC_set h0 hw4 (zDs (zDs s))
    generalize es4.set lp (.inr (10, [.ref 71, .ref 93, .int (zDs (zDs s))])) = es5 at hw5 ⊢
    show aW _ _ _ _ _ _ (70, [some (.ref (64 + lp)), some (.int (zI (b : Int))), some (.int (zI (mv : Int))), some (.int (zI sl)), some (.int (zI (n : Int))), some (.int (zI ((n : Int) % 2))), some (.int (zI al)), some (.int (zI (cN : Int)))], [.int (zI (zDv (zDs s)))], es5)
    refine s_fill70 (d := d + 4) (sh_of hw5.1) (hos hw5) hw5.1 H1 H2 hsl H3 (zDv_r (zDs s)) (fun h => ?_) (fun h v hv => ?_)
    · rw [if_neg (by omega)] at hW'
      exact tail _ (zDs (zDs s)) es5 hw5 (by rw [List.append_assoc]; exact hW')
    rw [if_pos (by omega)] at hW'
    have hvl : v - 1 = (l.length : Int) := by
      rw [hv, Int.toNat_natCast, hw5.2.2.2.1]
      omega
    rw [hvl]
    refine x_call (vs := [.ref (64 + lp)]) (rs := [.int (zI (l.length : Int)), .int (zI (b : Int)), .ref (64 + lp)]) i_125_90 rfl (fun _ => rfl) rfl rfl rfl rfl rfl (pCall_p hw5.2.1 rfl rfl rfl rfl (by decide) rfl rfl rfl rfl rfl) ?_
    show aW _ _ _ _ _ _ (0, [some (.ref (64 + lp))], [], es5)
    refine drawC hw5.2.1 ?_
    have hw6 := wpC_set h0 hw5 (zDs (zDs (zDs s)))
    generalize es5.set lp (.inr (10, [.ref 71, .ref 93, .int (zDs (zDs (zDs s)))])) = es6 at hw6 ⊢
    show aW _ _ _ _ _ _ (93, [some (.ref (64 + lp)), some (.int (zI (b : Int))), some (.int (zI (mv : Int))), some (.int (zI sl)), some (.int (zI (n : Int))), some (.int (zI ((n : Int) % 2))), some (.int (zI al)), some (.int (zI (cN : Int)))], [.int (zI (zDv (zDs (zDs s)))), .int (zI (l.length : Int)), .int (zI (b : Int)), .ref (64 + lp)], es6)
    refine s_fill93 (sh_of hw6.1) (hos hw6) H1 H2 hsl H3 (zDv_r (zDs (zDs s))) ?_
    refine x_call (vs := [.ref (64 + lp), .int (zI (b : Int)), .int (zI (l.length : Int)), .int (zI (zDv (zDs (zDs s)) % 3))]) (rs := []) i_125_95 rfl (fun _ => rfl) rfl rfl rfl rfl rfl (pCall_p hw6.2.1 rfl rfl rfl rfl (by decide) rfl rfl rfl rfl rfl) ?_
    show aW _ _ _ _ _ _ (0, [some (.ref (64 + lp)), some (.int (zI (b : Int))), some (.int (zI (l.length : Int))), some (.int (zI (zDv (zDs (zDs s)) % 3))), none, none, none], [], es6)
    have hnr := zNt_r (wy := wy) (sd := (n : Int) % 2) hBr hman
    have hk1 : (zNt B wy ((n : Int) % 2) cN).1 < κ := by
      show B (cN / 36) / 2 < κ
      omega
    refine asC (d := d + 2) (κ := κ) h0 hb (by omega) hκ hκ5 ⟨⟨hnr.1.1, hk1⟩, hnr.2.1, hnr.2.2⟩ ⟨Int.emod_nonneg _ (by omega), by omega⟩ hw6 (fun es7 hw7 => ?_)
    exact tail _ (zDs (zDs (zDs s))) es7 hw7 (by rw [List.append_assoc]; exact hW')
end
