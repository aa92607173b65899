theorem i_263_0 : iRow 263 0 = some (.aload_n 0, 0, 0, 0, (some (Jvm.ClassFile.FieldType.int))) := rfl
theorem i_263_1 : iRow 263 1 = some (.iconst 0, 0, 0, 0, (some (Jvm.ClassFile.FieldType.int))) := rfl
theorem i_263_2 : iRow 263 2 = some (.putfield 3, 164, 12, 0, (some (Jvm.ClassFile.FieldType.int))) := rfl
theorem i_263_5 : iRow 263 5 = some (.aload_n 0, 0, 0, 0, (some (Jvm.ClassFile.FieldType.int))) := rfl
theorem i_263_6 : iRow 263 6 = some (.aload_n 0, 0, 0, 0, (some (Jvm.ClassFile.FieldType.int))) := rfl
theorem i_263_7 : iRow 263 7 = some (.iload_n 1, 0, 0, 0, (some (Jvm.ClassFile.FieldType.int))) := rfl
theorem i_263_8 : iRow 263 8 = some (.invokevirtual 259, 292, 203, 1, (some (Jvm.ClassFile.FieldType.int))) := rfl
theorem i_263_11 : iRow 263 11 = some (.iconst 1, 0, 0, 0, (some (Jvm.ClassFile.FieldType.int))) := rfl
theorem i_263_12 : iRow 263 12 = some (.invokevirtual 235, 283, 194, 1, (some (Jvm.ClassFile.FieldType.int))) := rfl
theorem i_263_15 : iRow 263 15 = some (.ifCond .eq 5, 0, 0, 0, (some (Jvm.ClassFile.FieldType.int))) := rfl
theorem i_263_18 : iRow 263 18 = some (.iconst 0, 0, 0, 0, (some (Jvm.ClassFile.FieldType.int))) := rfl
theorem i_263_19 : iRow 263 19 = some (.ireturn, 0, 0, 0, (some (Jvm.ClassFile.FieldType.int))) := rfl
theorem i_263_20 : iRow 263 20 = some (.aload_n 0, 0, 0, 0, (some (Jvm.ClassFile.FieldType.int))) := rfl
theorem i_263_21 : iRow 263 21 = some (.invokevirtual 435, 320, 231, 1, (some (Jvm.ClassFile.FieldType.int))) := rfl
theorem i_263_24 : iRow 263 24 = some (.aload_n 0, 0, 0, 0, (some (Jvm.ClassFile.FieldType.int))) := rfl
theorem i_263_25 : iRow 263 25 = some (.iconst 1, 0, 0, 0, (some (Jvm.ClassFile.FieldType.int))) := rfl
theorem i_263_26 : iRow 263 26 = some (.iload_n 1, 0, 0, 0, (some (Jvm.ClassFile.FieldType.int))) := rfl
theorem i_263_27 : iRow 263 27 = some (.ishl, 0, 0, 0, (some (Jvm.ClassFile.FieldType.int))) := rfl
theorem i_263_28 : iRow 263 28 = some (.putfield 314, 182, 12, 18, (some (Jvm.ClassFile.FieldType.int))) := rfl
theorem i_263_31 : iRow 263 31 = some (.iconst 0, 0, 0, 0, (some (Jvm.ClassFile.FieldType.int))) := rfl
theorem i_263_32 : iRow 263 32 = some (.istore_n 2, 0, 0, 0, (some (Jvm.ClassFile.FieldType.int))) := rfl
theorem i_263_33 : iRow 263 33 = some (.iload_n 2, 0, 0, 0, (some (Jvm.ClassFile.FieldType.int))) := rfl
theorem i_263_34 : iRow 263 34 = some (.bipush 8, 0, 0, 0, (some (Jvm.ClassFile.FieldType.int))) := rfl
theorem i_263_36 : iRow 263 36 = some (.if_icmp .ge 16, 0, 0, 0, (some (Jvm.ClassFile.FieldType.int))) := rfl
theorem i_263_39 : iRow 263 39 = some (.aload_n 0, 0, 0, 0, (some (Jvm.ClassFile.FieldType.int))) := rfl
theorem i_263_40 : iRow 263 40 = some (.getfield 50, 184, 12, 20, (some (Jvm.ClassFile.FieldType.int))) := rfl
theorem i_263_43 : iRow 263 43 = some (.iload_n 2, 0, 0, 0, (some (Jvm.ClassFile.FieldType.int))) := rfl
theorem i_263_44 : iRow 263 44 = some (.iconst 0, 0, 0, 0, (some (Jvm.ClassFile.FieldType.int))) := rfl
theorem i_263_45 : iRow 263 45 = some (.iastore, 0, 0, 0, (some (Jvm.ClassFile.FieldType.int))) := rfl
theorem i_263_46 : iRow 263 46 = some (.iinc 2 1, 0, 0, 0, (some (Jvm.ClassFile.FieldType.int))) := rfl
theorem i_263_49 : iRow 263 49 = some (.goto (-16), 0, 0, 0, (some (Jvm.ClassFile.FieldType.int))) := rfl
theorem i_263_52 : iRow 263 52 = some (.aload_n 0, 0, 0, 0, (some (Jvm.ClassFile.FieldType.int))) := rfl
theorem i_263_53 : iRow 263 53 = some (.iconst 0, 0, 0, 0, (some (Jvm.ClassFile.FieldType.int))) := rfl
theorem i_263_54 : iRow 263 54 = some (.putfield 398, 191, 12, 27, (some (Jvm.ClassFile.FieldType.int))) := rfl
theorem i_263_57 : iRow 263 57 = some (.aload_n 0, 0, 0, 0, (some (Jvm.ClassFile.FieldType.int))) := rfl
theorem i_263_58 : iRow 263 58 = some (.iconst 0, 0, 0, 0, (some (Jvm.ClassFile.FieldType.int))) := rfl
theorem i_263_59 : iRow 263 59 = some (.putfield 401, 193, 12, 29, (some (Jvm.ClassFile.FieldType.int))) := rfl
theorem i_263_62 : iRow 263 62 = some (.aload_n 0, 0, 0, 0, (some (Jvm.ClassFile.FieldType.int))) := rfl
theorem i_263_63 : iRow 263 63 = some (.iconst 1, 0, 0, 0, (some (Jvm.ClassFile.FieldType.int))) := rfl
theorem i_263_64 : iRow 263 64 = some (.putfield 359, 194, 12, 30, (some (Jvm.ClassFile.FieldType.int))) := rfl
theorem i_263_67 : iRow 263 67 = some (.aload_n 0, 0, 0, 0, (some (Jvm.ClassFile.FieldType.int))) := rfl
theorem i_263_68 : iRow 263 68 = some (.bipush 30, 0, 0, 0, (some (Jvm.ClassFile.FieldType.int))) := rfl
theorem i_263_70 : iRow 263 70 = some (.putfield 368, 198, 12, 35, (some (Jvm.ClassFile.FieldType.int))) := rfl
theorem i_263_73 : iRow 263 73 = some (.aload_n 0, 0, 0, 0, (some (Jvm.ClassFile.FieldType.int))) := rfl
theorem i_263_74 : iRow 263 74 = some (.iconst 0, 0, 0, 0, (some (Jvm.ClassFile.FieldType.int))) := rfl
theorem i_263_75 : iRow 263 75 = some (.invokevirtual 432, 322, 233, 1, (some (Jvm.ClassFile.FieldType.int))) := rfl
theorem i_263_78 : iRow 263 78 = some (.aload_n 0, 0, 0, 0, (some (Jvm.ClassFile.FieldType.int))) := rfl
theorem i_263_79 : iRow 263 79 = some (.getfield 401, 193, 12, 29, (some (Jvm.ClassFile.FieldType.int))) := rfl
theorem i_263_82 : iRow 263 82 = some (.ifCond .eq 8, 0, 0, 0, (some (Jvm.ClassFile.FieldType.int))) := rfl
theorem i_263_85 : iRow 263 85 = some (.bipush (-2), 0, 0, 0, (some (Jvm.ClassFile.FieldType.int))) := rfl
theorem i_263_87 : iRow 263 87 = some (.goto 24, 0, 0, 0, (some (Jvm.ClassFile.FieldType.int))) := rfl
theorem i_263_90 : iRow 263 90 = some (.aload_n 0, 0, 0, 0, (some (Jvm.ClassFile.FieldType.int))) := rfl
theorem i_263_91 : iRow 263 91 = some (.getfield 404, 192, 12, 28, (some (Jvm.ClassFile.FieldType.int))) := rfl
theorem i_263_94 : iRow 263 94 = some (.aload_n 0, 0, 0, 0, (some (Jvm.ClassFile.FieldType.int))) := rfl
theorem i_263_95 : iRow 263 95 = some (.iload_n 1, 0, 0, 0, (some (Jvm.ClassFile.FieldType.int))) := rfl
theorem i_263_96 : iRow 263 96 = some (.invokevirtual 251, 294, 205, 1, (some (Jvm.ClassFile.FieldType.int))) := rfl
theorem i_263_99 : iRow 263 99 = some (.if_icmp .ne 8, 0, 0, 0, (some (Jvm.ClassFile.FieldType.int))) := rfl
theorem i_263_102 : iRow 263 102 = some (.bipush (-3), 0, 0, 0, (some (Jvm.ClassFile.FieldType.int))) := rfl
theorem i_263_104 : iRow 263 104 = some (.goto 7, 0, 0, 0, (some (Jvm.ClassFile.FieldType.int))) := rfl
theorem i_263_107 : iRow 263 107 = some (.aload_n 0, 0, 0, 0, (some (Jvm.ClassFile.FieldType.int))) := rfl
theorem i_263_108 : iRow 263 108 = some (.getfield 404, 192, 12, 28, (some (Jvm.ClassFile.FieldType.int))) := rfl
theorem i_263_111 : iRow 263 111 = some (.ireturn, 0, 0, 0, (some (Jvm.ClassFile.FieldType.int))) := rfl
theorem s_mbk78 {O : pOut} {d kc ks : Nat} {Q : pRes → Prop} {es : PH} {bk x : Int} (hs_es : sh es) (h_bk : 0 ≤ bk ∧ bk ≤ 2) (hT_es : hOK tT es)
    (K1 : ∀ v1 : Int, v1 = (gI es 79 29).toInt → v1 = 0 → ∀ v3 : Int, v3 = (gI es 79 28).toInt → ∀ v4 : Int, v4 = (gA es 80 ((119 + (98 * bk)) + 1).toNat).toInt → v3 ≠ v4 → Q (.inl (some (.int (zI v3))), es, kc, ks))
    (K2 : ∀ v1 : Int, v1 = (gI es 79 29).toInt → v1 = 0 → ∀ v3 : Int, v3 = (gI es 79 28).toInt → ∀ v4 : Int, v4 = (gA es 80 ((119 + (98 * bk)) + 1).toNat).toInt → ¬ (v3 ≠ v4) → Q (.inl (some (.int (zI (-3)))), es, kc, ks))
    (K3 : ∀ v1 : Int, v1 = (gI es 79 29).toInt → ¬ (v1 = 0) → Q (.inl (some (.int (zI (-2)))), es, kc, ks)) :
    aW O (d + 2) 263 kc ks Q (78, [some (.ref 143), some (.int (zI bk)), some (.int (zI x))], [], es) := by
  refine x0 (r := (79, [some (.ref 143), some (.int (zI bk)), some (.int (zI x))], [.ref 143], es)) i_263_78 rfl ?_
  refine x_geti (p := 79) i_263_79 hs_es rfl rfl ?_
  obtain ⟨v1, e_v1⟩ : ∃ z : Int, z = (gI es 79 29).toInt := ⟨_, rfl⟩
  rw [← e_v1]
  have r_v1 : iLO ≤ v1 ∧ v1 ≤ iHI := by rw [e_v1]; exact i32_rng _
  unfold iLO iHI at r_v1
  have b_v1 : (0 : Int) ≤ v1 ∧ v1 ≤ (1 : Int) := by rw [e_v1]; exact gI_bd hT_es (p := 79) (b := 29) rfl rfl
  by_cases c2 : v1 = 0
  · refine x_ifT i_263_82 (by unfold i32 iLO iHI; omega) rfl (by simp only [zC, cR]; omega) ?_
    refine x0 (r := (91, [some (.ref 143), some (.int (zI bk)), some (.int (zI x))], [.ref 143], es)) i_263_90 rfl ?_
    refine x_geti (p := 79) i_263_91 hs_es rfl rfl ?_
    obtain ⟨v3, e_v3⟩ : ∃ z : Int, z = (gI es 79 28).toInt := ⟨_, rfl⟩
    rw [← e_v3]
    have r_v3 : iLO ≤ v3 ∧ v3 ≤ iHI := by rw [e_v3]; exact i32_rng _
    unfold iLO iHI at r_v3
    refine x0 (r := (95, [some (.ref 143), some (.int (zI bk)), some (.int (zI x))], [.ref 143, .int (zI v3)], es)) i_263_94 rfl ?_
    refine x0 (r := (96, [some (.ref 143), some (.int (zI bk)), some (.int (zI x))], [.int (zI bk), .ref 143, .int (zI v3)], es)) i_263_95 rfl ?_
    refine x_call (vs := [.ref 143, .int (zI bk)]) (rs := [.int (zI v3)]) i_263_96 rfl (fun _ => rfl) rfl rfl rfl rfl rfl (pCall_v (p := 79) hs_es rfl rfl rfl rfl rfl (by decide) rfl rfl rfl rfl rfl) ?_
    show aW _ _ _ _ _ _ (0, [some (.ref 143), some (.int (zI bk))], [], es)
    refine x0 (r := (1, [some (.ref 143), some (.int (zI bk))], [.ref 143], es)) i_205_0 rfl ?_
    refine x0 (r := (2, [some (.ref 143), some (.int (zI bk))], [.int (zI bk), .ref 143], es)) i_205_1 rfl ?_
    refine x0 (r := (3, [some (.ref 143), some (.int (zI bk))], [.int (zI 1), .int (zI bk), .ref 143], es)) i_205_2 (by rfl) ?_
    refine x_call (vs := [.ref 143, .int (zI bk), .int (zI 1)]) (rs := []) i_205_3 rfl (fun _ => rfl) rfl rfl rfl rfl rfl (pCall_v (p := 79) hs_es rfl rfl rfl rfl rfl (by decide) rfl rfl rfl rfl rfl) ?_
    show aW _ _ _ _ _ _ (0, [some (.ref 143), some (.int (zI bk)), some (.int (zI 1))], [], es)
    refine x0 (r := (1, [some (.ref 143), some (.int (zI bk)), some (.int (zI 1))], [.ref 143], es)) i_206_0 rfl ?_
    refine x_getr (p := 79) (k := 144) i_206_1 hs_es rfl rfl ?_
    show aW _ _ _ _ _ _ (4, [some (.ref 143), some (.int (zI bk)), some (.int (zI 1))], [.ref 144], es)
    refine x0 (r := (6, [some (.ref 143), some (.int (zI bk)), some (.int (zI 1))], [.int (zI 119), .ref 144], es)) i_206_4 (by rfl) ?_
    refine x0 (r := (8, [some (.ref 143), some (.int (zI bk)), some (.int (zI 1))], [.int (zI 98), .int (zI 119), .ref 144], es)) i_206_6 (by rfl) ?_
    refine x0 (r := (9, [some (.ref 143), some (.int (zI bk)), some (.int (zI 1))], [.int (zI bk), .int (zI 98), .int (zI 119), .ref 144], es)) i_206_8 rfl ?_
    refine x_imul i_206_9 ?_
    refine x_iadd i_206_10 ?_
    refine x0 (r := (12, [some (.ref 143), some (.int (zI bk)), some (.int (zI 1))], [.int (zI 1), .int (zI (119 + (98 * bk))), .ref 144], es)) i_206_11 rfl ?_
    refine x_iadd i_206_12 ?_
    refine x_iald (p := 80) i_206_13 hs_es rfl (by unfold i32 iLO iHI; omega) (by omega) (by omega) ?_
    obtain ⟨v4, e_v4⟩ : ∃ z : Int, z = (gA es 80 ((119 + (98 * bk)) + 1).toNat).toInt := ⟨_, rfl⟩
    rw [← e_v4]
    have r_v4 : iLO ≤ v4 ∧ v4 ≤ iHI := by rw [e_v4]; exact i32_rng _
    unfold iLO iHI at r_v4
    refine x_ret (v := some (.int (zI v4))) i_206_14 rfl (fun _ => rfl) rfl rfl rfl ?_
    show aW _ _ _ _ _ _ (6, [some (.ref 143), some (.int (zI bk))], [.int (zI v4)], es)
    refine x_ret (v := some (.int (zI v4))) i_205_6 rfl (fun _ => rfl) rfl rfl rfl ?_
    show aW _ _ _ _ _ _ (99, [some (.ref 143), some (.int (zI bk)), some (.int (zI x))], [.int (zI v4), .int (zI v3)], es)
    by_cases c5 : v3 ≠ v4
    · refine x_cmpT i_263_99 (by unfold i32 iLO iHI; omega) (by unfold i32 iLO iHI; omega) rfl (by simp only [zC, cR]; omega) ?_
      refine x0 (r := (108, [some (.ref 143), some (.int (zI bk)), some (.int (zI x))], [.ref 143], es)) i_263_107 rfl ?_
      refine x_geti (p := 79) i_263_108 hs_es rfl rfl ?_
      rw [show (gI es 79 28).toInt = v3 from e_v3.symm]
      refine x_ret (v := some (.int (zI v3))) i_263_111 rfl (fun _ => rfl) rfl rfl rfl ?_
      exact K1 v1 e_v1 c2 v3 e_v3 v4 e_v4 c5
    · refine x_cmpF i_263_99 (by unfold i32 iLO iHI; omega) (by unfold i32 iLO iHI; omega) rfl (by simp only [zC, cR]; omega) ?_
      refine x0 (r := (104, [some (.ref 143), some (.int (zI bk)), some (.int (zI x))], [.int (zI (-3))], es)) i_263_102 (by rfl) ?_
      refine x0 (r := (111, [some (.ref 143), some (.int (zI bk)), some (.int (zI x))], [.int (zI (-3))], es)) i_263_104 rfl ?_
      refine x_ret (v := some (.int (zI (-3)))) i_263_111 rfl (fun _ => rfl) rfl rfl rfl ?_
      exact K2 v1 e_v1 c2 v3 e_v3 v4 e_v4 c5
  · refine x_ifF i_263_82 (by unfold i32 iLO iHI; omega) rfl (by simp only [zC, cR]; omega) ?_
    refine x0 (r := (87, [some (.ref 143), some (.int (zI bk)), some (.int (zI x))], [.int (zI (-2))], es)) i_263_85 (by rfl) ?_
    refine x0 (r := (111, [some (.ref 143), some (.int (zI bk)), some (.int (zI x))], [.int (zI (-2))], es)) i_263_87 rfl ?_
    refine x_ret (v := some (.int (zI (-2)))) i_263_111 rfl (fun _ => rfl) rfl rfl rfl ?_
    exact K3 v1 e_v1 c2
/-- the reference's breaks, told by the pure search -/
def frBk : List aMod := [(79, 2, 0, 1), (79, 20, 0, 1), (89, 0, 0, 3), (90, 0, 0, 8), (79, 29, 0, 1), (79, 31, 0, 1), (79, 32, 0, 1), (79, 37, 0, 1)]
/-- what the reference's table says of its BOOKs -/
def bkR (nb : Nat → Nat) (wy : Nat → Int) (nt : Nat → Nat → Nat → Int) (n : Nat) (W : Nat → Int32) : Prop := ∀ b, b < n → b < 3 ∧ (W (119 + 98 * b)).toInt = wy b ∧ (W (119 + 98 * b + 1)).toInt = (nb b : Int) ∧ nb b ≤ 24 ∧ ∀ j, j < nb b → (∀ q, q < 4 → (W (119 + 98 * b + 2 + 4 * j + q)).toInt = nt b j q) ∧ -1 ≤ nt b j 1
def mbkP (K : Nat → Nat × (Nat → Int × Nat)) (nb : Nat → Nat) (wy : Nat → Int) (nt : Nat → Nat → Nat → Int) (B : Nat → Int) (n : Nat) (bk : Int) (r : Option Value ⊕ Nat) (es1 : PH) : Prop := sh es1 ∧ ∃ v : Int, r = .inl (some (.int (zI v))) ∧ i32 v ∧ (((gI es1 79 0).toInt = 1 ∧ (bk < 0 ∨ (n : Int) ≤ bk)) ∨ ((gI es1 79 0).toInt = 0 ∧ ∃ b : Nat, bk = (b : Int) ∧ b < n ∧ v = zBr K (nt b) (wy b) (nb b) B))
theorem bkR_of {es : PH} {n : Nat} {W : Nat → Int32} (hT : hOK tT es) (hj : bkT (gA es 12) (gA es 13) (gA es 14) (gA es 80) (gI es 7 5).toInt) (hn : (gI es 7 5).toInt = (n : Int)) (hw : ∀ i, i < 2125 → W i = gA es 80 i) : bkR (cNB es) (cWY es) (cNT es) n W := by
  intro b hb
  obtain ⟨h1, h2, ⟨h3, h4⟩, h5, h6⟩ := bk_cells hT hj hn b hb
  refine ⟨h1, by rw [hw _ (by omega)]; exact h2, by rw [hw _ (by omega)]; exact h3, h5, fun j hj2 => ⟨fun q hq => ?_, (h6 j hj2).2.1⟩⟩
  rw [hw _ (by omega)]
  exact (h6 j hj2).1 q hq
theorem ak_shl : ∀ b : Nat, b < 3 → ∀ c : Nat, c < 3 → (akI (((zI 1 <<< (zI (b : Int) &&& 31)).toInt)) (c : Int) = 1 ↔ c = b) := by decide +kernel
section
variable {O : pOut} {d n b : Nat} {Q : pRes → Prop} {es T : PH} {K : Nat → Nat × (Nat → Int × Nat)} {nb : Nat → Nat} {wy : Nat → Int} {nt : Nat → Nat → Nat → Int}
/-- the question is put: the search, and what is answered -/
theorem mbk_go {x : Int} (h365 : conOK O gG gInv kc_365) (hT : hOK tT T) (hI : gInv T) (hW : gA T 80 = gA es 80) (hn : (gA es 80 1).toInt = (n : Int)) (hb3 : b < 3) (hbn : b < n) (hR : bkR nb wy nt n (gA es 80)) (hK : kdR K (gA es 80)) (hBr : rwB (bdF (gA es 80) (fun _ => 0) 0)) (t0 : (gI T 79 0).toInt = 0) (t18 : (gI T 79 18).toInt = (zI 1 <<< (zI (b : Int) &&& 31)).toInt) (t27 : (gI T 79 27).toInt = 0) (t29 : (gI T 79 29).toInt = 0) (t30 : (gI T 79 30).toInt = 1) (t89 : (gA T 89 b).toInt = wy b) (t90 : ∀ i, i < 8 → (gA T 90 i).toInt = 0)
    (KQ : ∀ (es' : PH) (v : Int) (kc ks : Nat), sh es' → i32 v → (gI es' 79 0).toInt = 0 → v = zBr K (nt b) (wy b) (nb b) (bdF (gA es 80) (fun _ => 0) 0) → Q (.inl (some (.int (zI v))), es', kc, ks)) : aW O (d + 8) 263 0 0 Q (75, [some (.ref 143), some (.int (zI (b : Int))), some (.int (zI x))], [.int (zI 0), .ref 143], T) := by
  obtain ⟨-, w1, w2, w3, w4⟩ := hR b hbn
  have eW : (evE T).W = gA es 80 := hW
  have eN : nW (evE T).W b = nb b := by
    rw [eW]
    unfold nW
    rw [w2, Int.toNat_natCast]
  have eC : cW (evE T).W = n := by
    rw [eW]
    unfold cW
    rw [hn, Int.toNat_natCast]
  have hn3 : n ≤ 3 := by
    have h := gA_bd hT (p := 80) (k := 1) rfl (by omega) (by decide)
    have h2 : (gA T 80 1).toInt ≤ 3 := h.2
    rw [hW, hn] at h2
    omega
  have hF : frEk (evE T) b := by
    refine ⟨t90, ?_, by rw [eC]; exact hbn, fun c hc => ?_⟩
    · show (gI T 79 30).toInt ≠ 0
      omega
    · rw [eC] at hc
      show akI (gI T 79 18).toInt (c : Int) = 1 ↔ c = b
      rw [t18]
      exact ak_shl b hb3 c (by omega)
  have hN : ntE (evE T) b (nt b) (wy b) := by
    refine ⟨t89, fun j hj => ?_⟩
    rw [eN] at hj
    rw [eW]
    exact w4 j hj
  refine x_call (vs := [.ref 143, .int (zI 0)]) (rs := []) i_263_75 rfl (fun _ => rfl) rfl rfl rfl rfl rfl (pCall_v (p := 79) (sh_of hT) rfl rfl rfl rfl rfl (by decide) rfl rfl rfl rfl rfl) ?_
  show aW _ _ _ _ _ _ (0, [some (.ref 143), some (.int (zI 0)), none, none, none, none], [], T)
  refine ba_all (d := d) (bk := b) (K := K) (nt := nt b) (wy := wy b) h365 hT hI hF hN (by rw [eW]; exact hK) (fun P => by rw [eW]; exact hBr) (by rw [eN]; exact w3) t27 t29 (fun es' hLB hE => ?_)
  show aW _ _ _ _ _ _ (78, [some (.ref 143), some (.int (zI (b : Int))), some (.int (zI x))], [], es')
  rw [eN, eW] at hE
  have hT' := hLB.hT
  have hW' : gA es' 80 = gA es 80 := by
    have h := hLB.hE
    have h2 : (evE es').W = (evE T).W := by rw [h]
    exact h2.trans eW
  have h0' : (gI es' 79 0).toInt = 0 := by rw [keepI hLB.hf (sh_of hT) (p := 79) (b := 0) rfl (by decide)]; exact t0
  have hzr := zBr_r (K := K) (nt := nt b) (wy := wy b) (nb := nb b) (B := bdF (gA es 80) (fun _ => 0) 0) w3
  have hzi : i32 (zBr K (nt b) (wy b) (nb b) (bdF (gA es 80) (fun _ => 0) 0)) := by unfold i32 iLO iHI; omega
  have e4 : ((119 + (98 * (b : Int))) + 1).toNat = 119 + 98 * b + 1 := by omega
  have hxl := tX_le (K := K) (nt := nt b) (wy := wy b) (nb := nb b) 24 0 (bdF (gA es 80) (fun _ => 0) 0) (Nat.zero_le _)
  refine s_mbk78 (d := d + 6) (sh_of hT') ⟨by omega, by omega⟩ hT' (fun v1 e1 c1 v3 e3 v4 f4 c4 => ?_) (fun v1 e1 c1 v3 e3 v4 f4 c4 => ?_) (fun v1 e1 c1 => ?_)
  · rw [hW', e4, w2] at f4
    rcases hE with ⟨h1, h2, h3⟩ | ⟨h1, h2⟩
    · have hv : v3 = zBr K (nt b) (wy b) (nb b) (bdF (gA es 80) (fun _ => 0) 0) := by
        unfold zBr
        rw [if_neg (by omega), if_neg (by omega), e3, h3]
      exact KQ es' v3 _ _ (sh_of hT') (by rw [hv]; exact hzi) h0' hv
    · exact absurd (e1.symm.trans c1) h1
  · rw [hW', e4, w2] at f4
    rcases hE with ⟨h1, h2, h3⟩ | ⟨h1, h2⟩
    · have hv : (-3 : Int) = zBr K (nt b) (wy b) (nb b) (bdF (gA es 80) (fun _ => 0) 0) := by
        unfold zBr
        rw [if_neg (by omega), if_pos (by omega)]
      exact KQ es' (-3) _ _ (sh_of hT') (by unfold i32 iLO iHI; omega) h0' hv
    · exact absurd (e1.symm.trans c1) h1
  · rcases hE with ⟨h1, h2, h3⟩ | ⟨h1, h2⟩
    · exact absurd (e1.trans h1) c1
    · have hv : (-2 : Int) = zBr K (nt b) (wy b) (nb b) (bdF (gA es 80) (fun _ => 0) 0) := by
        unfold zBr
        rw [if_pos h2]
      exact KQ es' (-2) _ _ (sh_of hT') (by unfold i32 iLO iHI; omega) h0' hv
end
theorem s_mbk0 {O : pOut} {d kc ks : Nat} {Q : pRes → Prop} {es : PH} {bk : Int} (hs_es : sh es) (h_bk : -2147483648 ≤ bk ∧ bk ≤ 2147483647) (hT_es : hOK tT es)
    (K1 : ∀ es1 : PH, es1 = sI es 79 0 (.int (zI 0)) → ∀ v2 : Int, v2 = (gA es1 80 (Int.toNat 1)).toInt → bk < 0 → ∀ es4 : PH, es4 = sI es1 79 0 (.int (zI 1)) → hOK tT es4 → Q (.inl (some (.int (zI 0))), es4, kc, ks))
    (K2 : ∀ es1 : PH, es1 = sI es 79 0 (.int (zI 0)) → ∀ v2 : Int, v2 = (gA es1 80 (Int.toNat 1)).toInt → ¬ (bk < 0) → (v2 - 1) < bk → ∀ es6 : PH, es6 = sI es1 79 0 (.int (zI 1)) → hOK tT es6 → Q (.inl (some (.int (zI 0))), es6, kc, ks))
    (K3 : ∀ es1 : PH, es1 = sI es 79 0 (.int (zI 0)) → ∀ v2 : Int, v2 = (gA es1 80 (Int.toNat 1)).toInt → ¬ (bk < 0) → ¬ ((v2 - 1) < bk) → ∀ v7 : Int, v7 = (zI 1 <<< (zI v2 &&& 31)).toInt → ∀ es8 : PH, es8 = sI es1 79 18 (.int (zI (v7 - 1))) → v2 ≤ 0 → ∀ v10 : Int, v10 = (gA es8 80 (Int.toNat 5)).toInt → ∀ es11 : PH, es11 = sA es8 90 (Int.toNat 0) (zI v10) → ∀ v12 : Int, v12 = (gA es11 80 (Int.toNat 6)).toInt → ∀ es13 : PH, es13 = sA es11 90 (Int.toNat 1) (zI v12) → ∀ v14 : Int, v14 = (gA es13 80 (Int.toNat 7)).toInt → ∀ es15 : PH, es15 = sA es13 90 (Int.toNat 2) (zI v14) → ∀ v16 : Int, v16 = (gA es15 80 (Int.toNat 8)).toInt → ∀ es17 : PH, es17 = sA es15 90 (Int.toNat 3) (zI v16) → ∀ v18 : Int, v18 = (gA es17 80 (Int.toNat 9)).toInt → ∀ es19 : PH, es19 = sA es17 90 (Int.toNat 4) (zI v18) → ∀ v20 : Int, v20 = (gA es19 80 (Int.toNat 10)).toInt → ∀ es21 : PH, es21 = sA es19 90 (Int.toNat 5) (zI v20) → ∀ v22 : Int, v22 = (gA es21 80 (Int.toNat 11)).toInt → ∀ es23 : PH, es23 = sA es21 90 (Int.toNat 6) (zI v22) → ∀ v24 : Int, v24 = (gA es23 80 (Int.toNat 12)).toInt → ∀ es25 : PH, es25 = sA es23 90 (Int.toNat 7) (zI v24) → ∀ v26 : Int, v26 = (zI 1 <<< (zI bk &&& 31)).toInt → ∀ es27 : PH, es27 = sI es25 79 18 (.int (zI v26)) → ∀ es28 : PH, es28 = sA es27 90 (Int.toNat 0) (zI 0) → ∀ es29 : PH, es29 = sA es28 90 (Int.toNat 1) (zI 0) → ∀ es30 : PH, es30 = sA es29 90 (Int.toNat 2) (zI 0) → ∀ es31 : PH, es31 = sA es30 90 (Int.toNat 3) (zI 0) → ∀ es32 : PH, es32 = sA es31 90 (Int.toNat 4) (zI 0) → ∀ es33 : PH, es33 = sA es32 90 (Int.toNat 5) (zI 0) → ∀ es34 : PH, es34 = sA es33 90 (Int.toNat 6) (zI 0) → ∀ es35 : PH, es35 = sA es34 90 (Int.toNat 7) (zI 0) → ∀ es36 : PH, es36 = sI es35 79 27 (.int (zI 0)) → ∀ es37 : PH, es37 = sI es36 79 29 (.int (zI 0)) → ∀ es38 : PH, es38 = sI es37 79 30 (.int (zI 1)) → ∀ es39 : PH, es39 = sI es38 79 35 (.int (zI 30)) → hOK tT es39 → aW O (d + 3) 263 kc ks Q (75, [some (.ref 143), some (.int (zI bk)), some (.int (zI 8))], [.int (zI 0), .ref 143], es39))
    (K4 : ∀ es1 : PH, es1 = sI es 79 0 (.int (zI 0)) → ∀ v2 : Int, v2 = (gA es1 80 (Int.toNat 1)).toInt → ¬ (bk < 0) → ¬ ((v2 - 1) < bk) → ∀ v7 : Int, v7 = (zI 1 <<< (zI v2 &&& 31)).toInt → ∀ es8 : PH, es8 = sI es1 79 18 (.int (zI (v7 - 1))) → ¬ (v2 ≤ 0) → ∀ v40 : Int, v40 = (gA es8 80 (Int.toNat 119)).toInt → ∀ es41 : PH, es41 = sA es8 89 (Int.toNat 0) (zI v40) → v2 ≤ 1 → ∀ v43 : Int, v43 = (gA es41 80 (Int.toNat 5)).toInt → ∀ es44 : PH, es44 = sA es41 90 (Int.toNat 0) (zI v43) → ∀ v45 : Int, v45 = (gA es44 80 (Int.toNat 6)).toInt → ∀ es46 : PH, es46 = sA es44 90 (Int.toNat 1) (zI v45) → ∀ v47 : Int, v47 = (gA es46 80 (Int.toNat 7)).toInt → ∀ es48 : PH, es48 = sA es46 90 (Int.toNat 2) (zI v47) → ∀ v49 : Int, v49 = (gA es48 80 (Int.toNat 8)).toInt → ∀ es50 : PH, es50 = sA es48 90 (Int.toNat 3) (zI v49) → ∀ v51 : Int, v51 = (gA es50 80 (Int.toNat 9)).toInt → ∀ es52 : PH, es52 = sA es50 90 (Int.toNat 4) (zI v51) → ∀ v53 : Int, v53 = (gA es52 80 (Int.toNat 10)).toInt → ∀ es54 : PH, es54 = sA es52 90 (Int.toNat 5) (zI v53) → ∀ v55 : Int, v55 = (gA es54 80 (Int.toNat 11)).toInt → ∀ es56 : PH, es56 = sA es54 90 (Int.toNat 6) (zI v55) → ∀ v57 : Int, v57 = (gA es56 80 (Int.toNat 12)).toInt → ∀ es58 : PH, es58 = sA es56 90 (Int.toNat 7) (zI v57) → ∀ v59 : Int, v59 = (zI 1 <<< (zI bk &&& 31)).toInt → ∀ es60 : PH, es60 = sI es58 79 18 (.int (zI v59)) → ∀ es61 : PH, es61 = sA es60 90 (Int.toNat 0) (zI 0) → ∀ es62 : PH, es62 = sA es61 90 (Int.toNat 1) (zI 0) → ∀ es63 : PH, es63 = sA es62 90 (Int.toNat 2) (zI 0) → ∀ es64 : PH, es64 = sA es63 90 (Int.toNat 3) (zI 0) → ∀ es65 : PH, es65 = sA es64 90 (Int.toNat 4) (zI 0) → ∀ es66 : PH, es66 = sA es65 90 (Int.toNat 5) (zI 0) → ∀ es67 : PH, es67 = sA es66 90 (Int.toNat 6) (zI 0) → ∀ es68 : PH, es68 = sA es67 90 (Int.toNat 7) (zI 0) → ∀ es69 : PH, es69 = sI es68 79 27 (.int (zI 0)) → ∀ es70 : PH, es70 = sI es69 79 29 (.int (zI 0)) → ∀ es71 : PH, es71 = sI es70 79 30 (.int (zI 1)) → ∀ es72 : PH, es72 = sI es71 79 35 (.int (zI 30)) → hOK tT es72 → aW O (d + 3) 263 kc ks Q (75, [some (.ref 143), some (.int (zI bk)), some (.int (zI 8))], [.int (zI 0), .ref 143], es72))
    (K5 : ∀ es1 : PH, es1 = sI es 79 0 (.int (zI 0)) → ∀ v2 : Int, v2 = (gA es1 80 (Int.toNat 1)).toInt → ¬ (bk < 0) → ¬ ((v2 - 1) < bk) → ∀ v7 : Int, v7 = (zI 1 <<< (zI v2 &&& 31)).toInt → ∀ es8 : PH, es8 = sI es1 79 18 (.int (zI (v7 - 1))) → ¬ (v2 ≤ 0) → ∀ v40 : Int, v40 = (gA es8 80 (Int.toNat 119)).toInt → ∀ es41 : PH, es41 = sA es8 89 (Int.toNat 0) (zI v40) → ¬ (v2 ≤ 1) → ∀ v73 : Int, v73 = (gA es41 80 (Int.toNat 217)).toInt → ∀ es74 : PH, es74 = sA es41 89 (Int.toNat 1) (zI v73) → v2 ≤ 2 → ∀ v76 : Int, v76 = (gA es74 80 (Int.toNat 5)).toInt → ∀ es77 : PH, es77 = sA es74 90 (Int.toNat 0) (zI v76) → ∀ v78 : Int, v78 = (gA es77 80 (Int.toNat 6)).toInt → ∀ es79 : PH, es79 = sA es77 90 (Int.toNat 1) (zI v78) → ∀ v80 : Int, v80 = (gA es79 80 (Int.toNat 7)).toInt → ∀ es81 : PH, es81 = sA es79 90 (Int.toNat 2) (zI v80) → ∀ v82 : Int, v82 = (gA es81 80 (Int.toNat 8)).toInt → ∀ es83 : PH, es83 = sA es81 90 (Int.toNat 3) (zI v82) → ∀ v84 : Int, v84 = (gA es83 80 (Int.toNat 9)).toInt → ∀ es85 : PH, es85 = sA es83 90 (Int.toNat 4) (zI v84) → ∀ v86 : Int, v86 = (gA es85 80 (Int.toNat 10)).toInt → ∀ es87 : PH, es87 = sA es85 90 (Int.toNat 5) (zI v86) → ∀ v88 : Int, v88 = (gA es87 80 (Int.toNat 11)).toInt → ∀ es89 : PH, es89 = sA es87 90 (Int.toNat 6) (zI v88) → ∀ v90 : Int, v90 = (gA es89 80 (Int.toNat 12)).toInt → ∀ es91 : PH, es91 = sA es89 90 (Int.toNat 7) (zI v90) → ∀ v92 : Int, v92 = (zI 1 <<< (zI bk &&& 31)).toInt → ∀ es93 : PH, es93 = sI es91 79 18 (.int (zI v92)) → ∀ es94 : PH, es94 = sA es93 90 (Int.toNat 0) (zI 0) → ∀ es95 : PH, es95 = sA es94 90 (Int.toNat 1) (zI 0) → ∀ es96 : PH, es96 = sA es95 90 (Int.toNat 2) (zI 0) → ∀ es97 : PH, es97 = sA es96 90 (Int.toNat 3) (zI 0) → ∀ es98 : PH, es98 = sA es97 90 (Int.toNat 4) (zI 0) → ∀ es99 : PH, es99 = sA es98 90 (Int.toNat 5) (zI 0) → ∀ es100 : PH, es100 = sA es99 90 (Int.toNat 6) (zI 0) → ∀ es101 : PH, es101 = sA es100 90 (Int.toNat 7) (zI 0) → ∀ es102 : PH, es102 = sI es101 79 27 (.int (zI 0)) → ∀ es103 : PH, es103 = sI es102 79 29 (.int (zI 0)) → ∀ es104 : PH, es104 = sI es103 79 30 (.int (zI 1)) → ∀ es105 : PH, es105 = sI es104 79 35 (.int (zI 30)) → hOK tT es105 → aW O (d + 3) 263 kc ks Q (75, [some (.ref 143), some (.int (zI bk)), some (.int (zI 8))], [.int (zI 0), .ref 143], es105))
    (K6 : ∀ es1 : PH, es1 = sI es 79 0 (.int (zI 0)) → ∀ v2 : Int, v2 = (gA es1 80 (Int.toNat 1)).toInt → ¬ (bk < 0) → ¬ ((v2 - 1) < bk) → ∀ v7 : Int, v7 = (zI 1 <<< (zI v2 &&& 31)).toInt → ∀ es8 : PH, es8 = sI es1 79 18 (.int (zI (v7 - 1))) → ¬ (v2 ≤ 0) → ∀ v40 : Int, v40 = (gA es8 80 (Int.toNat 119)).toInt → ∀ es41 : PH, es41 = sA es8 89 (Int.toNat 0) (zI v40) → ¬ (v2 ≤ 1) → ∀ v73 : Int, v73 = (gA es41 80 (Int.toNat 217)).toInt → ∀ es74 : PH, es74 = sA es41 89 (Int.toNat 1) (zI v73) → ¬ (v2 ≤ 2) → ∀ v106 : Int, v106 = (gA es74 80 (Int.toNat 315)).toInt → ∀ es107 : PH, es107 = sA es74 89 (Int.toNat 2) (zI v106) → ∀ v108 : Int, v108 = (gA es107 80 (Int.toNat 5)).toInt → ∀ es109 : PH, es109 = sA es107 90 (Int.toNat 0) (zI v108) → ∀ v110 : Int, v110 = (gA es109 80 (Int.toNat 6)).toInt → ∀ es111 : PH, es111 = sA es109 90 (Int.toNat 1) (zI v110) → ∀ v112 : Int, v112 = (gA es111 80 (Int.toNat 7)).toInt → ∀ es113 : PH, es113 = sA es111 90 (Int.toNat 2) (zI v112) → ∀ v114 : Int, v114 = (gA es113 80 (Int.toNat 8)).toInt → ∀ es115 : PH, es115 = sA es113 90 (Int.toNat 3) (zI v114) → ∀ v116 : Int, v116 = (gA es115 80 (Int.toNat 9)).toInt → ∀ es117 : PH, es117 = sA es115 90 (Int.toNat 4) (zI v116) → ∀ v118 : Int, v118 = (gA es117 80 (Int.toNat 10)).toInt → ∀ es119 : PH, es119 = sA es117 90 (Int.toNat 5) (zI v118) → ∀ v120 : Int, v120 = (gA es119 80 (Int.toNat 11)).toInt → ∀ es121 : PH, es121 = sA es119 90 (Int.toNat 6) (zI v120) → ∀ v122 : Int, v122 = (gA es121 80 (Int.toNat 12)).toInt → ∀ es123 : PH, es123 = sA es121 90 (Int.toNat 7) (zI v122) → ∀ v124 : Int, v124 = (zI 1 <<< (zI bk &&& 31)).toInt → ∀ es125 : PH, es125 = sI es123 79 18 (.int (zI v124)) → ∀ es126 : PH, es126 = sA es125 90 (Int.toNat 0) (zI 0) → ∀ es127 : PH, es127 = sA es126 90 (Int.toNat 1) (zI 0) → ∀ es128 : PH, es128 = sA es127 90 (Int.toNat 2) (zI 0) → ∀ es129 : PH, es129 = sA es128 90 (Int.toNat 3) (zI 0) → ∀ es130 : PH, es130 = sA es129 90 (Int.toNat 4) (zI 0) → ∀ es131 : PH, es131 = sA es130 90 (Int.toNat 5) (zI 0) → ∀ es132 : PH, es132 = sA es131 90 (Int.toNat 6) (zI 0) → ∀ es133 : PH, es133 = sA es132 90 (Int.toNat 7) (zI 0) → ∀ es134 : PH, es134 = sI es133 79 27 (.int (zI 0)) → ∀ es135 : PH, es135 = sI es134 79 29 (.int (zI 0)) → ∀ es136 : PH, es136 = sI es135 79 30 (.int (zI 1)) → ∀ es137 : PH, es137 = sI es136 79 35 (.int (zI 30)) → hOK tT es137 → aW O (d + 3) 263 kc ks Q (75, [some (.ref 143), some (.int (zI bk)), some (.int (zI 8))], [.int (zI 0), .ref 143], es137)) :
    aW O (d + 3) 263 kc ks Q (0, [some (.ref 143), some (.int (zI bk)), none], [], es) := by
  refine x0 (r := (1, [some (.ref 143), some (.int (zI bk)), none], [.ref 143], es)) i_263_0 rfl ?_
  refine x0 (r := (2, [some (.ref 143), some (.int (zI bk)), none], [.int (zI 0), .ref 143], es)) i_263_1 (by rfl) ?_
  refine x_puti (p := 79) (ty := .int) i_263_2 hs_es rfl rfl rfl (Or.inl rfl) ?_
  obtain ⟨es1, e_es1⟩ : ∃ z : PH, z = sI es 79 0 (.int (zI 0)) := ⟨_, rfl⟩
  have hs_es1 : sh es1 := by rw [e_es1]; exact sh_sI hs_es (p := 79) (b := 0) rfl rfl
  have hT_es1 : hOK tT es1 := by rw [e_es1]; exact hOK_sI hT_es (p := 79) (b := 0) (lo := iLO) (hi := iHI) rfl rfl (i32_rng _)
  rw [← e_es1]
  refine x0 (r := (6, [some (.ref 143), some (.int (zI bk)), none], [.ref 143], es1)) i_263_5 rfl ?_
  refine x0 (r := (7, [some (.ref 143), some (.int (zI bk)), none], [.ref 143, .ref 143], es1)) i_263_6 rfl ?_
  refine x0 (r := (8, [some (.ref 143), some (.int (zI bk)), none], [.int (zI bk), .ref 143, .ref 143], es1)) i_263_7 rfl ?_
  refine x_call (vs := [.ref 143, .int (zI bk)]) (rs := [.ref 143]) i_263_8 rfl (fun _ => rfl) rfl rfl rfl rfl rfl (pCall_v (p := 79) hs_es1 rfl rfl rfl rfl rfl (by decide) rfl rfl rfl rfl rfl) ?_
  show aW _ _ _ _ _ _ (0, [some (.ref 143), some (.int (zI bk))], [], es1)
  refine x0 (r := (1, [some (.ref 143), some (.int (zI bk))], [.ref 143], es1)) i_203_0 rfl ?_
  refine x0 (r := (2, [some (.ref 143), some (.int (zI bk))], [.int (zI bk), .ref 143], es1)) i_203_1 rfl ?_
  refine x0 (r := (3, [some (.ref 143), some (.int (zI bk))], [.int (zI 1), .int (zI bk), .ref 143], es1)) i_203_2 (by rfl) ?_
  refine x_call (vs := [.ref 143, .int (zI bk), .int (zI 1)]) (rs := []) i_203_3 rfl (fun _ => rfl) rfl rfl rfl rfl rfl (pCall_v (p := 79) hs_es1 rfl rfl rfl rfl rfl (by decide) rfl rfl rfl rfl rfl) ?_
  show aW _ _ _ _ _ _ (0, [some (.ref 143), some (.int (zI bk)), some (.int (zI 1))], [], es1)
  refine x0 (r := (1, [some (.ref 143), some (.int (zI bk)), some (.int (zI 1))], [.int (zI bk)], es1)) i_199_0 rfl ?_
  refine x0 (r := (2, [some (.ref 143), some (.int (zI bk)), some (.int (zI 1))], [.int (zI 0), .int (zI bk)], es1)) i_199_1 (by rfl) ?_
  refine x0 (r := (3, [some (.ref 143), some (.int (zI bk)), some (.int (zI 1))], [.ref 143, .int (zI 0), .int (zI bk)], es1)) i_199_2 rfl ?_
  refine x_getr (p := 79) (k := 144) i_199_3 hs_es1 rfl rfl ?_
  show aW _ _ _ _ _ _ (6, [some (.ref 143), some (.int (zI bk)), some (.int (zI 1))], [.ref 144, .int (zI 0), .int (zI bk)], es1)
  refine x0 (r := (7, [some (.ref 143), some (.int (zI bk)), some (.int (zI 1))], [.int (zI 1), .ref 144, .int (zI 0), .int (zI bk)], es1)) i_199_6 rfl ?_
  refine x_iald (p := 80) i_199_7 hs_es1 rfl (by unfold i32 iLO iHI; omega) (by omega) (by omega) ?_
  obtain ⟨v2, e_v2⟩ : ∃ z : Int, z = (gA es1 80 (Int.toNat 1)).toInt := ⟨_, rfl⟩
  rw [← e_v2]
  have r_v2 : iLO ≤ v2 ∧ v2 ≤ iHI := by rw [e_v2]; exact i32_rng _
  unfold iLO iHI at r_v2
  have b_v2 : (0 : Int) ≤ v2 ∧ v2 ≤ (3 : Int) := by rw [e_v2]; exact gA_bd hT_es1 (p := 80) (k := (Int.toNat 1)) rfl (by omega) (by decide)
  refine x0 (r := (9, [some (.ref 143), some (.int (zI bk)), some (.int (zI 1))], [.int (zI 1), .int (zI v2), .int (zI 0), .int (zI bk)], es1)) i_199_8 (by rfl) ?_
  refine x_isub i_199_9 ?_
  refine x_call (vs := [.int (zI bk), .int (zI 0), .int (zI (v2 - 1))]) (rs := []) i_199_10 rfl (fun _ => rfl) rfl rfl rfl rfl rfl rfl ?_
  show aW _ _ _ _ _ _ (0, [some (.int (zI bk)), some (.int (zI 0)), some (.int (zI (v2 - 1)))], [], es1)
  refine x0 (r := (1, [some (.int (zI bk)), some (.int (zI 0)), some (.int (zI (v2 - 1)))], [.int (zI bk)], es1)) i_193_0 rfl ?_
  refine x0 (r := (2, [some (.int (zI bk)), some (.int (zI 0)), some (.int (zI (v2 - 1)))], [.int (zI 0), .int (zI bk)], es1)) i_193_1 rfl ?_
  by_cases c3 : bk < 0
  · refine x_cmpT i_193_2 (by unfold i32 iLO iHI; omega) (by unfold i32 iLO iHI; omega) rfl (by simp only [zC, cR]; omega) ?_
    refine x0 (r := (15, [some (.int (zI bk)), some (.int (zI 0)), some (.int (zI (v2 - 1)))], [.int (zI 0)], es1)) i_193_14 (by rfl) ?_
    refine x_ret (v := some (.int (zI 0))) i_193_15 rfl (fun _ => rfl) rfl rfl (pFin_b (by omega)) ?_
    show aW _ _ _ _ _ _ (13, [some (.ref 143), some (.int (zI bk)), some (.int (zI 1))], [.int (zI 0)], es1)
    refine x_ifF i_199_13 (by unfold i32 iLO iHI; omega) rfl (by simp only [zC, cR]; omega) ?_
    refine x0 (r := (17, [some (.ref 143), some (.int (zI bk)), some (.int (zI 1))], [.int (zI 1)], es1)) i_199_16 (by rfl) ?_
    refine x0 (r := (21, [some (.ref 143), some (.int (zI bk)), some (.int (zI 1))], [.int (zI 1)], es1)) i_199_17 rfl ?_
    refine x_ret (v := some (.int (zI 1))) i_199_21 rfl (fun _ => rfl) rfl rfl (pFin_b (by omega)) ?_
    show aW _ _ _ _ _ _ (6, [some (.ref 143), some (.int (zI bk))], [.int (zI 1)], es1)
    refine x_ret (v := some (.int (zI 1))) i_203_6 rfl (fun _ => rfl) rfl rfl (pFin_b (by omega)) ?_
    show aW _ _ _ _ _ _ (11, [some (.ref 143), some (.int (zI bk)), none], [.int (zI 1), .ref 143], es1)
    refine x0 (r := (12, [some (.ref 143), some (.int (zI bk)), none], [.int (zI 1), .int (zI 1), .ref 143], es1)) i_263_11 (by rfl) ?_
    refine x_call (vs := [.ref 143, .int (zI 1), .int (zI 1)]) (rs := []) i_263_12 rfl (fun _ => rfl) rfl rfl rfl rfl rfl (pCall_v (p := 79) hs_es1 rfl rfl rfl rfl rfl (by decide) rfl rfl rfl rfl rfl) ?_
    show aW _ _ _ _ _ _ (0, [some (.ref 143), some (.int (zI 1)), some (.int (zI 1))], [], es1)
    refine x0 (r := (1, [some (.ref 143), some (.int (zI 1)), some (.int (zI 1))], [.int (zI 1)], es1)) i_194_0 rfl ?_
    refine x_ifF i_194_1 (by unfold i32 iLO iHI; omega) rfl (by simp only [zC, cR]; omega) ?_
    refine x0 (r := (5, [some (.ref 143), some (.int (zI 1)), some (.int (zI 1))], [.ref 143], es1)) i_194_4 rfl ?_
    refine x0 (r := (6, [some (.ref 143), some (.int (zI 1)), some (.int (zI 1))], [.int (zI 1), .ref 143], es1)) i_194_5 rfl ?_
    refine x_puti (p := 79) (ty := .int) i_194_6 hs_es1 rfl rfl rfl (Or.inl rfl) ?_
    obtain ⟨es4, e_es4⟩ : ∃ z : PH, z = sI es1 79 0 (.int (zI 1)) := ⟨_, rfl⟩
    have hs_es4 : sh es4 := by rw [e_es4]; exact sh_sI hs_es1 (p := 79) (b := 0) rfl rfl
    have hT_es4 : hOK tT es4 := by rw [e_es4]; exact hOK_sI hT_es1 (p := 79) (b := 0) (lo := iLO) (hi := iHI) rfl rfl (i32_rng _)
    rw [← e_es4]
    refine x0 (r := (10, [some (.ref 143), some (.int (zI 1)), some (.int (zI 1))], [.int (zI 1)], es4)) i_194_9 rfl ?_
    refine x_ret (v := some (.int (zI 1))) i_194_10 rfl (fun _ => rfl) rfl rfl (pFin_b (by omega)) ?_
    show aW _ _ _ _ _ _ (15, [some (.ref 143), some (.int (zI bk)), none], [.int (zI 1)], es4)
    refine x_ifF i_263_15 (by unfold i32 iLO iHI; omega) rfl (by simp only [zC, cR]; omega) ?_
    refine x0 (r := (19, [some (.ref 143), some (.int (zI bk)), none], [.int (zI 0)], es4)) i_263_18 (by rfl) ?_
    refine x_ret (v := some (.int (zI 0))) i_263_19 rfl (fun _ => rfl) rfl rfl rfl ?_
    exact K1 es1 e_es1 v2 e_v2 c3 es4 e_es4 hT_es4
  · refine x_cmpF i_193_2 (by unfold i32 iLO iHI; omega) (by unfold i32 iLO iHI; omega) rfl (by simp only [zC, cR]; omega) ?_
    refine x0 (r := (6, [some (.int (zI bk)), some (.int (zI 0)), some (.int (zI (v2 - 1)))], [.int (zI bk)], es1)) i_193_5 rfl ?_
    refine x0 (r := (7, [some (.int (zI bk)), some (.int (zI 0)), some (.int (zI (v2 - 1)))], [.int (zI (v2 - 1)), .int (zI bk)], es1)) i_193_6 rfl ?_
    by_cases c5 : (v2 - 1) < bk
    · refine x_cmpT i_193_7 (by unfold i32 iLO iHI; omega) (by unfold i32 iLO iHI; omega) rfl (by simp only [zC, cR]; omega) ?_
      refine x0 (r := (15, [some (.int (zI bk)), some (.int (zI 0)), some (.int (zI (v2 - 1)))], [.int (zI 0)], es1)) i_193_14 (by rfl) ?_
      refine x_ret (v := some (.int (zI 0))) i_193_15 rfl (fun _ => rfl) rfl rfl (pFin_b (by omega)) ?_
      show aW _ _ _ _ _ _ (13, [some (.ref 143), some (.int (zI bk)), some (.int (zI 1))], [.int (zI 0)], es1)
      refine x_ifF i_199_13 (by unfold i32 iLO iHI; omega) rfl (by simp only [zC, cR]; omega) ?_
      refine x0 (r := (17, [some (.ref 143), some (.int (zI bk)), some (.int (zI 1))], [.int (zI 1)], es1)) i_199_16 (by rfl) ?_
      refine x0 (r := (21, [some (.ref 143), some (.int (zI bk)), some (.int (zI 1))], [.int (zI 1)], es1)) i_199_17 rfl ?_
      refine x_ret (v := some (.int (zI 1))) i_199_21 rfl (fun _ => rfl) rfl rfl (pFin_b (by omega)) ?_
      show aW _ _ _ _ _ _ (6, [some (.ref 143), some (.int (zI bk))], [.int (zI 1)], es1)
      refine x_ret (v := some (.int (zI 1))) i_203_6 rfl (fun _ => rfl) rfl rfl (pFin_b (by omega)) ?_
      show aW _ _ _ _ _ _ (11, [some (.ref 143), some (.int (zI bk)), none], [.int (zI 1), .ref 143], es1)
      refine x0 (r := (12, [some (.ref 143), some (.int (zI bk)), none], [.int (zI 1), .int (zI 1), .ref 143], es1)) i_263_11 (by rfl) ?_
      refine x_call (vs := [.ref 143, .int (zI 1), .int (zI 1)]) (rs := []) i_263_12 rfl (fun _ => rfl) rfl rfl rfl rfl rfl (pCall_v (p := 79) hs_es1 rfl rfl rfl rfl rfl (by decide) rfl rfl rfl rfl rfl) ?_
      show aW _ _ _ _ _ _ (0, [some (.ref 143), some (.int (zI 1)), some (.int (zI 1))], [], es1)
      refine x0 (r := (1, [some (.ref 143), some (.int (zI 1)), some (.int (zI 1))], [.int (zI 1)], es1)) i_194_0 rfl ?_
      refine x_ifF i_194_1 (by unfold i32 iLO iHI; omega) rfl (by simp only [zC, cR]; omega) ?_
      refine x0 (r := (5, [some (.ref 143), some (.int (zI 1)), some (.int (zI 1))], [.ref 143], es1)) i_194_4 rfl ?_
      refine x0 (r := (6, [some (.ref 143), some (.int (zI 1)), some (.int (zI 1))], [.int (zI 1), .ref 143], es1)) i_194_5 rfl ?_
      refine x_puti (p := 79) (ty := .int) i_194_6 hs_es1 rfl rfl rfl (Or.inl rfl) ?_
      obtain ⟨es6, e_es6⟩ : ∃ z : PH, z = sI es1 79 0 (.int (zI 1)) := ⟨_, rfl⟩
      have hs_es6 : sh es6 := by rw [e_es6]; exact sh_sI hs_es1 (p := 79) (b := 0) rfl rfl
      have hT_es6 : hOK tT es6 := by rw [e_es6]; exact hOK_sI hT_es1 (p := 79) (b := 0) (lo := iLO) (hi := iHI) rfl rfl (i32_rng _)
      rw [← e_es6]
      refine x0 (r := (10, [some (.ref 143), some (.int (zI 1)), some (.int (zI 1))], [.int (zI 1)], es6)) i_194_9 rfl ?_
      refine x_ret (v := some (.int (zI 1))) i_194_10 rfl (fun _ => rfl) rfl rfl (pFin_b (by omega)) ?_
      show aW _ _ _ _ _ _ (15, [some (.ref 143), some (.int (zI bk)), none], [.int (zI 1)], es6)
      refine x_ifF i_263_15 (by unfold i32 iLO iHI; omega) rfl (by simp only [zC, cR]; omega) ?_
      refine x0 (r := (19, [some (.ref 143), some (.int (zI bk)), none], [.int (zI 0)], es6)) i_263_18 (by rfl) ?_
      refine x_ret (v := some (.int (zI 0))) i_263_19 rfl (fun _ => rfl) rfl rfl rfl ?_
      exact K2 es1 e_es1 v2 e_v2 c3 c5 es6 e_es6 hT_es6
    · refine x_cmpF i_193_7 (by unfold i32 iLO iHI; omega) (by unfold i32 iLO iHI; omega) rfl (by simp only [zC, cR]; omega) ?_
      refine x0 (r := (11, [some (.int (zI bk)), some (.int (zI 0)), some (.int (zI (v2 - 1)))], [.int (zI 1)], es1)) i_193_10 (by rfl) ?_
      refine x0 (r := (15, [some (.int (zI bk)), some (.int (zI 0)), some (.int (zI (v2 - 1)))], [.int (zI 1)], es1)) i_193_11 rfl ?_
      refine x_ret (v := some (.int (zI 1))) i_193_15 rfl (fun _ => rfl) rfl rfl (pFin_b (by omega)) ?_
      show aW _ _ _ _ _ _ (13, [some (.ref 143), some (.int (zI bk)), some (.int (zI 1))], [.int (zI 1)], es1)
      refine x_ifT i_199_13 (by unfold i32 iLO iHI; omega) rfl (by simp only [zC, cR]; omega) ?_
      refine x0 (r := (21, [some (.ref 143), some (.int (zI bk)), some (.int (zI 1))], [.int (zI 0)], es1)) i_199_20 (by rfl) ?_
      refine x_ret (v := some (.int (zI 0))) i_199_21 rfl (fun _ => rfl) rfl rfl (pFin_b (by omega)) ?_
      show aW _ _ _ _ _ _ (6, [some (.ref 143), some (.int (zI bk))], [.int (zI 0)], es1)
      refine x_ret (v := some (.int (zI 0))) i_203_6 rfl (fun _ => rfl) rfl rfl (pFin_b (by omega)) ?_
      show aW _ _ _ _ _ _ (11, [some (.ref 143), some (.int (zI bk)), none], [.int (zI 0), .ref 143], es1)
      refine x0 (r := (12, [some (.ref 143), some (.int (zI bk)), none], [.int (zI 1), .int (zI 0), .ref 143], es1)) i_263_11 (by rfl) ?_
      refine x_call (vs := [.ref 143, .int (zI 0), .int (zI 1)]) (rs := []) i_263_12 rfl (fun _ => rfl) rfl rfl rfl rfl rfl (pCall_v (p := 79) hs_es1 rfl rfl rfl rfl rfl (by decide) rfl rfl rfl rfl rfl) ?_
      show aW _ _ _ _ _ _ (0, [some (.ref 143), some (.int (zI 0)), some (.int (zI 1))], [], es1)
      refine x0 (r := (1, [some (.ref 143), some (.int (zI 0)), some (.int (zI 1))], [.int (zI 0)], es1)) i_194_0 rfl ?_
      refine x_ifT i_194_1 (by unfold i32 iLO iHI; omega) rfl (by simp only [zC, cR]; omega) ?_
      refine x0 (r := (10, [some (.ref 143), some (.int (zI 0)), some (.int (zI 1))], [.int (zI 0)], es1)) i_194_9 rfl ?_
      refine x_ret (v := some (.int (zI 0))) i_194_10 rfl (fun _ => rfl) rfl rfl (pFin_b (by omega)) ?_
      show aW _ _ _ _ _ _ (15, [some (.ref 143), some (.int (zI bk)), none], [.int (zI 0)], es1)
      refine x_ifT i_263_15 (by unfold i32 iLO iHI; omega) rfl (by simp only [zC, cR]; omega) ?_
      refine x0 (r := (21, [some (.ref 143), some (.int (zI bk)), none], [.ref 143], es1)) i_263_20 rfl ?_
      refine x_call (vs := [.ref 143]) (rs := []) i_263_21 rfl (fun _ => rfl) rfl rfl rfl rfl rfl (pCall_v (p := 79) hs_es1 rfl rfl rfl rfl rfl (by decide) rfl rfl rfl rfl rfl) ?_
      show aW _ _ _ _ _ _ (0, [some (.ref 143), none], [], es1)
      refine x0 (r := (1, [some (.ref 143), none], [.ref 143], es1)) i_231_0 rfl ?_
      refine x0 (r := (2, [some (.ref 143), none], [.int (zI 1), .ref 143], es1)) i_231_1 (by rfl) ?_
      refine x0 (r := (3, [some (.ref 143), none], [.ref 143, .int (zI 1), .ref 143], es1)) i_231_2 rfl ?_
      refine x_getr (p := 79) (k := 144) i_231_3 hs_es1 rfl rfl ?_
      show aW _ _ _ _ _ _ (6, [some (.ref 143), none], [.ref 144, .int (zI 1), .ref 143], es1)
      refine x0 (r := (7, [some (.ref 143), none], [.int (zI 1), .ref 144, .int (zI 1), .ref 143], es1)) i_231_6 (by rfl) ?_
      refine x_iald (p := 80) i_231_7 hs_es1 rfl (by unfold i32 iLO iHI; omega) (by omega) (by omega) ?_
      rw [show (gA es1 80 (Int.toNat 1)).toInt = v2 from e_v2.symm]
      refine x_op i_231_8 (w := (zI 1 <<< (zI v2 &&& 31))) rfl rfl ?_
      obtain ⟨v7, e_v7⟩ : ∃ z : Int, z = (zI 1 <<< (zI v2 &&& 31)).toInt := ⟨_, rfl⟩
      rw [← e_v7]
      have r_v7 : iLO ≤ v7 ∧ v7 ≤ iHI := by rw [e_v7]; exact i32_rng _
      unfold iLO iHI at r_v7
      refine x0 (r := (10, [some (.ref 143), none], [.int (zI 1), .int (zI v7), .ref 143], es1)) i_231_9 (by rfl) ?_
      refine x_isub i_231_10 ?_
      refine x_puti (p := 79) (ty := .int) i_231_11 hs_es1 rfl rfl rfl (Or.inl rfl) ?_
      obtain ⟨es8, e_es8⟩ : ∃ z : PH, z = sI es1 79 18 (.int (zI (v7 - 1))) := ⟨_, rfl⟩
      have hs_es8 : sh es8 := by rw [e_es8]; exact sh_sI hs_es1 (p := 79) (b := 18) rfl rfl
      have hT_es8 : hOK tT es8 := by rw [e_es8]; exact hOK_sI hT_es1 (p := 79) (b := 18) (lo := iLO) (hi := iHI) rfl rfl (i32_rng _)
      rw [← e_es8]
      refine x0 (r := (15, [some (.ref 143), none], [.int (zI 0)], es8)) i_231_14 (by rfl) ?_
      refine x0 (r := (16, [some (.ref 143), some (.int (zI 0))], [], es8)) i_231_15 rfl ?_
      refine x0 (r := (17, [some (.ref 143), some (.int (zI 0))], [.int (zI 0)], es8)) i_231_16 rfl ?_
      refine x0 (r := (18, [some (.ref 143), some (.int (zI 0))], [.ref 143, .int (zI 0)], es8)) i_231_17 rfl ?_
      refine x_getr (p := 79) (k := 144) i_231_18 hs_es8 rfl rfl ?_
      show aW _ _ _ _ _ _ (21, [some (.ref 143), some (.int (zI 0))], [.ref 144, .int (zI 0)], es8)
      refine x0 (r := (22, [some (.ref 143), some (.int (zI 0))], [.int (zI 1), .ref 144, .int (zI 0)], es8)) i_231_21 (by rfl) ?_
      refine x_iald (p := 80) i_231_22 hs_es8 rfl (by unfold i32 iLO iHI; omega) (by omega) (by omega) ?_
      rw [show (gA es8 80 (Int.toNat 1)).toInt = v2 from by rw [e_es8, gA_sI]; exact e_v2.symm]
      by_cases c9 : v2 ≤ 0
      · refine x_cmpT i_231_23 (by unfold i32 iLO iHI; omega) (by unfold i32 iLO iHI; omega) rfl (by simp only [zC, cR]; omega) ?_
        refine x0 (r := (45, [some (.ref 143), some (.int (zI 0))], [.int (zI 0)], es8)) i_231_44 (by rfl) ?_
        refine x0 (r := (46, [some (.ref 143), some (.int (zI 0))], [], es8)) i_231_45 rfl ?_
        refine x0 (r := (47, [some (.ref 143), some (.int (zI 0))], [.int (zI 0)], es8)) i_231_46 rfl ?_
        refine x0 (r := (49, [some (.ref 143), some (.int (zI 0))], [.int (zI 8), .int (zI 0)], es8)) i_231_47 (by rfl) ?_
        refine x_cmpF i_231_49 (by unfold i32 iLO iHI; omega) (by unfold i32 iLO iHI; omega) rfl (by simp only [zC, cR]; omega) ?_
        refine x0 (r := (53, [some (.ref 143), some (.int (zI 0))], [.ref 143], es8)) i_231_52 rfl ?_
        refine x_getr (p := 79) (k := 154) i_231_53 hs_es8 rfl rfl ?_
        show aW _ _ _ _ _ _ (56, [some (.ref 143), some (.int (zI 0))], [.ref 154], es8)
        refine x0 (r := (57, [some (.ref 143), some (.int (zI 0))], [.int (zI 0), .ref 154], es8)) i_231_56 rfl ?_
        refine x0 (r := (58, [some (.ref 143), some (.int (zI 0))], [.ref 143, .int (zI 0), .ref 154], es8)) i_231_57 rfl ?_
        refine x_getr (p := 79) (k := 144) i_231_58 hs_es8 rfl rfl ?_
        show aW _ _ _ _ _ _ (61, [some (.ref 143), some (.int (zI 0))], [.ref 144, .int (zI 0), .ref 154], es8)
        refine x0 (r := (62, [some (.ref 143), some (.int (zI 0))], [.int (zI 5), .ref 144, .int (zI 0), .ref 154], es8)) i_231_61 (by rfl) ?_
        refine x0 (r := (63, [some (.ref 143), some (.int (zI 0))], [.int (zI 0), .int (zI 5), .ref 144, .int (zI 0), .ref 154], es8)) i_231_62 rfl ?_
        refine x_iadd i_231_63 ?_
        show aW _ _ _ _ _ _ (64, [some (.ref 143), some (.int (zI 0))], [.int (zI 5), .ref 144, .int (zI 0), .ref 154], es8)
        refine x_iald (p := 80) i_231_64 hs_es8 rfl (by unfold i32 iLO iHI; omega) (by omega) (by omega) ?_
        obtain ⟨v10, e_v10⟩ : ∃ z : Int, z = (gA es8 80 (Int.toNat 5)).toInt := ⟨_, rfl⟩
        rw [← e_v10]
        have r_v10 : iLO ≤ v10 ∧ v10 ≤ iHI := by rw [e_v10]; exact i32_rng _
        unfold iLO iHI at r_v10
        have b_v10 : (0 : Int) ≤ v10 ∧ v10 ≤ (9 : Int) := by rw [e_v10]; exact gA_bd hT_es8 (p := 80) (k := (Int.toNat 5)) rfl (by omega) (by decide)
        refine x_iast (p := 90) i_231_65 hs_es8 rfl (by unfold i32 iLO iHI; omega) (by omega) (by omega) ?_
        obtain ⟨es11, e_es11⟩ : ∃ z : PH, z = sA es8 90 (Int.toNat 0) (zI v10) := ⟨_, rfl⟩
        have hs_es11 : sh es11 := by rw [e_es11]; exact sh_sA hs_es8
        have hT_es11 : hOK tT es11 := by rw [e_es11]; exact hOK_sA hT_es8 (p := 90) (n := 8) rfl (fun _ => by rw [zI_toInt (by unfold i32 iLO iHI; omega)]; exact ⟨by show (0 : Int) ≤ v10; omega, by show v10 ≤ (9 : Int); omega⟩)
        rw [← e_es11]
        refine x_iinc (x := 0) i_231_66 rfl (by show 1 < 2; decide) ?_
        show aW _ _ _ _ _ _ (69, [some (.ref 143), some (.int (zI 1))], [], es11)
        refine x0 (r := (46, [some (.ref 143), some (.int (zI 1))], [], es11)) i_231_69 rfl ?_
        refine x0 (r := (47, [some (.ref 143), some (.int (zI 1))], [.int (zI 1)], es11)) i_231_46 rfl ?_
        refine x0 (r := (49, [some (.ref 143), some (.int (zI 1))], [.int (zI 8), .int (zI 1)], es11)) i_231_47 (by rfl) ?_
        refine x_cmpF i_231_49 (by unfold i32 iLO iHI; omega) (by unfold i32 iLO iHI; omega) rfl (by simp only [zC, cR]; omega) ?_
        refine x0 (r := (53, [some (.ref 143), some (.int (zI 1))], [.ref 143], es11)) i_231_52 rfl ?_
        refine x_getr (p := 79) (k := 154) i_231_53 hs_es11 rfl rfl ?_
        show aW _ _ _ _ _ _ (56, [some (.ref 143), some (.int (zI 1))], [.ref 154], es11)
        refine x0 (r := (57, [some (.ref 143), some (.int (zI 1))], [.int (zI 1), .ref 154], es11)) i_231_56 rfl ?_
        refine x0 (r := (58, [some (.ref 143), some (.int (zI 1))], [.ref 143, .int (zI 1), .ref 154], es11)) i_231_57 rfl ?_
        refine x_getr (p := 79) (k := 144) i_231_58 hs_es11 rfl rfl ?_
        show aW _ _ _ _ _ _ (61, [some (.ref 143), some (.int (zI 1))], [.ref 144, .int (zI 1), .ref 154], es11)
        refine x0 (r := (62, [some (.ref 143), some (.int (zI 1))], [.int (zI 5), .ref 144, .int (zI 1), .ref 154], es11)) i_231_61 (by rfl) ?_
        refine x0 (r := (63, [some (.ref 143), some (.int (zI 1))], [.int (zI 1), .int (zI 5), .ref 144, .int (zI 1), .ref 154], es11)) i_231_62 rfl ?_
        refine x_iadd i_231_63 ?_
        show aW _ _ _ _ _ _ (64, [some (.ref 143), some (.int (zI 1))], [.int (zI 6), .ref 144, .int (zI 1), .ref 154], es11)
        refine x_iald (p := 80) i_231_64 hs_es11 rfl (by unfold i32 iLO iHI; omega) (by omega) (by omega) ?_
        obtain ⟨v12, e_v12⟩ : ∃ z : Int, z = (gA es11 80 (Int.toNat 6)).toInt := ⟨_, rfl⟩
        rw [← e_v12]
        have r_v12 : iLO ≤ v12 ∧ v12 ≤ iHI := by rw [e_v12]; exact i32_rng _
        unfold iLO iHI at r_v12
        have b_v12 : (0 : Int) ≤ v12 ∧ v12 ≤ (9 : Int) := by rw [e_v12]; exact gA_bd hT_es11 (p := 80) (k := (Int.toNat 6)) rfl (by omega) (by decide)
        refine x_iast (p := 90) i_231_65 hs_es11 rfl (by unfold i32 iLO iHI; omega) (by omega) (by omega) ?_
        obtain ⟨es13, e_es13⟩ : ∃ z : PH, z = sA es11 90 (Int.toNat 1) (zI v12) := ⟨_, rfl⟩
        have hs_es13 : sh es13 := by rw [e_es13]; exact sh_sA hs_es11
        have hT_es13 : hOK tT es13 := by rw [e_es13]; exact hOK_sA hT_es11 (p := 90) (n := 8) rfl (fun _ => by rw [zI_toInt (by unfold i32 iLO iHI; omega)]; exact ⟨by show (0 : Int) ≤ v12; omega, by show v12 ≤ (9 : Int); omega⟩)
        rw [← e_es13]
        refine x_iinc (x := 1) i_231_66 rfl (by show 1 < 2; decide) ?_
        show aW _ _ _ _ _ _ (69, [some (.ref 143), some (.int (zI 2))], [], es13)
        refine x0 (r := (46, [some (.ref 143), some (.int (zI 2))], [], es13)) i_231_69 rfl ?_
        refine x0 (r := (47, [some (.ref 143), some (.int (zI 2))], [.int (zI 2)], es13)) i_231_46 rfl ?_
        refine x0 (r := (49, [some (.ref 143), some (.int (zI 2))], [.int (zI 8), .int (zI 2)], es13)) i_231_47 (by rfl) ?_
        refine x_cmpF i_231_49 (by unfold i32 iLO iHI; omega) (by unfold i32 iLO iHI; omega) rfl (by simp only [zC, cR]; omega) ?_
        refine x0 (r := (53, [some (.ref 143), some (.int (zI 2))], [.ref 143], es13)) i_231_52 rfl ?_
        refine x_getr (p := 79) (k := 154) i_231_53 hs_es13 rfl rfl ?_
        show aW _ _ _ _ _ _ (56, [some (.ref 143), some (.int (zI 2))], [.ref 154], es13)
        refine x0 (r := (57, [some (.ref 143), some (.int (zI 2))], [.int (zI 2), .ref 154], es13)) i_231_56 rfl ?_
        refine x0 (r := (58, [some (.ref 143), some (.int (zI 2))], [.ref 143, .int (zI 2), .ref 154], es13)) i_231_57 rfl ?_
        refine x_getr (p := 79) (k := 144) i_231_58 hs_es13 rfl rfl ?_
        show aW _ _ _ _ _ _ (61, [some (.ref 143), some (.int (zI 2))], [.ref 144, .int (zI 2), .ref 154], es13)
        refine x0 (r := (62, [some (.ref 143), some (.int (zI 2))], [.int (zI 5), .ref 144, .int (zI 2), .ref 154], es13)) i_231_61 (by rfl) ?_
        refine x0 (r := (63, [some (.ref 143), some (.int (zI 2))], [.int (zI 2), .int (zI 5), .ref 144, .int (zI 2), .ref 154], es13)) i_231_62 rfl ?_
        refine x_iadd i_231_63 ?_
        show aW _ _ _ _ _ _ (64, [some (.ref 143), some (.int (zI 2))], [.int (zI 7), .ref 144, .int (zI 2), .ref 154], es13)
        refine x_iald (p := 80) i_231_64 hs_es13 rfl (by unfold i32 iLO iHI; omega) (by omega) (by omega) ?_
        obtain ⟨v14, e_v14⟩ : ∃ z : Int, z = (gA es13 80 (Int.toNat 7)).toInt := ⟨_, rfl⟩
        rw [← e_v14]
        have r_v14 : iLO ≤ v14 ∧ v14 ≤ iHI := by rw [e_v14]; exact i32_rng _
        unfold iLO iHI at r_v14
        have b_v14 : (0 : Int) ≤ v14 ∧ v14 ≤ (9 : Int) := by rw [e_v14]; exact gA_bd hT_es13 (p := 80) (k := (Int.toNat 7)) rfl (by omega) (by decide)
        refine x_iast (p := 90) i_231_65 hs_es13 rfl (by unfold i32 iLO iHI; omega) (by omega) (by omega) ?_
        obtain ⟨es15, e_es15⟩ : ∃ z : PH, z = sA es13 90 (Int.toNat 2) (zI v14) := ⟨_, rfl⟩
        have hs_es15 : sh es15 := by rw [e_es15]; exact sh_sA hs_es13
        have hT_es15 : hOK tT es15 := by rw [e_es15]; exact hOK_sA hT_es13 (p := 90) (n := 8) rfl (fun _ => by rw [zI_toInt (by unfold i32 iLO iHI; omega)]; exact ⟨by show (0 : Int) ≤ v14; omega, by show v14 ≤ (9 : Int); omega⟩)
        rw [← e_es15]
        refine x_iinc (x := 2) i_231_66 rfl (by show 1 < 2; decide) ?_
        show aW _ _ _ _ _ _ (69, [some (.ref 143), some (.int (zI 3))], [], es15)
        refine x0 (r := (46, [some (.ref 143), some (.int (zI 3))], [], es15)) i_231_69 rfl ?_
        refine x0 (r := (47, [some (.ref 143), some (.int (zI 3))], [.int (zI 3)], es15)) i_231_46 rfl ?_
        refine x0 (r := (49, [some (.ref 143), some (.int (zI 3))], [.int (zI 8), .int (zI 3)], es15)) i_231_47 (by rfl) ?_
        refine x_cmpF i_231_49 (by unfold i32 iLO iHI; omega) (by unfold i32 iLO iHI; omega) rfl (by simp only [zC, cR]; omega) ?_
        refine x0 (r := (53, [some (.ref 143), some (.int (zI 3))], [.ref 143], es15)) i_231_52 rfl ?_
        refine x_getr (p := 79) (k := 154) i_231_53 hs_es15 rfl rfl ?_
        show aW _ _ _ _ _ _ (56, [some (.ref 143), some (.int (zI 3))], [.ref 154], es15)
        refine x0 (r := (57, [some (.ref 143), some (.int (zI 3))], [.int (zI 3), .ref 154], es15)) i_231_56 rfl ?_
        refine x0 (r := (58, [some (.ref 143), some (.int (zI 3))], [.ref 143, .int (zI 3), .ref 154], es15)) i_231_57 rfl ?_
        refine x_getr (p := 79) (k := 144) i_231_58 hs_es15 rfl rfl ?_
        show aW _ _ _ _ _ _ (61, [some (.ref 143), some (.int (zI 3))], [.ref 144, .int (zI 3), .ref 154], es15)
        refine x0 (r := (62, [some (.ref 143), some (.int (zI 3))], [.int (zI 5), .ref 144, .int (zI 3), .ref 154], es15)) i_231_61 (by rfl) ?_
        refine x0 (r := (63, [some (.ref 143), some (.int (zI 3))], [.int (zI 3), .int (zI 5), .ref 144, .int (zI 3), .ref 154], es15)) i_231_62 rfl ?_
        refine x_iadd i_231_63 ?_
        show aW _ _ _ _ _ _ (64, [some (.ref 143), some (.int (zI 3))], [.int (zI 8), .ref 144, .int (zI 3), .ref 154], es15)
        refine x_iald (p := 80) i_231_64 hs_es15 rfl (by unfold i32 iLO iHI; omega) (by omega) (by omega) ?_
        obtain ⟨v16, e_v16⟩ : ∃ z : Int, z = (gA es15 80 (Int.toNat 8)).toInt := ⟨_, rfl⟩
        rw [← e_v16]
        have r_v16 : iLO ≤ v16 ∧ v16 ≤ iHI := by rw [e_v16]; exact i32_rng _
        unfold iLO iHI at r_v16
        have b_v16 : (0 : Int) ≤ v16 ∧ v16 ≤ (9 : Int) := by rw [e_v16]; exact gA_bd hT_es15 (p := 80) (k := (Int.toNat 8)) rfl (by omega) (by decide)
        refine x_iast (p := 90) i_231_65 hs_es15 rfl (by unfold i32 iLO iHI; omega) (by omega) (by omega) ?_
        obtain ⟨es17, e_es17⟩ : ∃ z : PH, z = sA es15 90 (Int.toNat 3) (zI v16) := ⟨_, rfl⟩
        have hs_es17 : sh es17 := by rw [e_es17]; exact sh_sA hs_es15
        have hT_es17 : hOK tT es17 := by rw [e_es17]; exact hOK_sA hT_es15 (p := 90) (n := 8) rfl (fun _ => by rw [zI_toInt (by unfold i32 iLO iHI; omega)]; exact ⟨by show (0 : Int) ≤ v16; omega, by show v16 ≤ (9 : Int); omega⟩)
        rw [← e_es17]
        refine x_iinc (x := 3) i_231_66 rfl (by show 1 < 2; decide) ?_
        show aW _ _ _ _ _ _ (69, [some (.ref 143), some (.int (zI 4))], [], es17)
        refine x0 (r := (46, [some (.ref 143), some (.int (zI 4))], [], es17)) i_231_69 rfl ?_
        refine x0 (r := (47, [some (.ref 143), some (.int (zI 4))], [.int (zI 4)], es17)) i_231_46 rfl ?_
        refine x0 (r := (49, [some (.ref 143), some (.int (zI 4))], [.int (zI 8), .int (zI 4)], es17)) i_231_47 (by rfl) ?_
        refine x_cmpF i_231_49 (by unfold i32 iLO iHI; omega) (by unfold i32 iLO iHI; omega) rfl (by simp only [zC, cR]; omega) ?_
        refine x0 (r := (53, [some (.ref 143), some (.int (zI 4))], [.ref 143], es17)) i_231_52 rfl ?_
        refine x_getr (p := 79) (k := 154) i_231_53 hs_es17 rfl rfl ?_
        show aW _ _ _ _ _ _ (56, [some (.ref 143), some (.int (zI 4))], [.ref 154], es17)
        refine x0 (r := (57, [some (.ref 143), some (.int (zI 4))], [.int (zI 4), .ref 154], es17)) i_231_56 rfl ?_
        refine x0 (r := (58, [some (.ref 143), some (.int (zI 4))], [.ref 143, .int (zI 4), .ref 154], es17)) i_231_57 rfl ?_
        refine x_getr (p := 79) (k := 144) i_231_58 hs_es17 rfl rfl ?_
        show aW _ _ _ _ _ _ (61, [some (.ref 143), some (.int (zI 4))], [.ref 144, .int (zI 4), .ref 154], es17)
        refine x0 (r := (62, [some (.ref 143), some (.int (zI 4))], [.int (zI 5), .ref 144, .int (zI 4), .ref 154], es17)) i_231_61 (by rfl) ?_
        refine x0 (r := (63, [some (.ref 143), some (.int (zI 4))], [.int (zI 4), .int (zI 5), .ref 144, .int (zI 4), .ref 154], es17)) i_231_62 rfl ?_
        refine x_iadd i_231_63 ?_
        show aW _ _ _ _ _ _ (64, [some (.ref 143), some (.int (zI 4))], [.int (zI 9), .ref 144, .int (zI 4), .ref 154], es17)
        refine x_iald (p := 80) i_231_64 hs_es17 rfl (by unfold i32 iLO iHI; omega) (by omega) (by omega) ?_
        obtain ⟨v18, e_v18⟩ : ∃ z : Int, z = (gA es17 80 (Int.toNat 9)).toInt := ⟨_, rfl⟩
        rw [← e_v18]
        have r_v18 : iLO ≤ v18 ∧ v18 ≤ iHI := by rw [e_v18]; exact i32_rng _
        unfold iLO iHI at r_v18
        have b_v18 : (0 : Int) ≤ v18 ∧ v18 ≤ (9 : Int) := by rw [e_v18]; exact gA_bd hT_es17 (p := 80) (k := (Int.toNat 9)) rfl (by omega) (by decide)
        refine x_iast (p := 90) i_231_65 hs_es17 rfl (by unfold i32 iLO iHI; omega) (by omega) (by omega) ?_
        obtain ⟨es19, e_es19⟩ : ∃ z : PH, z = sA es17 90 (Int.toNat 4) (zI v18) := ⟨_, rfl⟩
        have hs_es19 : sh es19 := by rw [e_es19]; exact sh_sA hs_es17
        have hT_es19 : hOK tT es19 := by rw [e_es19]; exact hOK_sA hT_es17 (p := 90) (n := 8) rfl (fun _ => by rw [zI_toInt (by unfold i32 iLO iHI; omega)]; exact ⟨by show (0 : Int) ≤ v18; omega, by show v18 ≤ (9 : Int); omega⟩)
        rw [← e_es19]
        refine x_iinc (x := 4) i_231_66 rfl (by show 1 < 2; decide) ?_
        show aW _ _ _ _ _ _ (69, [some (.ref 143), some (.int (zI 5))], [], es19)
        refine x0 (r := (46, [some (.ref 143), some (.int (zI 5))], [], es19)) i_231_69 rfl ?_
        refine x0 (r := (47, [some (.ref 143), some (.int (zI 5))], [.int (zI 5)], es19)) i_231_46 rfl ?_
        refine x0 (r := (49, [some (.ref 143), some (.int (zI 5))], [.int (zI 8), .int (zI 5)], es19)) i_231_47 (by rfl) ?_
        refine x_cmpF i_231_49 (by unfold i32 iLO iHI; omega) (by unfold i32 iLO iHI; omega) rfl (by simp only [zC, cR]; omega) ?_
        refine x0 (r := (53, [some (.ref 143), some (.int (zI 5))], [.ref 143], es19)) i_231_52 rfl ?_
        refine x_getr (p := 79) (k := 154) i_231_53 hs_es19 rfl rfl ?_
        show aW _ _ _ _ _ _ (56, [some (.ref 143), some (.int (zI 5))], [.ref 154], es19)
        refine x0 (r := (57, [some (.ref 143), some (.int (zI 5))], [.int (zI 5), .ref 154], es19)) i_231_56 rfl ?_
        refine x0 (r := (58, [some (.ref 143), some (.int (zI 5))], [.ref 143, .int (zI 5), .ref 154], es19)) i_231_57 rfl ?_
        refine x_getr (p := 79) (k := 144) i_231_58 hs_es19 rfl rfl ?_
        show aW _ _ _ _ _ _ (61, [some (.ref 143), some (.int (zI 5))], [.ref 144, .int (zI 5), .ref 154], es19)
        refine x0 (r := (62, [some (.ref 143), some (.int (zI 5))], [.int (zI 5), .ref 144, .int (zI 5), .ref 154], es19)) i_231_61 (by rfl) ?_
        refine x0 (r := (63, [some (.ref 143), some (.int (zI 5))], [.int (zI 5), .int (zI 5), .ref 144, .int (zI 5), .ref 154], es19)) i_231_62 rfl ?_
        refine x_iadd i_231_63 ?_
        show aW _ _ _ _ _ _ (64, [some (.ref 143), some (.int (zI 5))], [.int (zI 10), .ref 144, .int (zI 5), .ref 154], es19)
        refine x_iald (p := 80) i_231_64 hs_es19 rfl (by unfold i32 iLO iHI; omega) (by omega) (by omega) ?_
        obtain ⟨v20, e_v20⟩ : ∃ z : Int, z = (gA es19 80 (Int.toNat 10)).toInt := ⟨_, rfl⟩
        rw [← e_v20]
        have r_v20 : iLO ≤ v20 ∧ v20 ≤ iHI := by rw [e_v20]; exact i32_rng _
        unfold iLO iHI at r_v20
        have b_v20 : (0 : Int) ≤ v20 ∧ v20 ≤ (9 : Int) := by rw [e_v20]; exact gA_bd hT_es19 (p := 80) (k := (Int.toNat 10)) rfl (by omega) (by decide)
        refine x_iast (p := 90) i_231_65 hs_es19 rfl (by unfold i32 iLO iHI; omega) (by omega) (by omega) ?_
        obtain ⟨es21, e_es21⟩ : ∃ z : PH, z = sA es19 90 (Int.toNat 5) (zI v20) := ⟨_, rfl⟩
        have hs_es21 : sh es21 := by rw [e_es21]; exact sh_sA hs_es19
        have hT_es21 : hOK tT es21 := by rw [e_es21]; exact hOK_sA hT_es19 (p := 90) (n := 8) rfl (fun _ => by rw [zI_toInt (by unfold i32 iLO iHI; omega)]; exact ⟨by show (0 : Int) ≤ v20; omega, by show v20 ≤ (9 : Int); omega⟩)
        rw [← e_es21]
        refine x_iinc (x := 5) i_231_66 rfl (by show 1 < 2; decide) ?_
        show aW _ _ _ _ _ _ (69, [some (.ref 143), some (.int (zI 6))], [], es21)
        refine x0 (r := (46, [some (.ref 143), some (.int (zI 6))], [], es21)) i_231_69 rfl ?_
        refine x0 (r := (47, [some (.ref 143), some (.int (zI 6))], [.int (zI 6)], es21)) i_231_46 rfl ?_
        refine x0 (r := (49, [some (.ref 143), some (.int (zI 6))], [.int (zI 8), .int (zI 6)], es21)) i_231_47 (by rfl) ?_
        refine x_cmpF i_231_49 (by unfold i32 iLO iHI; omega) (by unfold i32 iLO iHI; omega) rfl (by simp only [zC, cR]; omega) ?_
        refine x0 (r := (53, [some (.ref 143), some (.int (zI 6))], [.ref 143], es21)) i_231_52 rfl ?_
        refine x_getr (p := 79) (k := 154) i_231_53 hs_es21 rfl rfl ?_
        show aW _ _ _ _ _ _ (56, [some (.ref 143), some (.int (zI 6))], [.ref 154], es21)
        refine x0 (r := (57, [some (.ref 143), some (.int (zI 6))], [.int (zI 6), .ref 154], es21)) i_231_56 rfl ?_
        refine x0 (r := (58, [some (.ref 143), some (.int (zI 6))], [.ref 143, .int (zI 6), .ref 154], es21)) i_231_57 rfl ?_
        refine x_getr (p := 79) (k := 144) i_231_58 hs_es21 rfl rfl ?_
        show aW _ _ _ _ _ _ (61, [some (.ref 143), some (.int (zI 6))], [.ref 144, .int (zI 6), .ref 154], es21)
        refine x0 (r := (62, [some (.ref 143), some (.int (zI 6))], [.int (zI 5), .ref 144, .int (zI 6), .ref 154], es21)) i_231_61 (by rfl) ?_
        refine x0 (r := (63, [some (.ref 143), some (.int (zI 6))], [.int (zI 6), .int (zI 5), .ref 144, .int (zI 6), .ref 154], es21)) i_231_62 rfl ?_
        refine x_iadd i_231_63 ?_
        show aW _ _ _ _ _ _ (64, [some (.ref 143), some (.int (zI 6))], [.int (zI 11), .ref 144, .int (zI 6), .ref 154], es21)
        refine x_iald (p := 80) i_231_64 hs_es21 rfl (by unfold i32 iLO iHI; omega) (by omega) (by omega) ?_
        obtain ⟨v22, e_v22⟩ : ∃ z : Int, z = (gA es21 80 (Int.toNat 11)).toInt := ⟨_, rfl⟩
        rw [← e_v22]
        have r_v22 : iLO ≤ v22 ∧ v22 ≤ iHI := by rw [e_v22]; exact i32_rng _
        unfold iLO iHI at r_v22
        have b_v22 : (0 : Int) ≤ v22 ∧ v22 ≤ (9 : Int) := by rw [e_v22]; exact gA_bd hT_es21 (p := 80) (k := (Int.toNat 11)) rfl (by omega) (by decide)
        refine x_iast (p := 90) i_231_65 hs_es21 rfl (by unfold i32 iLO iHI; omega) (by omega) (by omega) ?_
        obtain ⟨es23, e_es23⟩ : ∃ z : PH, z = sA es21 90 (Int.toNat 6) (zI v22) := ⟨_, rfl⟩
        have hs_es23 : sh es23 := by rw [e_es23]; exact sh_sA hs_es21
        have hT_es23 : hOK tT es23 := by rw [e_es23]; exact hOK_sA hT_es21 (p := 90) (n := 8) rfl (fun _ => by rw [zI_toInt (by unfold i32 iLO iHI; omega)]; exact ⟨by show (0 : Int) ≤ v22; omega, by show v22 ≤ (9 : Int); omega⟩)
        rw [← e_es23]
        refine x_iinc (x := 6) i_231_66 rfl (by show 1 < 2; decide) ?_
        show aW _ _ _ _ _ _ (69, [some (.ref 143), some (.int (zI 7))], [], es23)
        refine x0 (r := (46, [some (.ref 143), some (.int (zI 7))], [], es23)) i_231_69 rfl ?_
        refine x0 (r := (47, [some (.ref 143), some (.int (zI 7))], [.int (zI 7)], es23)) i_231_46 rfl ?_
        refine x0 (r := (49, [some (.ref 143), some (.int (zI 7))], [.int (zI 8), .int (zI 7)], es23)) i_231_47 (by rfl) ?_
        refine x_cmpF i_231_49 (by unfold i32 iLO iHI; omega) (by unfold i32 iLO iHI; omega) rfl (by simp only [zC, cR]; omega) ?_
        refine x0 (r := (53, [some (.ref 143), some (.int (zI 7))], [.ref 143], es23)) i_231_52 rfl ?_
        refine x_getr (p := 79) (k := 154) i_231_53 hs_es23 rfl rfl ?_
        show aW _ _ _ _ _ _ (56, [some (.ref 143), some (.int (zI 7))], [.ref 154], es23)
        refine x0 (r := (57, [some (.ref 143), some (.int (zI 7))], [.int (zI 7), .ref 154], es23)) i_231_56 rfl ?_
        refine x0 (r := (58, [some (.ref 143), some (.int (zI 7))], [.ref 143, .int (zI 7), .ref 154], es23)) i_231_57 rfl ?_
        refine x_getr (p := 79) (k := 144) i_231_58 hs_es23 rfl rfl ?_
        show aW _ _ _ _ _ _ (61, [some (.ref 143), some (.int (zI 7))], [.ref 144, .int (zI 7), .ref 154], es23)
        refine x0 (r := (62, [some (.ref 143), some (.int (zI 7))], [.int (zI 5), .ref 144, .int (zI 7), .ref 154], es23)) i_231_61 (by rfl) ?_
        refine x0 (r := (63, [some (.ref 143), some (.int (zI 7))], [.int (zI 7), .int (zI 5), .ref 144, .int (zI 7), .ref 154], es23)) i_231_62 rfl ?_
        refine x_iadd i_231_63 ?_
        show aW _ _ _ _ _ _ (64, [some (.ref 143), some (.int (zI 7))], [.int (zI 12), .ref 144, .int (zI 7), .ref 154], es23)
        refine x_iald (p := 80) i_231_64 hs_es23 rfl (by unfold i32 iLO iHI; omega) (by omega) (by omega) ?_
        obtain ⟨v24, e_v24⟩ : ∃ z : Int, z = (gA es23 80 (Int.toNat 12)).toInt := ⟨_, rfl⟩
        rw [← e_v24]
        have r_v24 : iLO ≤ v24 ∧ v24 ≤ iHI := by rw [e_v24]; exact i32_rng _
        unfold iLO iHI at r_v24
        have b_v24 : (0 : Int) ≤ v24 ∧ v24 ≤ (9 : Int) := by rw [e_v24]; exact gA_bd hT_es23 (p := 80) (k := (Int.toNat 12)) rfl (by omega) (by decide)
        refine x_iast (p := 90) i_231_65 hs_es23 rfl (by unfold i32 iLO iHI; omega) (by omega) (by omega) ?_
        obtain ⟨es25, e_es25⟩ : ∃ z : PH, z = sA es23 90 (Int.toNat 7) (zI v24) := ⟨_, rfl⟩
        have hs_es25 : sh es25 := by rw [e_es25]; exact sh_sA hs_es23
        have hT_es25 : hOK tT es25 := by rw [e_es25]; exact hOK_sA hT_es23 (p := 90) (n := 8) rfl (fun _ => by rw [zI_toInt (by unfold i32 iLO iHI; omega)]; exact ⟨by show (0 : Int) ≤ v24; omega, by show v24 ≤ (9 : Int); omega⟩)
        rw [← e_es25]
        refine x_iinc (x := 7) i_231_66 rfl (by show 1 < 2; decide) ?_
        show aW _ _ _ _ _ _ (69, [some (.ref 143), some (.int (zI 8))], [], es25)
        refine x0 (r := (46, [some (.ref 143), some (.int (zI 8))], [], es25)) i_231_69 rfl ?_
        refine x0 (r := (47, [some (.ref 143), some (.int (zI 8))], [.int (zI 8)], es25)) i_231_46 rfl ?_
        refine x0 (r := (49, [some (.ref 143), some (.int (zI 8))], [.int (zI 8), .int (zI 8)], es25)) i_231_47 (by rfl) ?_
        refine x_cmpT i_231_49 (by unfold i32 iLO iHI; omega) (by unfold i32 iLO iHI; omega) rfl (by simp only [zC, cR]; omega) ?_
        refine x_ret (v := none) i_231_72 rfl (fun _ => rfl) rfl rfl rfl ?_
        show aW _ _ _ _ _ _ (24, [some (.ref 143), some (.int (zI bk)), none], [], es25)
        refine x0 (r := (25, [some (.ref 143), some (.int (zI bk)), none], [.ref 143], es25)) i_263_24 rfl ?_
        refine x0 (r := (26, [some (.ref 143), some (.int (zI bk)), none], [.int (zI 1), .ref 143], es25)) i_263_25 (by rfl) ?_
        refine x0 (r := (27, [some (.ref 143), some (.int (zI bk)), none], [.int (zI bk), .int (zI 1), .ref 143], es25)) i_263_26 rfl ?_
        refine x_op i_263_27 (w := (zI 1 <<< (zI bk &&& 31))) rfl rfl ?_
        obtain ⟨v26, e_v26⟩ : ∃ z : Int, z = (zI 1 <<< (zI bk &&& 31)).toInt := ⟨_, rfl⟩
        rw [← e_v26]
        have r_v26 : iLO ≤ v26 ∧ v26 ≤ iHI := by rw [e_v26]; exact i32_rng _
        unfold iLO iHI at r_v26
        refine x_puti (p := 79) (ty := .int) i_263_28 hs_es25 rfl rfl rfl (Or.inl rfl) ?_
        obtain ⟨es27, e_es27⟩ : ∃ z : PH, z = sI es25 79 18 (.int (zI v26)) := ⟨_, rfl⟩
        have hs_es27 : sh es27 := by rw [e_es27]; exact sh_sI hs_es25 (p := 79) (b := 18) rfl rfl
        have hT_es27 : hOK tT es27 := by rw [e_es27]; exact hOK_sI hT_es25 (p := 79) (b := 18) (lo := iLO) (hi := iHI) rfl rfl (i32_rng _)
        rw [← e_es27]
        refine x0 (r := (32, [some (.ref 143), some (.int (zI bk)), none], [.int (zI 0)], es27)) i_263_31 (by rfl) ?_
        refine x0 (r := (33, [some (.ref 143), some (.int (zI bk)), some (.int (zI 0))], [], es27)) i_263_32 rfl ?_
        refine x0 (r := (34, [some (.ref 143), some (.int (zI bk)), some (.int (zI 0))], [.int (zI 0)], es27)) i_263_33 rfl ?_
        refine x0 (r := (36, [some (.ref 143), some (.int (zI bk)), some (.int (zI 0))], [.int (zI 8), .int (zI 0)], es27)) i_263_34 (by rfl) ?_
        refine x_cmpF i_263_36 (by unfold i32 iLO iHI; omega) (by unfold i32 iLO iHI; omega) rfl (by simp only [zC, cR]; omega) ?_
        refine x0 (r := (40, [some (.ref 143), some (.int (zI bk)), some (.int (zI 0))], [.ref 143], es27)) i_263_39 rfl ?_
        refine x_getr (p := 79) (k := 154) i_263_40 hs_es27 rfl rfl ?_
        show aW _ _ _ _ _ _ (43, [some (.ref 143), some (.int (zI bk)), some (.int (zI 0))], [.ref 154], es27)
        refine x0 (r := (44, [some (.ref 143), some (.int (zI bk)), some (.int (zI 0))], [.int (zI 0), .ref 154], es27)) i_263_43 rfl ?_
        refine x0 (r := (45, [some (.ref 143), some (.int (zI bk)), some (.int (zI 0))], [.int (zI 0), .int (zI 0), .ref 154], es27)) i_263_44 (by rfl) ?_
        refine x_iast (p := 90) i_263_45 hs_es27 rfl (by unfold i32 iLO iHI; omega) (by omega) (by omega) ?_
        obtain ⟨es28, e_es28⟩ : ∃ z : PH, z = sA es27 90 (Int.toNat 0) (zI 0) := ⟨_, rfl⟩
        have hs_es28 : sh es28 := by rw [e_es28]; exact sh_sA hs_es27
        have hT_es28 : hOK tT es28 := by rw [e_es28]; exact hOK_sA hT_es27 (p := 90) (n := 8) rfl (fun _ => by rw [zI_toInt (by unfold i32 iLO iHI; omega)]; exact ⟨by show (0 : Int) ≤ 0; omega, by show 0 ≤ (9 : Int); omega⟩)
        rw [← e_es28]
        refine x_iinc (x := 0) i_263_46 rfl (by show 2 < 3; decide) ?_
        show aW _ _ _ _ _ _ (49, [some (.ref 143), some (.int (zI bk)), some (.int (zI 1))], [], es28)
        refine x0 (r := (33, [some (.ref 143), some (.int (zI bk)), some (.int (zI 1))], [], es28)) i_263_49 rfl ?_
        refine x0 (r := (34, [some (.ref 143), some (.int (zI bk)), some (.int (zI 1))], [.int (zI 1)], es28)) i_263_33 rfl ?_
        refine x0 (r := (36, [some (.ref 143), some (.int (zI bk)), some (.int (zI 1))], [.int (zI 8), .int (zI 1)], es28)) i_263_34 (by rfl) ?_
        refine x_cmpF i_263_36 (by unfold i32 iLO iHI; omega) (by unfold i32 iLO iHI; omega) rfl (by simp only [zC, cR]; omega) ?_
        refine x0 (r := (40, [some (.ref 143), some (.int (zI bk)), some (.int (zI 1))], [.ref 143], es28)) i_263_39 rfl ?_
        refine x_getr (p := 79) (k := 154) i_263_40 hs_es28 rfl rfl ?_
        show aW _ _ _ _ _ _ (43, [some (.ref 143), some (.int (zI bk)), some (.int (zI 1))], [.ref 154], es28)
        refine x0 (r := (44, [some (.ref 143), some (.int (zI bk)), some (.int (zI 1))], [.int (zI 1), .ref 154], es28)) i_263_43 rfl ?_
        refine x0 (r := (45, [some (.ref 143), some (.int (zI bk)), some (.int (zI 1))], [.int (zI 0), .int (zI 1), .ref 154], es28)) i_263_44 (by rfl) ?_
        refine x_iast (p := 90) i_263_45 hs_es28 rfl (by unfold i32 iLO iHI; omega) (by omega) (by omega) ?_
        obtain ⟨es29, e_es29⟩ : ∃ z : PH, z = sA es28 90 (Int.toNat 1) (zI 0) := ⟨_, rfl⟩
        have hs_es29 : sh es29 := by rw [e_es29]; exact sh_sA hs_es28
        have hT_es29 : hOK tT es29 := by rw [e_es29]; exact hOK_sA hT_es28 (p := 90) (n := 8) rfl (fun _ => by rw [zI_toInt (by unfold i32 iLO iHI; omega)]; exact ⟨by show (0 : Int) ≤ 0; omega, by show 0 ≤ (9 : Int); omega⟩)
        rw [← e_es29]
        refine x_iinc (x := 1) i_263_46 rfl (by show 2 < 3; decide) ?_
        show aW _ _ _ _ _ _ (49, [some (.ref 143), some (.int (zI bk)), some (.int (zI 2))], [], es29)
        refine x0 (r := (33, [some (.ref 143), some (.int (zI bk)), some (.int (zI 2))], [], es29)) i_263_49 rfl ?_
        refine x0 (r := (34, [some (.ref 143), some (.int (zI bk)), some (.int (zI 2))], [.int (zI 2)], es29)) i_263_33 rfl ?_
        refine x0 (r := (36, [some (.ref 143), some (.int (zI bk)), some (.int (zI 2))], [.int (zI 8), .int (zI 2)], es29)) i_263_34 (by rfl) ?_
        refine x_cmpF i_263_36 (by unfold i32 iLO iHI; omega) (by unfold i32 iLO iHI; omega) rfl (by simp only [zC, cR]; omega) ?_
        refine x0 (r := (40, [some (.ref 143), some (.int (zI bk)), some (.int (zI 2))], [.ref 143], es29)) i_263_39 rfl ?_
        refine x_getr (p := 79) (k := 154) i_263_40 hs_es29 rfl rfl ?_
        show aW _ _ _ _ _ _ (43, [some (.ref 143), some (.int (zI bk)), some (.int (zI 2))], [.ref 154], es29)
        refine x0 (r := (44, [some (.ref 143), some (.int (zI bk)), some (.int (zI 2))], [.int (zI 2), .ref 154], es29)) i_263_43 rfl ?_
        refine x0 (r := (45, [some (.ref 143), some (.int (zI bk)), some (.int (zI 2))], [.int (zI 0), .int (zI 2), .ref 154], es29)) i_263_44 (by rfl) ?_
        refine x_iast (p := 90) i_263_45 hs_es29 rfl (by unfold i32 iLO iHI; omega) (by omega) (by omega) ?_
        obtain ⟨es30, e_es30⟩ : ∃ z : PH, z = sA es29 90 (Int.toNat 2) (zI 0) := ⟨_, rfl⟩
        have hs_es30 : sh es30 := by rw [e_es30]; exact sh_sA hs_es29
        have hT_es30 : hOK tT es30 := by rw [e_es30]; exact hOK_sA hT_es29 (p := 90) (n := 8) rfl (fun _ => by rw [zI_toInt (by unfold i32 iLO iHI; omega)]; exact ⟨by show (0 : Int) ≤ 0; omega, by show 0 ≤ (9 : Int); omega⟩)
        rw [← e_es30]
        refine x_iinc (x := 2) i_263_46 rfl (by show 2 < 3; decide) ?_
        show aW _ _ _ _ _ _ (49, [some (.ref 143), some (.int (zI bk)), some (.int (zI 3))], [], es30)
        refine x0 (r := (33, [some (.ref 143), some (.int (zI bk)), some (.int (zI 3))], [], es30)) i_263_49 rfl ?_
        refine x0 (r := (34, [some (.ref 143), some (.int (zI bk)), some (.int (zI 3))], [.int (zI 3)], es30)) i_263_33 rfl ?_
        refine x0 (r := (36, [some (.ref 143), some (.int (zI bk)), some (.int (zI 3))], [.int (zI 8), .int (zI 3)], es30)) i_263_34 (by rfl) ?_
        refine x_cmpF i_263_36 (by unfold i32 iLO iHI; omega) (by unfold i32 iLO iHI; omega) rfl (by simp only [zC, cR]; omega) ?_
        refine x0 (r := (40, [some (.ref 143), some (.int (zI bk)), some (.int (zI 3))], [.ref 143], es30)) i_263_39 rfl ?_
        refine x_getr (p := 79) (k := 154) i_263_40 hs_es30 rfl rfl ?_
        show aW _ _ _ _ _ _ (43, [some (.ref 143), some (.int (zI bk)), some (.int (zI 3))], [.ref 154], es30)
        refine x0 (r := (44, [some (.ref 143), some (.int (zI bk)), some (.int (zI 3))], [.int (zI 3), .ref 154], es30)) i_263_43 rfl ?_
        refine x0 (r := (45, [some (.ref 143), some (.int (zI bk)), some (.int (zI 3))], [.int (zI 0), .int (zI 3), .ref 154], es30)) i_263_44 (by rfl) ?_
        refine x_iast (p := 90) i_263_45 hs_es30 rfl (by unfold i32 iLO iHI; omega) (by omega) (by omega) ?_
        obtain ⟨es31, e_es31⟩ : ∃ z : PH, z = sA es30 90 (Int.toNat 3) (zI 0) := ⟨_, rfl⟩
        have hs_es31 : sh es31 := by rw [e_es31]; exact sh_sA hs_es30
        have hT_es31 : hOK tT es31 := by rw [e_es31]; exact hOK_sA hT_es30 (p := 90) (n := 8) rfl (fun _ => by rw [zI_toInt (by unfold i32 iLO iHI; omega)]; exact ⟨by show (0 : Int) ≤ 0; omega, by show 0 ≤ (9 : Int); omega⟩)
        rw [← e_es31]
        refine x_iinc (x := 3) i_263_46 rfl (by show 2 < 3; decide) ?_
        show aW _ _ _ _ _ _ (49, [some (.ref 143), some (.int (zI bk)), some (.int (zI 4))], [], es31)
        refine x0 (r := (33, [some (.ref 143), some (.int (zI bk)), some (.int (zI 4))], [], es31)) i_263_49 rfl ?_
        refine x0 (r := (34, [some (.ref 143), some (.int (zI bk)), some (.int (zI 4))], [.int (zI 4)], es31)) i_263_33 rfl ?_
        refine x0 (r := (36, [some (.ref 143), some (.int (zI bk)), some (.int (zI 4))], [.int (zI 8), .int (zI 4)], es31)) i_263_34 (by rfl) ?_
        refine x_cmpF i_263_36 (by unfold i32 iLO iHI; omega) (by unfold i32 iLO iHI; omega) rfl (by simp only [zC, cR]; omega) ?_
        refine x0 (r := (40, [some (.ref 143), some (.int (zI bk)), some (.int (zI 4))], [.ref 143], es31)) i_263_39 rfl ?_
        refine x_getr (p := 79) (k := 154) i_263_40 hs_es31 rfl rfl ?_
        show aW _ _ _ _ _ _ (43, [some (.ref 143), some (.int (zI bk)), some (.int (zI 4))], [.ref 154], es31)
        refine x0 (r := (44, [some (.ref 143), some (.int (zI bk)), some (.int (zI 4))], [.int (zI 4), .ref 154], es31)) i_263_43 rfl ?_
        refine x0 (r := (45, [some (.ref 143), some (.int (zI bk)), some (.int (zI 4))], [.int (zI 0), .int (zI 4), .ref 154], es31)) i_263_44 (by rfl) ?_
        refine x_iast (p := 90) i_263_45 hs_es31 rfl (by unfold i32 iLO iHI; omega) (by omega) (by omega) ?_
        obtain ⟨es32, e_es32⟩ : ∃ z : PH, z = sA es31 90 (Int.toNat 4) (zI 0) := ⟨_, rfl⟩
        have hs_es32 : sh es32 := by rw [e_es32]; exact sh_sA hs_es31
        have hT_es32 : hOK tT es32 := by rw [e_es32]; exact hOK_sA hT_es31 (p := 90) (n := 8) rfl (fun _ => by rw [zI_toInt (by unfold i32 iLO iHI; omega)]; exact ⟨by show (0 : Int) ≤ 0; omega, by show 0 ≤ (9 : Int); omega⟩)
        rw [← e_es32]
        refine x_iinc (x := 4) i_263_46 rfl (by show 2 < 3; decide) ?_
        show aW _ _ _ _ _ _ (49, [some (.ref 143), some (.int (zI bk)), some (.int (zI 5))], [], es32)
        refine x0 (r := (33, [some (.ref 143), some (.int (zI bk)), some (.int (zI 5))], [], es32)) i_263_49 rfl ?_
        refine x0 (r := (34, [some (.ref 143), some (.int (zI bk)), some (.int (zI 5))], [.int (zI 5)], es32)) i_263_33 rfl ?_
        refine x0 (r := (36, [some (.ref 143), some (.int (zI bk)), some (.int (zI 5))], [.int (zI 8), .int (zI 5)], es32)) i_263_34 (by rfl) ?_
        refine x_cmpF i_263_36 (by unfold i32 iLO iHI; omega) (by unfold i32 iLO iHI; omega) rfl (by simp only [zC, cR]; omega) ?_
        refine x0 (r := (40, [some (.ref 143), some (.int (zI bk)), some (.int (zI 5))], [.ref 143], es32)) i_263_39 rfl ?_
        refine x_getr (p := 79) (k := 154) i_263_40 hs_es32 rfl rfl ?_
        show aW _ _ _ _ _ _ (43, [some (.ref 143), some (.int (zI bk)), some (.int (zI 5))], [.ref 154], es32)
        refine x0 (r := (44, [some (.ref 143), some (.int (zI bk)), some (.int (zI 5))], [.int (zI 5), .ref 154], es32)) i_263_43 rfl ?_
        refine x0 (r := (45, [some (.ref 143), some (.int (zI bk)), some (.int (zI 5))], [.int (zI 0), .int (zI 5), .ref 154], es32)) i_263_44 (by rfl) ?_
        refine x_iast (p := 90) i_263_45 hs_es32 rfl (by unfold i32 iLO iHI; omega) (by omega) (by omega) ?_
        obtain ⟨es33, e_es33⟩ : ∃ z : PH, z = sA es32 90 (Int.toNat 5) (zI 0) := ⟨_, rfl⟩
        have hs_es33 : sh es33 := by rw [e_es33]; exact sh_sA hs_es32
        have hT_es33 : hOK tT es33 := by rw [e_es33]; exact hOK_sA hT_es32 (p := 90) (n := 8) rfl (fun _ => by rw [zI_toInt (by unfold i32 iLO iHI; omega)]; exact ⟨by show (0 : Int) ≤ 0; omega, by show 0 ≤ (9 : Int); omega⟩)
        rw [← e_es33]
        refine x_iinc (x := 5) i_263_46 rfl (by show 2 < 3; decide) ?_
        show aW _ _ _ _ _ _ (49, [some (.ref 143), some (.int (zI bk)), some (.int (zI 6))], [], es33)
        refine x0 (r := (33, [some (.ref 143), some (.int (zI bk)), some (.int (zI 6))], [], es33)) i_263_49 rfl ?_
        refine x0 (r := (34, [some (.ref 143), some (.int (zI bk)), some (.int (zI 6))], [.int (zI 6)], es33)) i_263_33 rfl ?_
        refine x0 (r := (36, [some (.ref 143), some (.int (zI bk)), some (.int (zI 6))], [.int (zI 8), .int (zI 6)], es33)) i_263_34 (by rfl) ?_
        refine x_cmpF i_263_36 (by unfold i32 iLO iHI; omega) (by unfold i32 iLO iHI; omega) rfl (by simp only [zC, cR]; omega) ?_
        refine x0 (r := (40, [some (.ref 143), some (.int (zI bk)), some (.int (zI 6))], [.ref 143], es33)) i_263_39 rfl ?_
        refine x_getr (p := 79) (k := 154) i_263_40 hs_es33 rfl rfl ?_
        show aW _ _ _ _ _ _ (43, [some (.ref 143), some (.int (zI bk)), some (.int (zI 6))], [.ref 154], es33)
        refine x0 (r := (44, [some (.ref 143), some (.int (zI bk)), some (.int (zI 6))], [.int (zI 6), .ref 154], es33)) i_263_43 rfl ?_
        refine x0 (r := (45, [some (.ref 143), some (.int (zI bk)), some (.int (zI 6))], [.int (zI 0), .int (zI 6), .ref 154], es33)) i_263_44 (by rfl) ?_
        refine x_iast (p := 90) i_263_45 hs_es33 rfl (by unfold i32 iLO iHI; omega) (by omega) (by omega) ?_
        obtain ⟨es34, e_es34⟩ : ∃ z : PH, z = sA es33 90 (Int.toNat 6) (zI 0) := ⟨_, rfl⟩
        have hs_es34 : sh es34 := by rw [e_es34]; exact sh_sA hs_es33
        have hT_es34 : hOK tT es34 := by rw [e_es34]; exact hOK_sA hT_es33 (p := 90) (n := 8) rfl (fun _ => by rw [zI_toInt (by unfold i32 iLO iHI; omega)]; exact ⟨by show (0 : Int) ≤ 0; omega, by show 0 ≤ (9 : Int); omega⟩)
        rw [← e_es34]
        refine x_iinc (x := 6) i_263_46 rfl (by show 2 < 3; decide) ?_
        show aW _ _ _ _ _ _ (49, [some (.ref 143), some (.int (zI bk)), some (.int (zI 7))], [], es34)
        refine x0 (r := (33, [some (.ref 143), some (.int (zI bk)), some (.int (zI 7))], [], es34)) i_263_49 rfl ?_
        refine x0 (r := (34, [some (.ref 143), some (.int (zI bk)), some (.int (zI 7))], [.int (zI 7)], es34)) i_263_33 rfl ?_
        refine x0 (r := (36, [some (.ref 143), some (.int (zI bk)), some (.int (zI 7))], [.int (zI 8), .int (zI 7)], es34)) i_263_34 (by rfl) ?_
        refine x_cmpF i_263_36 (by unfold i32 iLO iHI; omega) (by unfold i32 iLO iHI; omega) rfl (by simp only [zC, cR]; omega) ?_
        refine x0 (r := (40, [some (.ref 143), some (.int (zI bk)), some (.int (zI 7))], [.ref 143], es34)) i_263_39 rfl ?_
        refine x_getr (p := 79) (k := 154) i_263_40 hs_es34 rfl rfl ?_
        show aW _ _ _ _ _ _ (43, [some (.ref 143), some (.int (zI bk)), some (.int (zI 7))], [.ref 154], es34)
        refine x0 (r := (44, [some (.ref 143), some (.int (zI bk)), some (.int (zI 7))], [.int (zI 7), .ref 154], es34)) i_263_43 rfl ?_
        refine x0 (r := (45, [some (.ref 143), some (.int (zI bk)), some (.int (zI 7))], [.int (zI 0), .int (zI 7), .ref 154], es34)) i_263_44 (by rfl) ?_
        refine x_iast (p := 90) i_263_45 hs_es34 rfl (by unfold i32 iLO iHI; omega) (by omega) (by omega) ?_
        obtain ⟨es35, e_es35⟩ : ∃ z : PH, z = sA es34 90 (Int.toNat 7) (zI 0) := ⟨_, rfl⟩
        have hs_es35 : sh es35 := by rw [e_es35]; exact sh_sA hs_es34
        have hT_es35 : hOK tT es35 := by rw [e_es35]; exact hOK_sA hT_es34 (p := 90) (n := 8) rfl (fun _ => by rw [zI_toInt (by unfold i32 iLO iHI; omega)]; exact ⟨by show (0 : Int) ≤ 0; omega, by show 0 ≤ (9 : Int); omega⟩)
        rw [← e_es35]
        refine x_iinc (x := 7) i_263_46 rfl (by show 2 < 3; decide) ?_
        show aW _ _ _ _ _ _ (49, [some (.ref 143), some (.int (zI bk)), some (.int (zI 8))], [], es35)
        refine x0 (r := (33, [some (.ref 143), some (.int (zI bk)), some (.int (zI 8))], [], es35)) i_263_49 rfl ?_
        refine x0 (r := (34, [some (.ref 143), some (.int (zI bk)), some (.int (zI 8))], [.int (zI 8)], es35)) i_263_33 rfl ?_
        refine x0 (r := (36, [some (.ref 143), some (.int (zI bk)), some (.int (zI 8))], [.int (zI 8), .int (zI 8)], es35)) i_263_34 (by rfl) ?_
        refine x_cmpT i_263_36 (by unfold i32 iLO iHI; omega) (by unfold i32 iLO iHI; omega) rfl (by simp only [zC, cR]; omega) ?_
        refine x0 (r := (53, [some (.ref 143), some (.int (zI bk)), some (.int (zI 8))], [.ref 143], es35)) i_263_52 rfl ?_
        refine x0 (r := (54, [some (.ref 143), some (.int (zI bk)), some (.int (zI 8))], [.int (zI 0), .ref 143], es35)) i_263_53 (by rfl) ?_
        refine x_puti (p := 79) (ty := .int) i_263_54 hs_es35 rfl rfl rfl (Or.inl rfl) ?_
        obtain ⟨es36, e_es36⟩ : ∃ z : PH, z = sI es35 79 27 (.int (zI 0)) := ⟨_, rfl⟩
        have hs_es36 : sh es36 := by rw [e_es36]; exact sh_sI hs_es35 (p := 79) (b := 27) rfl rfl
        have hT_es36 : hOK tT es36 := by rw [e_es36]; exact hOK_sI hT_es35 (p := 79) (b := 27) (lo := iLO) (hi := iHI) rfl rfl (i32_rng _)
        rw [← e_es36]
        refine x0 (r := (58, [some (.ref 143), some (.int (zI bk)), some (.int (zI 8))], [.ref 143], es36)) i_263_57 rfl ?_
        refine x0 (r := (59, [some (.ref 143), some (.int (zI bk)), some (.int (zI 8))], [.int (zI 0), .ref 143], es36)) i_263_58 (by rfl) ?_
        refine x_puti (p := 79) (ty := .boolean) i_263_59 hs_es36 rfl rfl rfl (Or.inr ⟨rfl, by omega⟩) ?_
        obtain ⟨es37, e_es37⟩ : ∃ z : PH, z = sI es36 79 29 (.int (zI 0)) := ⟨_, rfl⟩
        have hs_es37 : sh es37 := by rw [e_es37]; exact sh_sI hs_es36 (p := 79) (b := 29) rfl rfl
        have hT_es37 : hOK tT es37 := by rw [e_es37]; exact hOK_sI hT_es36 (p := 79) (b := 29) rfl rfl (by rw [zI_toInt (by unfold i32 iLO iHI; omega)]; exact ⟨by show (0 : Int) ≤ 0; omega, by show 0 ≤ (1 : Int); omega⟩)
        rw [← e_es37]
        refine x0 (r := (63, [some (.ref 143), some (.int (zI bk)), some (.int (zI 8))], [.ref 143], es37)) i_263_62 rfl ?_
        refine x0 (r := (64, [some (.ref 143), some (.int (zI bk)), some (.int (zI 8))], [.int (zI 1), .ref 143], es37)) i_263_63 (by rfl) ?_
        refine x_puti (p := 79) (ty := .boolean) i_263_64 hs_es37 rfl rfl rfl (Or.inr ⟨rfl, by omega⟩) ?_
        obtain ⟨es38, e_es38⟩ : ∃ z : PH, z = sI es37 79 30 (.int (zI 1)) := ⟨_, rfl⟩
        have hs_es38 : sh es38 := by rw [e_es38]; exact sh_sI hs_es37 (p := 79) (b := 30) rfl rfl
        have hT_es38 : hOK tT es38 := by rw [e_es38]; exact hOK_sI hT_es37 (p := 79) (b := 30) rfl rfl (by rw [zI_toInt (by unfold i32 iLO iHI; omega)]; exact ⟨by show (0 : Int) ≤ 1; omega, by show 1 ≤ (1 : Int); omega⟩)
        rw [← e_es38]
        refine x0 (r := (68, [some (.ref 143), some (.int (zI bk)), some (.int (zI 8))], [.ref 143], es38)) i_263_67 rfl ?_
        refine x0 (r := (70, [some (.ref 143), some (.int (zI bk)), some (.int (zI 8))], [.int (zI 30), .ref 143], es38)) i_263_68 (by rfl) ?_
        refine x_puti (p := 79) (ty := .int) i_263_70 hs_es38 rfl rfl rfl (Or.inl rfl) ?_
        obtain ⟨es39, e_es39⟩ : ∃ z : PH, z = sI es38 79 35 (.int (zI 30)) := ⟨_, rfl⟩
        have hs_es39 : sh es39 := by rw [e_es39]; exact sh_sI hs_es38 (p := 79) (b := 35) rfl rfl
        have hT_es39 : hOK tT es39 := by rw [e_es39]; exact hOK_sI hT_es38 (p := 79) (b := 35) rfl rfl (by rw [zI_toInt (by unfold i32 iLO iHI; omega)]; exact ⟨by show (0 : Int) ≤ 30; omega, by show 30 ≤ (2147483647 : Int); omega⟩)
        rw [← e_es39]
        refine x0 (r := (74, [some (.ref 143), some (.int (zI bk)), some (.int (zI 8))], [.ref 143], es39)) i_263_73 rfl ?_
        refine x0 (r := (75, [some (.ref 143), some (.int (zI bk)), some (.int (zI 8))], [.int (zI 0), .ref 143], es39)) i_263_74 (by rfl) ?_
        exact K3 es1 e_es1 v2 e_v2 c3 c5 v7 e_v7 es8 e_es8 c9 v10 e_v10 es11 e_es11 v12 e_v12 es13 e_es13 v14 e_v14 es15 e_es15 v16 e_v16 es17 e_es17 v18 e_v18 es19 e_es19 v20 e_v20 es21 e_es21 v22 e_v22 es23 e_es23 v24 e_v24 es25 e_es25 v26 e_v26 es27 e_es27 es28 e_es28 es29 e_es29 es30 e_es30 es31 e_es31 es32 e_es32 es33 e_es33 es34 e_es34 es35 e_es35 es36 e_es36 es37 e_es37 es38 e_es38 es39 e_es39 hT_es39
      · refine x_cmpF i_231_23 (by unfold i32 iLO iHI; omega) (by unfold i32 iLO iHI; omega) rfl (by simp only [zC, cR]; omega) ?_
        refine x0 (r := (27, [some (.ref 143), some (.int (zI 0))], [.ref 143], es8)) i_231_26 rfl ?_
        refine x_getr (p := 79) (k := 153) i_231_27 hs_es8 rfl rfl ?_
        show aW _ _ _ _ _ _ (30, [some (.ref 143), some (.int (zI 0))], [.ref 153], es8)
        refine x0 (r := (31, [some (.ref 143), some (.int (zI 0))], [.int (zI 0), .ref 153], es8)) i_231_30 rfl ?_
        refine x0 (r := (32, [some (.ref 143), some (.int (zI 0))], [.ref 143, .int (zI 0), .ref 153], es8)) i_231_31 rfl ?_
        refine x0 (r := (33, [some (.ref 143), some (.int (zI 0))], [.int (zI 0), .ref 143, .int (zI 0), .ref 153], es8)) i_231_32 rfl ?_
        refine x0 (r := (34, [some (.ref 143), some (.int (zI 0))], [.int (zI 0), .int (zI 0), .ref 143, .int (zI 0), .ref 153], es8)) i_231_33 (by rfl) ?_
        refine x_call (vs := [.ref 143, .int (zI 0), .int (zI 0)]) (rs := [.int (zI 0), .ref 153]) i_231_34 rfl (fun _ => rfl) rfl rfl rfl rfl rfl (pCall_v (p := 79) hs_es8 rfl rfl rfl rfl rfl (by decide) rfl rfl rfl rfl rfl) ?_
        show aW _ _ _ _ _ _ (0, [some (.ref 143), some (.int (zI 0)), some (.int (zI 0))], [], es8)
        refine x0 (r := (1, [some (.ref 143), some (.int (zI 0)), some (.int (zI 0))], [.ref 143], es8)) i_206_0 rfl ?_
        refine x_getr (p := 79) (k := 144) i_206_1 hs_es8 rfl rfl ?_
        show aW _ _ _ _ _ _ (4, [some (.ref 143), some (.int (zI 0)), some (.int (zI 0))], [.ref 144], es8)
        refine x0 (r := (6, [some (.ref 143), some (.int (zI 0)), some (.int (zI 0))], [.int (zI 119), .ref 144], es8)) i_206_4 (by rfl) ?_
        refine x0 (r := (8, [some (.ref 143), some (.int (zI 0)), some (.int (zI 0))], [.int (zI 98), .int (zI 119), .ref 144], es8)) i_206_6 (by rfl) ?_
        refine x0 (r := (9, [some (.ref 143), some (.int (zI 0)), some (.int (zI 0))], [.int (zI 0), .int (zI 98), .int (zI 119), .ref 144], es8)) i_206_8 rfl ?_
        refine x_imul i_206_9 ?_
        show aW _ _ _ _ _ _ (10, [some (.ref 143), some (.int (zI 0)), some (.int (zI 0))], [.int (zI 0), .int (zI 119), .ref 144], es8)
        refine x_iadd i_206_10 ?_
        show aW _ _ _ _ _ _ (11, [some (.ref 143), some (.int (zI 0)), some (.int (zI 0))], [.int (zI 119), .ref 144], es8)
        refine x0 (r := (12, [some (.ref 143), some (.int (zI 0)), some (.int (zI 0))], [.int (zI 0), .int (zI 119), .ref 144], es8)) i_206_11 rfl ?_
        refine x_iadd i_206_12 ?_
        show aW _ _ _ _ _ _ (13, [some (.ref 143), some (.int (zI 0)), some (.int (zI 0))], [.int (zI 119), .ref 144], es8)
        refine x_iald (p := 80) i_206_13 hs_es8 rfl (by unfold i32 iLO iHI; omega) (by omega) (by omega) ?_
        obtain ⟨v40, e_v40⟩ : ∃ z : Int, z = (gA es8 80 (Int.toNat 119)).toInt := ⟨_, rfl⟩
        rw [← e_v40]
        have r_v40 : iLO ≤ v40 ∧ v40 ≤ iHI := by rw [e_v40]; exact i32_rng _
        unfold iLO iHI at r_v40
        have b_v40 : (0 : Int) ≤ v40 ∧ v40 ≤ (1 : Int) := by rw [e_v40]; exact gA_bd hT_es8 (p := 80) (k := (Int.toNat 119)) rfl (by omega) (by decide)
        refine x_ret (v := some (.int (zI v40))) i_206_14 rfl (fun _ => rfl) rfl rfl rfl ?_
        show aW _ _ _ _ _ _ (37, [some (.ref 143), some (.int (zI 0))], [.int (zI v40), .int (zI 0), .ref 153], es8)
        refine x_iast (p := 89) i_231_37 hs_es8 rfl (by unfold i32 iLO iHI; omega) (by omega) (by omega) ?_
        obtain ⟨es41, e_es41⟩ : ∃ z : PH, z = sA es8 89 (Int.toNat 0) (zI v40) := ⟨_, rfl⟩
        have hs_es41 : sh es41 := by rw [e_es41]; exact sh_sA hs_es8
        have hT_es41 : hOK tT es41 := by rw [e_es41]; exact hOK_sA hT_es8 (p := 89) (n := 3) rfl (fun _ => by rw [zI_toInt (by unfold i32 iLO iHI; omega)]; exact ⟨by show (0 : Int) ≤ v40; omega, by show v40 ≤ (1 : Int); omega⟩)
        rw [← e_es41]
        refine x_iinc (x := 0) i_231_38 rfl (by show 1 < 2; decide) ?_
        show aW _ _ _ _ _ _ (41, [some (.ref 143), some (.int (zI 1))], [], es41)
        refine x0 (r := (16, [some (.ref 143), some (.int (zI 1))], [], es41)) i_231_41 rfl ?_
        refine x0 (r := (17, [some (.ref 143), some (.int (zI 1))], [.int (zI 1)], es41)) i_231_16 rfl ?_
        refine x0 (r := (18, [some (.ref 143), some (.int (zI 1))], [.ref 143, .int (zI 1)], es41)) i_231_17 rfl ?_
        refine x_getr (p := 79) (k := 144) i_231_18 hs_es41 rfl rfl ?_
        show aW _ _ _ _ _ _ (21, [some (.ref 143), some (.int (zI 1))], [.ref 144, .int (zI 1)], es41)
        refine x0 (r := (22, [some (.ref 143), some (.int (zI 1))], [.int (zI 1), .ref 144, .int (zI 1)], es41)) i_231_21 (by rfl) ?_
        refine x_iald (p := 80) i_231_22 hs_es41 rfl (by unfold i32 iLO iHI; omega) (by omega) (by omega) ?_
        rw [show (gA es41 80 (Int.toNat 1)).toInt = v2 from by rw [e_es41, gA_sA_ne (by decide), e_es8, gA_sI]; exact e_v2.symm]
        by_cases c42 : v2 ≤ 1
        · refine x_cmpT i_231_23 (by unfold i32 iLO iHI; omega) (by unfold i32 iLO iHI; omega) rfl (by simp only [zC, cR]; omega) ?_
          refine x0 (r := (45, [some (.ref 143), some (.int (zI 1))], [.int (zI 0)], es41)) i_231_44 (by rfl) ?_
          refine x0 (r := (46, [some (.ref 143), some (.int (zI 0))], [], es41)) i_231_45 rfl ?_
          refine x0 (r := (47, [some (.ref 143), some (.int (zI 0))], [.int (zI 0)], es41)) i_231_46 rfl ?_
          refine x0 (r := (49, [some (.ref 143), some (.int (zI 0))], [.int (zI 8), .int (zI 0)], es41)) i_231_47 (by rfl) ?_
          refine x_cmpF i_231_49 (by unfold i32 iLO iHI; omega) (by unfold i32 iLO iHI; omega) rfl (by simp only [zC, cR]; omega) ?_
          refine x0 (r := (53, [some (.ref 143), some (.int (zI 0))], [.ref 143], es41)) i_231_52 rfl ?_
          refine x_getr (p := 79) (k := 154) i_231_53 hs_es41 rfl rfl ?_
          show aW _ _ _ _ _ _ (56, [some (.ref 143), some (.int (zI 0))], [.ref 154], es41)
          refine x0 (r := (57, [some (.ref 143), some (.int (zI 0))], [.int (zI 0), .ref 154], es41)) i_231_56 rfl ?_
          refine x0 (r := (58, [some (.ref 143), some (.int (zI 0))], [.ref 143, .int (zI 0), .ref 154], es41)) i_231_57 rfl ?_
          refine x_getr (p := 79) (k := 144) i_231_58 hs_es41 rfl rfl ?_
          show aW _ _ _ _ _ _ (61, [some (.ref 143), some (.int (zI 0))], [.ref 144, .int (zI 0), .ref 154], es41)
          refine x0 (r := (62, [some (.ref 143), some (.int (zI 0))], [.int (zI 5), .ref 144, .int (zI 0), .ref 154], es41)) i_231_61 (by rfl) ?_
          refine x0 (r := (63, [some (.ref 143), some (.int (zI 0))], [.int (zI 0), .int (zI 5), .ref 144, .int (zI 0), .ref 154], es41)) i_231_62 rfl ?_
          refine x_iadd i_231_63 ?_
          show aW _ _ _ _ _ _ (64, [some (.ref 143), some (.int (zI 0))], [.int (zI 5), .ref 144, .int (zI 0), .ref 154], es41)
          refine x_iald (p := 80) i_231_64 hs_es41 rfl (by unfold i32 iLO iHI; omega) (by omega) (by omega) ?_
          obtain ⟨v43, e_v43⟩ : ∃ z : Int, z = (gA es41 80 (Int.toNat 5)).toInt := ⟨_, rfl⟩
          rw [← e_v43]
          have r_v43 : iLO ≤ v43 ∧ v43 ≤ iHI := by rw [e_v43]; exact i32_rng _
          unfold iLO iHI at r_v43
          have b_v43 : (0 : Int) ≤ v43 ∧ v43 ≤ (9 : Int) := by rw [e_v43]; exact gA_bd hT_es41 (p := 80) (k := (Int.toNat 5)) rfl (by omega) (by decide)
          refine x_iast (p := 90) i_231_65 hs_es41 rfl (by unfold i32 iLO iHI; omega) (by omega) (by omega) ?_
          obtain ⟨es44, e_es44⟩ : ∃ z : PH, z = sA es41 90 (Int.toNat 0) (zI v43) := ⟨_, rfl⟩
          have hs_es44 : sh es44 := by rw [e_es44]; exact sh_sA hs_es41
          have hT_es44 : hOK tT es44 := by rw [e_es44]; exact hOK_sA hT_es41 (p := 90) (n := 8) rfl (fun _ => by rw [zI_toInt (by unfold i32 iLO iHI; omega)]; exact ⟨by show (0 : Int) ≤ v43; omega, by show v43 ≤ (9 : Int); omega⟩)
          rw [← e_es44]
          refine x_iinc (x := 0) i_231_66 rfl (by show 1 < 2; decide) ?_
          show aW _ _ _ _ _ _ (69, [some (.ref 143), some (.int (zI 1))], [], es44)
          refine x0 (r := (46, [some (.ref 143), some (.int (zI 1))], [], es44)) i_231_69 rfl ?_
          refine x0 (r := (47, [some (.ref 143), some (.int (zI 1))], [.int (zI 1)], es44)) i_231_46 rfl ?_
          refine x0 (r := (49, [some (.ref 143), some (.int (zI 1))], [.int (zI 8), .int (zI 1)], es44)) i_231_47 (by rfl) ?_
          refine x_cmpF i_231_49 (by unfold i32 iLO iHI; omega) (by unfold i32 iLO iHI; omega) rfl (by simp only [zC, cR]; omega) ?_
          refine x0 (r := (53, [some (.ref 143), some (.int (zI 1))], [.ref 143], es44)) i_231_52 rfl ?_
          refine x_getr (p := 79) (k := 154) i_231_53 hs_es44 rfl rfl ?_
          show aW _ _ _ _ _ _ (56, [some (.ref 143), some (.int (zI 1))], [.ref 154], es44)
          refine x0 (r := (57, [some (.ref 143), some (.int (zI 1))], [.int (zI 1), .ref 154], es44)) i_231_56 rfl ?_
          refine x0 (r := (58, [some (.ref 143), some (.int (zI 1))], [.ref 143, .int (zI 1), .ref 154], es44)) i_231_57 rfl ?_
          refine x_getr (p := 79) (k := 144) i_231_58 hs_es44 rfl rfl ?_
          show aW _ _ _ _ _ _ (61, [some (.ref 143), some (.int (zI 1))], [.ref 144, .int (zI 1), .ref 154], es44)
          refine x0 (r := (62, [some (.ref 143), some (.int (zI 1))], [.int (zI 5), .ref 144, .int (zI 1), .ref 154], es44)) i_231_61 (by rfl) ?_
          refine x0 (r := (63, [some (.ref 143), some (.int (zI 1))], [.int (zI 1), .int (zI 5), .ref 144, .int (zI 1), .ref 154], es44)) i_231_62 rfl ?_
          refine x_iadd i_231_63 ?_
          show aW _ _ _ _ _ _ (64, [some (.ref 143), some (.int (zI 1))], [.int (zI 6), .ref 144, .int (zI 1), .ref 154], es44)
          refine x_iald (p := 80) i_231_64 hs_es44 rfl (by unfold i32 iLO iHI; omega) (by omega) (by omega) ?_
          obtain ⟨v45, e_v45⟩ : ∃ z : Int, z = (gA es44 80 (Int.toNat 6)).toInt := ⟨_, rfl⟩
          rw [← e_v45]
          have r_v45 : iLO ≤ v45 ∧ v45 ≤ iHI := by rw [e_v45]; exact i32_rng _
          unfold iLO iHI at r_v45
          have b_v45 : (0 : Int) ≤ v45 ∧ v45 ≤ (9 : Int) := by rw [e_v45]; exact gA_bd hT_es44 (p := 80) (k := (Int.toNat 6)) rfl (by omega) (by decide)
          refine x_iast (p := 90) i_231_65 hs_es44 rfl (by unfold i32 iLO iHI; omega) (by omega) (by omega) ?_
          obtain ⟨es46, e_es46⟩ : ∃ z : PH, z = sA es44 90 (Int.toNat 1) (zI v45) := ⟨_, rfl⟩
          have hs_es46 : sh es46 := by rw [e_es46]; exact sh_sA hs_es44
          have hT_es46 : hOK tT es46 := by rw [e_es46]; exact hOK_sA hT_es44 (p := 90) (n := 8) rfl (fun _ => by rw [zI_toInt (by unfold i32 iLO iHI; omega)]; exact ⟨by show (0 : Int) ≤ v45; omega, by show v45 ≤ (9 : Int); omega⟩)
          rw [← e_es46]
          refine x_iinc (x := 1) i_231_66 rfl (by show 1 < 2; decide) ?_
          show aW _ _ _ _ _ _ (69, [some (.ref 143), some (.int (zI 2))], [], es46)
          refine x0 (r := (46, [some (.ref 143), some (.int (zI 2))], [], es46)) i_231_69 rfl ?_
          refine x0 (r := (47, [some (.ref 143), some (.int (zI 2))], [.int (zI 2)], es46)) i_231_46 rfl ?_
          refine x0 (r := (49, [some (.ref 143), some (.int (zI 2))], [.int (zI 8), .int (zI 2)], es46)) i_231_47 (by rfl) ?_
          refine x_cmpF i_231_49 (by unfold i32 iLO iHI; omega) (by unfold i32 iLO iHI; omega) rfl (by simp only [zC, cR]; omega) ?_
          refine x0 (r := (53, [some (.ref 143), some (.int (zI 2))], [.ref 143], es46)) i_231_52 rfl ?_
          refine x_getr (p := 79) (k := 154) i_231_53 hs_es46 rfl rfl ?_
          show aW _ _ _ _ _ _ (56, [some (.ref 143), some (.int (zI 2))], [.ref 154], es46)
          refine x0 (r := (57, [some (.ref 143), some (.int (zI 2))], [.int (zI 2), .ref 154], es46)) i_231_56 rfl ?_
          refine x0 (r := (58, [some (.ref 143), some (.int (zI 2))], [.ref 143, .int (zI 2), .ref 154], es46)) i_231_57 rfl ?_
          refine x_getr (p := 79) (k := 144) i_231_58 hs_es46 rfl rfl ?_
          show aW _ _ _ _ _ _ (61, [some (.ref 143), some (.int (zI 2))], [.ref 144, .int (zI 2), .ref 154], es46)
          refine x0 (r := (62, [some (.ref 143), some (.int (zI 2))], [.int (zI 5), .ref 144, .int (zI 2), .ref 154], es46)) i_231_61 (by rfl) ?_
          refine x0 (r := (63, [some (.ref 143), some (.int (zI 2))], [.int (zI 2), .int (zI 5), .ref 144, .int (zI 2), .ref 154], es46)) i_231_62 rfl ?_
          refine x_iadd i_231_63 ?_
          show aW _ _ _ _ _ _ (64, [some (.ref 143), some (.int (zI 2))], [.int (zI 7), .ref 144, .int (zI 2), .ref 154], es46)
          refine x_iald (p := 80) i_231_64 hs_es46 rfl (by unfold i32 iLO iHI; omega) (by omega) (by omega) ?_
          obtain ⟨v47, e_v47⟩ : ∃ z : Int, z = (gA es46 80 (Int.toNat 7)).toInt := ⟨_, rfl⟩
          rw [← e_v47]
          have r_v47 : iLO ≤ v47 ∧ v47 ≤ iHI := by rw [e_v47]; exact i32_rng _
          unfold iLO iHI at r_v47
          have b_v47 : (0 : Int) ≤ v47 ∧ v47 ≤ (9 : Int) := by rw [e_v47]; exact gA_bd hT_es46 (p := 80) (k := (Int.toNat 7)) rfl (by omega) (by decide)
          refine x_iast (p := 90) i_231_65 hs_es46 rfl (by unfold i32 iLO iHI; omega) (by omega) (by omega) ?_
          obtain ⟨es48, e_es48⟩ : ∃ z : PH, z = sA es46 90 (Int.toNat 2) (zI v47) := ⟨_, rfl⟩
          have hs_es48 : sh es48 := by rw [e_es48]; exact sh_sA hs_es46
          have hT_es48 : hOK tT es48 := by rw [e_es48]; exact hOK_sA hT_es46 (p := 90) (n := 8) rfl (fun _ => by rw [zI_toInt (by unfold i32 iLO iHI; omega)]; exact ⟨by show (0 : Int) ≤ v47; omega, by show v47 ≤ (9 : Int); omega⟩)
          rw [← e_es48]
          refine x_iinc (x := 2) i_231_66 rfl (by show 1 < 2; decide) ?_
          show aW _ _ _ _ _ _ (69, [some (.ref 143), some (.int (zI 3))], [], es48)
          refine x0 (r := (46, [some (.ref 143), some (.int (zI 3))], [], es48)) i_231_69 rfl ?_
          refine x0 (r := (47, [some (.ref 143), some (.int (zI 3))], [.int (zI 3)], es48)) i_231_46 rfl ?_
          refine x0 (r := (49, [some (.ref 143), some (.int (zI 3))], [.int (zI 8), .int (zI 3)], es48)) i_231_47 (by rfl) ?_
          refine x_cmpF i_231_49 (by unfold i32 iLO iHI; omega) (by unfold i32 iLO iHI; omega) rfl (by simp only [zC, cR]; omega) ?_
          refine x0 (r := (53, [some (.ref 143), some (.int (zI 3))], [.ref 143], es48)) i_231_52 rfl ?_
          refine x_getr (p := 79) (k := 154) i_231_53 hs_es48 rfl rfl ?_
          show aW _ _ _ _ _ _ (56, [some (.ref 143), some (.int (zI 3))], [.ref 154], es48)
          refine x0 (r := (57, [some (.ref 143), some (.int (zI 3))], [.int (zI 3), .ref 154], es48)) i_231_56 rfl ?_
          refine x0 (r := (58, [some (.ref 143), some (.int (zI 3))], [.ref 143, .int (zI 3), .ref 154], es48)) i_231_57 rfl ?_
          refine x_getr (p := 79) (k := 144) i_231_58 hs_es48 rfl rfl ?_
          show aW _ _ _ _ _ _ (61, [some (.ref 143), some (.int (zI 3))], [.ref 144, .int (zI 3), .ref 154], es48)
          refine x0 (r := (62, [some (.ref 143), some (.int (zI 3))], [.int (zI 5), .ref 144, .int (zI 3), .ref 154], es48)) i_231_61 (by rfl) ?_
          refine x0 (r := (63, [some (.ref 143), some (.int (zI 3))], [.int (zI 3), .int (zI 5), .ref 144, .int (zI 3), .ref 154], es48)) i_231_62 rfl ?_
          refine x_iadd i_231_63 ?_
          show aW _ _ _ _ _ _ (64, [some (.ref 143), some (.int (zI 3))], [.int (zI 8), .ref 144, .int (zI 3), .ref 154], es48)
          refine x_iald (p := 80) i_231_64 hs_es48 rfl (by unfold i32 iLO iHI; omega) (by omega) (by omega) ?_
          obtain ⟨v49, e_v49⟩ : ∃ z : Int, z = (gA es48 80 (Int.toNat 8)).toInt := ⟨_, rfl⟩
          rw [← e_v49]
          have r_v49 : iLO ≤ v49 ∧ v49 ≤ iHI := by rw [e_v49]; exact i32_rng _
          unfold iLO iHI at r_v49
          have b_v49 : (0 : Int) ≤ v49 ∧ v49 ≤ (9 : Int) := by rw [e_v49]; exact gA_bd hT_es48 (p := 80) (k := (Int.toNat 8)) rfl (by omega) (by decide)
          refine x_iast (p := 90) i_231_65 hs_es48 rfl (by unfold i32 iLO iHI; omega) (by omega) (by omega) ?_
          obtain ⟨es50, e_es50⟩ : ∃ z : PH, z = sA es48 90 (Int.toNat 3) (zI v49) := ⟨_, rfl⟩
          have hs_es50 : sh es50 := by rw [e_es50]; exact sh_sA hs_es48
          have hT_es50 : hOK tT es50 := by rw [e_es50]; exact hOK_sA hT_es48 (p := 90) (n := 8) rfl (fun _ => by rw [zI_toInt (by unfold i32 iLO iHI; omega)]; exact ⟨by show (0 : Int) ≤ v49; omega, by show v49 ≤ (9 : Int); omega⟩)
          rw [← e_es50]
          refine x_iinc (x := 3) i_231_66 rfl (by show 1 < 2; decide) ?_
          show aW _ _ _ _ _ _ (69, [some (.ref 143), some (.int (zI 4))], [], es50)
          refine x0 (r := (46, [some (.ref 143), some (.int (zI 4))], [], es50)) i_231_69 rfl ?_
          refine x0 (r := (47, [some (.ref 143), some (.int (zI 4))], [.int (zI 4)], es50)) i_231_46 rfl ?_
          refine x0 (r := (49, [some (.ref 143), some (.int (zI 4))], [.int (zI 8), .int (zI 4)], es50)) i_231_47 (by rfl) ?_
          refine x_cmpF i_231_49 (by unfold i32 iLO iHI; omega) (by unfold i32 iLO iHI; omega) rfl (by simp only [zC, cR]; omega) ?_
          refine x0 (r := (53, [some (.ref 143), some (.int (zI 4))], [.ref 143], es50)) i_231_52 rfl ?_
          refine x_getr (p := 79) (k := 154) i_231_53 hs_es50 rfl rfl ?_
          show aW _ _ _ _ _ _ (56, [some (.ref 143), some (.int (zI 4))], [.ref 154], es50)
          refine x0 (r := (57, [some (.ref 143), some (.int (zI 4))], [.int (zI 4), .ref 154], es50)) i_231_56 rfl ?_
          refine x0 (r := (58, [some (.ref 143), some (.int (zI 4))], [.ref 143, .int (zI 4), .ref 154], es50)) i_231_57 rfl ?_
          refine x_getr (p := 79) (k := 144) i_231_58 hs_es50 rfl rfl ?_
          show aW _ _ _ _ _ _ (61, [some (.ref 143), some (.int (zI 4))], [.ref 144, .int (zI 4), .ref 154], es50)
          refine x0 (r := (62, [some (.ref 143), some (.int (zI 4))], [.int (zI 5), .ref 144, .int (zI 4), .ref 154], es50)) i_231_61 (by rfl) ?_
          refine x0 (r := (63, [some (.ref 143), some (.int (zI 4))], [.int (zI 4), .int (zI 5), .ref 144, .int (zI 4), .ref 154], es50)) i_231_62 rfl ?_
          refine x_iadd i_231_63 ?_
          show aW _ _ _ _ _ _ (64, [some (.ref 143), some (.int (zI 4))], [.int (zI 9), .ref 144, .int (zI 4), .ref 154], es50)
          refine x_iald (p := 80) i_231_64 hs_es50 rfl (by unfold i32 iLO iHI; omega) (by omega) (by omega) ?_
          obtain ⟨v51, e_v51⟩ : ∃ z : Int, z = (gA es50 80 (Int.toNat 9)).toInt := ⟨_, rfl⟩
          rw [← e_v51]
          have r_v51 : iLO ≤ v51 ∧ v51 ≤ iHI := by rw [e_v51]; exact i32_rng _
          unfold iLO iHI at r_v51
          have b_v51 : (0 : Int) ≤ v51 ∧ v51 ≤ (9 : Int) := by rw [e_v51]; exact gA_bd hT_es50 (p := 80) (k := (Int.toNat 9)) rfl (by omega) (by decide)
          refine x_iast (p := 90) i_231_65 hs_es50 rfl (by unfold i32 iLO iHI; omega) (by omega) (by omega) ?_
          obtain ⟨es52, e_es52⟩ : ∃ z : PH, z = sA es50 90 (Int.toNat 4) (zI v51) := ⟨_, rfl⟩
          have hs_es52 : sh es52 := by rw [e_es52]; exact sh_sA hs_es50
          have hT_es52 : hOK tT es52 := by rw [e_es52]; exact hOK_sA hT_es50 (p := 90) (n := 8) rfl (fun _ => by rw [zI_toInt (by unfold i32 iLO iHI; omega)]; exact ⟨by show (0 : Int) ≤ v51; omega, by show v51 ≤ (9 : Int); omega⟩)
          rw [← e_es52]
          refine x_iinc (x := 4) i_231_66 rfl (by show 1 < 2; decide) ?_
          show aW _ _ _ _ _ _ (69, [some (.ref 143), some (.int (zI 5))], [], es52)
          refine x0 (r := (46, [some (.ref 143), some (.int (zI 5))], [], es52)) i_231_69 rfl ?_
          refine x0 (r := (47, [some (.ref 143), some (.int (zI 5))], [.int (zI 5)], es52)) i_231_46 rfl ?_
          refine x0 (r := (49, [some (.ref 143), some (.int (zI 5))], [.int (zI 8), .int (zI 5)], es52)) i_231_47 (by rfl) ?_
          refine x_cmpF i_231_49 (by unfold i32 iLO iHI; omega) (by unfold i32 iLO iHI; omega) rfl (by simp only [zC, cR]; omega) ?_
          refine x0 (r := (53, [some (.ref 143), some (.int (zI 5))], [.ref 143], es52)) i_231_52 rfl ?_
          refine x_getr (p := 79) (k := 154) i_231_53 hs_es52 rfl rfl ?_
          show aW _ _ _ _ _ _ (56, [some (.ref 143), some (.int (zI 5))], [.ref 154], es52)
          refine x0 (r := (57, [some (.ref 143), some (.int (zI 5))], [.int (zI 5), .ref 154], es52)) i_231_56 rfl ?_
          refine x0 (r := (58, [some (.ref 143), some (.int (zI 5))], [.ref 143, .int (zI 5), .ref 154], es52)) i_231_57 rfl ?_
          refine x_getr (p := 79) (k := 144) i_231_58 hs_es52 rfl rfl ?_
          show aW _ _ _ _ _ _ (61, [some (.ref 143), some (.int (zI 5))], [.ref 144, .int (zI 5), .ref 154], es52)
          refine x0 (r := (62, [some (.ref 143), some (.int (zI 5))], [.int (zI 5), .ref 144, .int (zI 5), .ref 154], es52)) i_231_61 (by rfl) ?_
          refine x0 (r := (63, [some (.ref 143), some (.int (zI 5))], [.int (zI 5), .int (zI 5), .ref 144, .int (zI 5), .ref 154], es52)) i_231_62 rfl ?_
          refine x_iadd i_231_63 ?_
          show aW _ _ _ _ _ _ (64, [some (.ref 143), some (.int (zI 5))], [.int (zI 10), .ref 144, .int (zI 5), .ref 154], es52)
          refine x_iald (p := 80) i_231_64 hs_es52 rfl (by unfold i32 iLO iHI; omega) (by omega) (by omega) ?_
          obtain ⟨v53, e_v53⟩ : ∃ z : Int, z = (gA es52 80 (Int.toNat 10)).toInt := ⟨_, rfl⟩
          rw [← e_v53]
          have r_v53 : iLO ≤ v53 ∧ v53 ≤ iHI := by rw [e_v53]; exact i32_rng _
          unfold iLO iHI at r_v53
          have b_v53 : (0 : Int) ≤ v53 ∧ v53 ≤ (9 : Int) := by rw [e_v53]; exact gA_bd hT_es52 (p := 80) (k := (Int.toNat 10)) rfl (by omega) (by decide)
          refine x_iast (p := 90) i_231_65 hs_es52 rfl (by unfold i32 iLO iHI; omega) (by omega) (by omega) ?_
          obtain ⟨es54, e_es54⟩ : ∃ z : PH, z = sA es52 90 (Int.toNat 5) (zI v53) := ⟨_, rfl⟩
          have hs_es54 : sh es54 := by rw [e_es54]; exact sh_sA hs_es52
          have hT_es54 : hOK tT es54 := by rw [e_es54]; exact hOK_sA hT_es52 (p := 90) (n := 8) rfl (fun _ => by rw [zI_toInt (by unfold i32 iLO iHI; omega)]; exact ⟨by show (0 : Int) ≤ v53; omega, by show v53 ≤ (9 : Int); omega⟩)
          rw [← e_es54]
          refine x_iinc (x := 5) i_231_66 rfl (by show 1 < 2; decide) ?_
          show aW _ _ _ _ _ _ (69, [some (.ref 143), some (.int (zI 6))], [], es54)
          refine x0 (r := (46, [some (.ref 143), some (.int (zI 6))], [], es54)) i_231_69 rfl ?_
          refine x0 (r := (47, [some (.ref 143), some (.int (zI 6))], [.int (zI 6)], es54)) i_231_46 rfl ?_
          refine x0 (r := (49, [some (.ref 143), some (.int (zI 6))], [.int (zI 8), .int (zI 6)], es54)) i_231_47 (by rfl) ?_
          refine x_cmpF i_231_49 (by unfold i32 iLO iHI; omega) (by unfold i32 iLO iHI; omega) rfl (by simp only [zC, cR]; omega) ?_
          refine x0 (r := (53, [some (.ref 143), some (.int (zI 6))], [.ref 143], es54)) i_231_52 rfl ?_
          refine x_getr (p := 79) (k := 154) i_231_53 hs_es54 rfl rfl ?_
          show aW _ _ _ _ _ _ (56, [some (.ref 143), some (.int (zI 6))], [.ref 154], es54)
          refine x0 (r := (57, [some (.ref 143), some (.int (zI 6))], [.int (zI 6), .ref 154], es54)) i_231_56 rfl ?_
          refine x0 (r := (58, [some (.ref 143), some (.int (zI 6))], [.ref 143, .int (zI 6), .ref 154], es54)) i_231_57 rfl ?_
          refine x_getr (p := 79) (k := 144) i_231_58 hs_es54 rfl rfl ?_
          show aW _ _ _ _ _ _ (61, [some (.ref 143), some (.int (zI 6))], [.ref 144, .int (zI 6), .ref 154], es54)
          refine x0 (r := (62, [some (.ref 143), some (.int (zI 6))], [.int (zI 5), .ref 144, .int (zI 6), .ref 154], es54)) i_231_61 (by rfl) ?_
          refine x0 (r := (63, [some (.ref 143), some (.int (zI 6))], [.int (zI 6), .int (zI 5), .ref 144, .int (zI 6), .ref 154], es54)) i_231_62 rfl ?_
          refine x_iadd i_231_63 ?_
          show aW _ _ _ _ _ _ (64, [some (.ref 143), some (.int (zI 6))], [.int (zI 11), .ref 144, .int (zI 6), .ref 154], es54)
          refine x_iald (p := 80) i_231_64 hs_es54 rfl (by unfold i32 iLO iHI; omega) (by omega) (by omega) ?_
          obtain ⟨v55, e_v55⟩ : ∃ z : Int, z = (gA es54 80 (Int.toNat 11)).toInt := ⟨_, rfl⟩
          rw [← e_v55]
          have r_v55 : iLO ≤ v55 ∧ v55 ≤ iHI := by rw [e_v55]; exact i32_rng _
          unfold iLO iHI at r_v55
          have b_v55 : (0 : Int) ≤ v55 ∧ v55 ≤ (9 : Int) := by rw [e_v55]; exact gA_bd hT_es54 (p := 80) (k := (Int.toNat 11)) rfl (by omega) (by decide)
          refine x_iast (p := 90) i_231_65 hs_es54 rfl (by unfold i32 iLO iHI; omega) (by omega) (by omega) ?_
          obtain ⟨es56, e_es56⟩ : ∃ z : PH, z = sA es54 90 (Int.toNat 6) (zI v55) := ⟨_, rfl⟩
          have hs_es56 : sh es56 := by rw [e_es56]; exact sh_sA hs_es54
          have hT_es56 : hOK tT es56 := by rw [e_es56]; exact hOK_sA hT_es54 (p := 90) (n := 8) rfl (fun _ => by rw [zI_toInt (by unfold i32 iLO iHI; omega)]; exact ⟨by show (0 : Int) ≤ v55; omega, by show v55 ≤ (9 : Int); omega⟩)
          rw [← e_es56]
          refine x_iinc (x := 6) i_231_66 rfl (by show 1 < 2; decide) ?_
          show aW _ _ _ _ _ _ (69, [some (.ref 143), some (.int (zI 7))], [], es56)
          refine x0 (r := (46, [some (.ref 143), some (.int (zI 7))], [], es56)) i_231_69 rfl ?_
          refine x0 (r := (47, [some (.ref 143), some (.int (zI 7))], [.int (zI 7)], es56)) i_231_46 rfl ?_
          refine x0 (r := (49, [some (.ref 143), some (.int (zI 7))], [.int (zI 8), .int (zI 7)], es56)) i_231_47 (by rfl) ?_
          refine x_cmpF i_231_49 (by unfold i32 iLO iHI; omega) (by unfold i32 iLO iHI; omega) rfl (by simp only [zC, cR]; omega) ?_
          refine x0 (r := (53, [some (.ref 143), some (.int (zI 7))], [.ref 143], es56)) i_231_52 rfl ?_
          refine x_getr (p := 79) (k := 154) i_231_53 hs_es56 rfl rfl ?_
          show aW _ _ _ _ _ _ (56, [some (.ref 143), some (.int (zI 7))], [.ref 154], es56)
          refine x0 (r := (57, [some (.ref 143), some (.int (zI 7))], [.int (zI 7), .ref 154], es56)) i_231_56 rfl ?_
          refine x0 (r := (58, [some (.ref 143), some (.int (zI 7))], [.ref 143, .int (zI 7), .ref 154], es56)) i_231_57 rfl ?_
          refine x_getr (p := 79) (k := 144) i_231_58 hs_es56 rfl rfl ?_
          show aW _ _ _ _ _ _ (61, [some (.ref 143), some (.int (zI 7))], [.ref 144, .int (zI 7), .ref 154], es56)
          refine x0 (r := (62, [some (.ref 143), some (.int (zI 7))], [.int (zI 5), .ref 144, .int (zI 7), .ref 154], es56)) i_231_61 (by rfl) ?_
          refine x0 (r := (63, [some (.ref 143), some (.int (zI 7))], [.int (zI 7), .int (zI 5), .ref 144, .int (zI 7), .ref 154], es56)) i_231_62 rfl ?_
          refine x_iadd i_231_63 ?_
          show aW _ _ _ _ _ _ (64, [some (.ref 143), some (.int (zI 7))], [.int (zI 12), .ref 144, .int (zI 7), .ref 154], es56)
          refine x_iald (p := 80) i_231_64 hs_es56 rfl (by unfold i32 iLO iHI; omega) (by omega) (by omega) ?_
          obtain ⟨v57, e_v57⟩ : ∃ z : Int, z = (gA es56 80 (Int.toNat 12)).toInt := ⟨_, rfl⟩
          rw [← e_v57]
          have r_v57 : iLO ≤ v57 ∧ v57 ≤ iHI := by rw [e_v57]; exact i32_rng _
          unfold iLO iHI at r_v57
          have b_v57 : (0 : Int) ≤ v57 ∧ v57 ≤ (9 : Int) := by rw [e_v57]; exact gA_bd hT_es56 (p := 80) (k := (Int.toNat 12)) rfl (by omega) (by decide)
          refine x_iast (p := 90) i_231_65 hs_es56 rfl (by unfold i32 iLO iHI; omega) (by omega) (by omega) ?_
          obtain ⟨es58, e_es58⟩ : ∃ z : PH, z = sA es56 90 (Int.toNat 7) (zI v57) := ⟨_, rfl⟩
          have hs_es58 : sh es58 := by rw [e_es58]; exact sh_sA hs_es56
          have hT_es58 : hOK tT es58 := by rw [e_es58]; exact hOK_sA hT_es56 (p := 90) (n := 8) rfl (fun _ => by rw [zI_toInt (by unfold i32 iLO iHI; omega)]; exact ⟨by show (0 : Int) ≤ v57; omega, by show v57 ≤ (9 : Int); omega⟩)
          rw [← e_es58]
          refine x_iinc (x := 7) i_231_66 rfl (by show 1 < 2; decide) ?_
          show aW _ _ _ _ _ _ (69, [some (.ref 143), some (.int (zI 8))], [], es58)
          refine x0 (r := (46, [some (.ref 143), some (.int (zI 8))], [], es58)) i_231_69 rfl ?_
          refine x0 (r := (47, [some (.ref 143), some (.int (zI 8))], [.int (zI 8)], es58)) i_231_46 rfl ?_
          refine x0 (r := (49, [some (.ref 143), some (.int (zI 8))], [.int (zI 8), .int (zI 8)], es58)) i_231_47 (by rfl) ?_
          refine x_cmpT i_231_49 (by unfold i32 iLO iHI; omega) (by unfold i32 iLO iHI; omega) rfl (by simp only [zC, cR]; omega) ?_
          refine x_ret (v := none) i_231_72 rfl (fun _ => rfl) rfl rfl rfl ?_
          show aW _ _ _ _ _ _ (24, [some (.ref 143), some (.int (zI bk)), none], [], es58)
          refine x0 (r := (25, [some (.ref 143), some (.int (zI bk)), none], [.ref 143], es58)) i_263_24 rfl ?_
          refine x0 (r := (26, [some (.ref 143), some (.int (zI bk)), none], [.int (zI 1), .ref 143], es58)) i_263_25 (by rfl) ?_
          refine x0 (r := (27, [some (.ref 143), some (.int (zI bk)), none], [.int (zI bk), .int (zI 1), .ref 143], es58)) i_263_26 rfl ?_
          refine x_op i_263_27 (w := (zI 1 <<< (zI bk &&& 31))) rfl rfl ?_
          obtain ⟨v59, e_v59⟩ : ∃ z : Int, z = (zI 1 <<< (zI bk &&& 31)).toInt := ⟨_, rfl⟩
          rw [← e_v59]
          have r_v59 : iLO ≤ v59 ∧ v59 ≤ iHI := by rw [e_v59]; exact i32_rng _
          unfold iLO iHI at r_v59
          refine x_puti (p := 79) (ty := .int) i_263_28 hs_es58 rfl rfl rfl (Or.inl rfl) ?_
          obtain ⟨es60, e_es60⟩ : ∃ z : PH, z = sI es58 79 18 (.int (zI v59)) := ⟨_, rfl⟩
          have hs_es60 : sh es60 := by rw [e_es60]; exact sh_sI hs_es58 (p := 79) (b := 18) rfl rfl
          have hT_es60 : hOK tT es60 := by rw [e_es60]; exact hOK_sI hT_es58 (p := 79) (b := 18) (lo := iLO) (hi := iHI) rfl rfl (i32_rng _)
          rw [← e_es60]
          refine x0 (r := (32, [some (.ref 143), some (.int (zI bk)), none], [.int (zI 0)], es60)) i_263_31 (by rfl) ?_
          refine x0 (r := (33, [some (.ref 143), some (.int (zI bk)), some (.int (zI 0))], [], es60)) i_263_32 rfl ?_
          refine x0 (r := (34, [some (.ref 143), some (.int (zI bk)), some (.int (zI 0))], [.int (zI 0)], es60)) i_263_33 rfl ?_
          refine x0 (r := (36, [some (.ref 143), some (.int (zI bk)), some (.int (zI 0))], [.int (zI 8), .int (zI 0)], es60)) i_263_34 (by rfl) ?_
          refine x_cmpF i_263_36 (by unfold i32 iLO iHI; omega) (by unfold i32 iLO iHI; omega) rfl (by simp only [zC, cR]; omega) ?_
          refine x0 (r := (40, [some (.ref 143), some (.int (zI bk)), some (.int (zI 0))], [.ref 143], es60)) i_263_39 rfl ?_
          refine x_getr (p := 79) (k := 154) i_263_40 hs_es60 rfl rfl ?_
          show aW _ _ _ _ _ _ (43, [some (.ref 143), some (.int (zI bk)), some (.int (zI 0))], [.ref 154], es60)
          refine x0 (r := (44, [some (.ref 143), some (.int (zI bk)), some (.int (zI 0))], [.int (zI 0), .ref 154], es60)) i_263_43 rfl ?_
          refine x0 (r := (45, [some (.ref 143), some (.int (zI bk)), some (.int (zI 0))], [.int (zI 0), .int (zI 0), .ref 154], es60)) i_263_44 (by rfl) ?_
          refine x_iast (p := 90) i_263_45 hs_es60 rfl (by unfold i32 iLO iHI; omega) (by omega) (by omega) ?_
          obtain ⟨es61, e_es61⟩ : ∃ z : PH, z = sA es60 90 (Int.toNat 0) (zI 0) := ⟨_, rfl⟩
          have hs_es61 : sh es61 := by rw [e_es61]; exact sh_sA hs_es60
          have hT_es61 : hOK tT es61 := by rw [e_es61]; exact hOK_sA hT_es60 (p := 90) (n := 8) rfl (fun _ => by rw [zI_toInt (by unfold i32 iLO iHI; omega)]; exact ⟨by show (0 : Int) ≤ 0; omega, by show 0 ≤ (9 : Int); omega⟩)
          rw [← e_es61]
          refine x_iinc (x := 0) i_263_46 rfl (by show 2 < 3; decide) ?_
          show aW _ _ _ _ _ _ (49, [some (.ref 143), some (.int (zI bk)), some (.int (zI 1))], [], es61)
          refine x0 (r := (33, [some (.ref 143), some (.int (zI bk)), some (.int (zI 1))], [], es61)) i_263_49 rfl ?_
          refine x0 (r := (34, [some (.ref 143), some (.int (zI bk)), some (.int (zI 1))], [.int (zI 1)], es61)) i_263_33 rfl ?_
          refine x0 (r := (36, [some (.ref 143), some (.int (zI bk)), some (.int (zI 1))], [.int (zI 8), .int (zI 1)], es61)) i_263_34 (by rfl) ?_
          refine x_cmpF i_263_36 (by unfold i32 iLO iHI; omega) (by unfold i32 iLO iHI; omega) rfl (by simp only [zC, cR]; omega) ?_
          refine x0 (r := (40, [some (.ref 143), some (.int (zI bk)), some (.int (zI 1))], [.ref 143], es61)) i_263_39 rfl ?_
          refine x_getr (p := 79) (k := 154) i_263_40 hs_es61 rfl rfl ?_
          show aW _ _ _ _ _ _ (43, [some (.ref 143), some (.int (zI bk)), some (.int (zI 1))], [.ref 154], es61)
          refine x0 (r := (44, [some (.ref 143), some (.int (zI bk)), some (.int (zI 1))], [.int (zI 1), .ref 154], es61)) i_263_43 rfl ?_
          refine x0 (r := (45, [some (.ref 143), some (.int (zI bk)), some (.int (zI 1))], [.int (zI 0), .int (zI 1), .ref 154], es61)) i_263_44 (by rfl) ?_
          refine x_iast (p := 90) i_263_45 hs_es61 rfl (by unfold i32 iLO iHI; omega) (by omega) (by omega) ?_
          obtain ⟨es62, e_es62⟩ : ∃ z : PH, z = sA es61 90 (Int.toNat 1) (zI 0) := ⟨_, rfl⟩
          have hs_es62 : sh es62 := by rw [e_es62]; exact sh_sA hs_es61
          have hT_es62 : hOK tT es62 := by rw [e_es62]; exact hOK_sA hT_es61 (p := 90) (n := 8) rfl (fun _ => by rw [zI_toInt (by unfold i32 iLO iHI; omega)]; exact ⟨by show (0 : Int) ≤ 0; omega, by show 0 ≤ (9 : Int); omega⟩)
          rw [← e_es62]
          refine x_iinc (x := 1) i_263_46 rfl (by show 2 < 3; decide) ?_
          show aW _ _ _ _ _ _ (49, [some (.ref 143), some (.int (zI bk)), some (.int (zI 2))], [], es62)
          refine x0 (r := (33, [some (.ref 143), some (.int (zI bk)), some (.int (zI 2))], [], es62)) i_263_49 rfl ?_
          refine x0 (r := (34, [some (.ref 143), some (.int (zI bk)), some (.int (zI 2))], [.int (zI 2)], es62)) i_263_33 rfl ?_
          refine x0 (r := (36, [some (.ref 143), some (.int (zI bk)), some (.int (zI 2))], [.int (zI 8), .int (zI 2)], es62)) i_263_34 (by rfl) ?_
          refine x_cmpF i_263_36 (by unfold i32 iLO iHI; omega) (by unfold i32 iLO iHI; omega) rfl (by simp only [zC, cR]; omega) ?_
          refine x0 (r := (40, [some (.ref 143), some (.int (zI bk)), some (.int (zI 2))], [.ref 143], es62)) i_263_39 rfl ?_
          refine x_getr (p := 79) (k := 154) i_263_40 hs_es62 rfl rfl ?_
          show aW _ _ _ _ _ _ (43, [some (.ref 143), some (.int (zI bk)), some (.int (zI 2))], [.ref 154], es62)
          refine x0 (r := (44, [some (.ref 143), some (.int (zI bk)), some (.int (zI 2))], [.int (zI 2), .ref 154], es62)) i_263_43 rfl ?_
          refine x0 (r := (45, [some (.ref 143), some (.int (zI bk)), some (.int (zI 2))], [.int (zI 0), .int (zI 2), .ref 154], es62)) i_263_44 (by rfl) ?_
          refine x_iast (p := 90) i_263_45 hs_es62 rfl (by unfold i32 iLO iHI; omega) (by omega) (by omega) ?_
          obtain ⟨es63, e_es63⟩ : ∃ z : PH, z = sA es62 90 (Int.toNat 2) (zI 0) := ⟨_, rfl⟩
          have hs_es63 : sh es63 := by rw [e_es63]; exact sh_sA hs_es62
          have hT_es63 : hOK tT es63 := by rw [e_es63]; exact hOK_sA hT_es62 (p := 90) (n := 8) rfl (fun _ => by rw [zI_toInt (by unfold i32 iLO iHI; omega)]; exact ⟨by show (0 : Int) ≤ 0; omega, by show 0 ≤ (9 : Int); omega⟩)
          rw [← e_es63]
          refine x_iinc (x := 2) i_263_46 rfl (by show 2 < 3; decide) ?_
          show aW _ _ _ _ _ _ (49, [some (.ref 143), some (.int (zI bk)), some (.int (zI 3))], [], es63)
          refine x0 (r := (33, [some (.ref 143), some (.int (zI bk)), some (.int (zI 3))], [], es63)) i_263_49 rfl ?_
          refine x0 (r := (34, [some (.ref 143), some (.int (zI bk)), some (.int (zI 3))], [.int (zI 3)], es63)) i_263_33 rfl ?_
          refine x0 (r := (36, [some (.ref 143), some (.int (zI bk)), some (.int (zI 3))], [.int (zI 8), .int (zI 3)], es63)) i_263_34 (by rfl) ?_
          refine x_cmpF i_263_36 (by unfold i32 iLO iHI; omega) (by unfold i32 iLO iHI; omega) rfl (by simp only [zC, cR]; omega) ?_
          refine x0 (r := (40, [some (.ref 143), some (.int (zI bk)), some (.int (zI 3))], [.ref 143], es63)) i_263_39 rfl ?_
          refine x_getr (p := 79) (k := 154) i_263_40 hs_es63 rfl rfl ?_
          show aW _ _ _ _ _ _ (43, [some (.ref 143), some (.int (zI bk)), some (.int (zI 3))], [.ref 154], es63)
          refine x0 (r := (44, [some (.ref 143), some (.int (zI bk)), some (.int (zI 3))], [.int (zI 3), .ref 154], es63)) i_263_43 rfl ?_
          refine x0 (r := (45, [some (.ref 143), some (.int (zI bk)), some (.int (zI 3))], [.int (zI 0), .int (zI 3), .ref 154], es63)) i_263_44 (by rfl) ?_
          refine x_iast (p := 90) i_263_45 hs_es63 rfl (by unfold i32 iLO iHI; omega) (by omega) (by omega) ?_
          obtain ⟨es64, e_es64⟩ : ∃ z : PH, z = sA es63 90 (Int.toNat 3) (zI 0) := ⟨_, rfl⟩
          have hs_es64 : sh es64 := by rw [e_es64]; exact sh_sA hs_es63
          have hT_es64 : hOK tT es64 := by rw [e_es64]; exact hOK_sA hT_es63 (p := 90) (n := 8) rfl (fun _ => by rw [zI_toInt (by unfold i32 iLO iHI; omega)]; exact ⟨by show (0 : Int) ≤ 0; omega, by show 0 ≤ (9 : Int); omega⟩)
          rw [← e_es64]
          refine x_iinc (x := 3) i_263_46 rfl (by show 2 < 3; decide) ?_
          show aW _ _ _ _ _ _ (49, [some (.ref 143), some (.int (zI bk)), some (.int (zI 4))], [], es64)
          refine x0 (r := (33, [some (.ref 143), some (.int (zI bk)), some (.int (zI 4))], [], es64)) i_263_49 rfl ?_
          refine x0 (r := (34, [some (.ref 143), some (.int (zI bk)), some (.int (zI 4))], [.int (zI 4)], es64)) i_263_33 rfl ?_
          refine x0 (r := (36, [some (.ref 143), some (.int (zI bk)), some (.int (zI 4))], [.int (zI 8), .int (zI 4)], es64)) i_263_34 (by rfl) ?_
          refine x_cmpF i_263_36 (by unfold i32 iLO iHI; omega) (by unfold i32 iLO iHI; omega) rfl (by simp only [zC, cR]; omega) ?_
          refine x0 (r := (40, [some (.ref 143), some (.int (zI bk)), some (.int (zI 4))], [.ref 143], es64)) i_263_39 rfl ?_
          refine x_getr (p := 79) (k := 154) i_263_40 hs_es64 rfl rfl ?_
          show aW _ _ _ _ _ _ (43, [some (.ref 143), some (.int (zI bk)), some (.int (zI 4))], [.ref 154], es64)
          refine x0 (r := (44, [some (.ref 143), some (.int (zI bk)), some (.int (zI 4))], [.int (zI 4), .ref 154], es64)) i_263_43 rfl ?_
          refine x0 (r := (45, [some (.ref 143), some (.int (zI bk)), some (.int (zI 4))], [.int (zI 0), .int (zI 4), .ref 154], es64)) i_263_44 (by rfl) ?_
          refine x_iast (p := 90) i_263_45 hs_es64 rfl (by unfold i32 iLO iHI; omega) (by omega) (by omega) ?_
          obtain ⟨es65, e_es65⟩ : ∃ z : PH, z = sA es64 90 (Int.toNat 4) (zI 0) := ⟨_, rfl⟩
          have hs_es65 : sh es65 := by rw [e_es65]; exact sh_sA hs_es64
          have hT_es65 : hOK tT es65 := by rw [e_es65]; exact hOK_sA hT_es64 (p := 90) (n := 8) rfl (fun _ => by rw [zI_toInt (by unfold i32 iLO iHI; omega)]; exact ⟨by show (0 : Int) ≤ 0; omega, by show 0 ≤ (9 : Int); omega⟩)
          rw [← e_es65]
          refine x_iinc (x := 4) i_263_46 rfl (by show 2 < 3; decide) ?_
          show aW _ _ _ _ _ _ (49, [some (.ref 143), some (.int (zI bk)), some (.int (zI 5))], [], es65)
          refine x0 (r := (33, [some (.ref 143), some (.int (zI bk)), some (.int (zI 5))], [], es65)) i_263_49 rfl ?_
          refine x0 (r := (34, [some (.ref 143), some (.int (zI bk)), some (.int (zI 5))], [.int (zI 5)], es65)) i_263_33 rfl ?_
          refine x0 (r := (36, [some (.ref 143), some (.int (zI bk)), some (.int (zI 5))], [.int (zI 8), .int (zI 5)], es65)) i_263_34 (by rfl) ?_
          refine x_cmpF i_263_36 (by unfold i32 iLO iHI; omega) (by unfold i32 iLO iHI; omega) rfl (by simp only [zC, cR]; omega) ?_
          refine x0 (r := (40, [some (.ref 143), some (.int (zI bk)), some (.int (zI 5))], [.ref 143], es65)) i_263_39 rfl ?_
          refine x_getr (p := 79) (k := 154) i_263_40 hs_es65 rfl rfl ?_
          show aW _ _ _ _ _ _ (43, [some (.ref 143), some (.int (zI bk)), some (.int (zI 5))], [.ref 154], es65)
          refine x0 (r := (44, [some (.ref 143), some (.int (zI bk)), some (.int (zI 5))], [.int (zI 5), .ref 154], es65)) i_263_43 rfl ?_
          refine x0 (r := (45, [some (.ref 143), some (.int (zI bk)), some (.int (zI 5))], [.int (zI 0), .int (zI 5), .ref 154], es65)) i_263_44 (by rfl) ?_
          refine x_iast (p := 90) i_263_45 hs_es65 rfl (by unfold i32 iLO iHI; omega) (by omega) (by omega) ?_
          obtain ⟨es66, e_es66⟩ : ∃ z : PH, z = sA es65 90 (Int.toNat 5) (zI 0) := ⟨_, rfl⟩
          have hs_es66 : sh es66 := by rw [e_es66]; exact sh_sA hs_es65
          have hT_es66 : hOK tT es66 := by rw [e_es66]; exact hOK_sA hT_es65 (p := 90) (n := 8) rfl (fun _ => by rw [zI_toInt (by unfold i32 iLO iHI; omega)]; exact ⟨by show (0 : Int) ≤ 0; omega, by show 0 ≤ (9 : Int); omega⟩)
          rw [← e_es66]
          refine x_iinc (x := 5) i_263_46 rfl (by show 2 < 3; decide) ?_
          show aW _ _ _ _ _ _ (49, [some (.ref 143), some (.int (zI bk)), some (.int (zI 6))], [], es66)
          refine x0 (r := (33, [some (.ref 143), some (.int (zI bk)), some (.int (zI 6))], [], es66)) i_263_49 rfl ?_
          refine x0 (r := (34, [some (.ref 143), some (.int (zI bk)), some (.int (zI 6))], [.int (zI 6)], es66)) i_263_33 rfl ?_
          refine x0 (r := (36, [some (.ref 143), some (.int (zI bk)), some (.int (zI 6))], [.int (zI 8), .int (zI 6)], es66)) i_263_34 (by rfl) ?_
          refine x_cmpF i_263_36 (by unfold i32 iLO iHI; omega) (by unfold i32 iLO iHI; omega) rfl (by simp only [zC, cR]; omega) ?_
          refine x0 (r := (40, [some (.ref 143), some (.int (zI bk)), some (.int (zI 6))], [.ref 143], es66)) i_263_39 rfl ?_
          refine x_getr (p := 79) (k := 154) i_263_40 hs_es66 rfl rfl ?_
          show aW _ _ _ _ _ _ (43, [some (.ref 143), some (.int (zI bk)), some (.int (zI 6))], [.ref 154], es66)
          refine x0 (r := (44, [some (.ref 143), some (.int (zI bk)), some (.int (zI 6))], [.int (zI 6), .ref 154], es66)) i_263_43 rfl ?_
          refine x0 (r := (45, [some (.ref 143), some (.int (zI bk)), some (.int (zI 6))], [.int (zI 0), .int (zI 6), .ref 154], es66)) i_263_44 (by rfl) ?_
          refine x_iast (p := 90) i_263_45 hs_es66 rfl (by unfold i32 iLO iHI; omega) (by omega) (by omega) ?_
          obtain ⟨es67, e_es67⟩ : ∃ z : PH, z = sA es66 90 (Int.toNat 6) (zI 0) := ⟨_, rfl⟩
          have hs_es67 : sh es67 := by rw [e_es67]; exact sh_sA hs_es66
          have hT_es67 : hOK tT es67 := by rw [e_es67]; exact hOK_sA hT_es66 (p := 90) (n := 8) rfl (fun _ => by rw [zI_toInt (by unfold i32 iLO iHI; omega)]; exact ⟨by show (0 : Int) ≤ 0; omega, by show 0 ≤ (9 : Int); omega⟩)
          rw [← e_es67]
          refine x_iinc (x := 6) i_263_46 rfl (by show 2 < 3; decide) ?_
          show aW _ _ _ _ _ _ (49, [some (.ref 143), some (.int (zI bk)), some (.int (zI 7))], [], es67)
          refine x0 (r := (33, [some (.ref 143), some (.int (zI bk)), some (.int (zI 7))], [], es67)) i_263_49 rfl ?_
          refine x0 (r := (34, [some (.ref 143), some (.int (zI bk)), some (.int (zI 7))], [.int (zI 7)], es67)) i_263_33 rfl ?_
          refine x0 (r := (36, [some (.ref 143), some (.int (zI bk)), some (.int (zI 7))], [.int (zI 8), .int (zI 7)], es67)) i_263_34 (by rfl) ?_
          refine x_cmpF i_263_36 (by unfold i32 iLO iHI; omega) (by unfold i32 iLO iHI; omega) rfl (by simp only [zC, cR]; omega) ?_
          refine x0 (r := (40, [some (.ref 143), some (.int (zI bk)), some (.int (zI 7))], [.ref 143], es67)) i_263_39 rfl ?_
          refine x_getr (p := 79) (k := 154) i_263_40 hs_es67 rfl rfl ?_
          show aW _ _ _ _ _ _ (43, [some (.ref 143), some (.int (zI bk)), some (.int (zI 7))], [.ref 154], es67)
          refine x0 (r := (44, [some (.ref 143), some (.int (zI bk)), some (.int (zI 7))], [.int (zI 7), .ref 154], es67)) i_263_43 rfl ?_
          refine x0 (r := (45, [some (.ref 143), some (.int (zI bk)), some (.int (zI 7))], [.int (zI 0), .int (zI 7), .ref 154], es67)) i_263_44 (by rfl) ?_
          refine x_iast (p := 90) i_263_45 hs_es67 rfl (by unfold i32 iLO iHI; omega) (by omega) (by omega) ?_
          obtain ⟨es68, e_es68⟩ : ∃ z : PH, z = sA es67 90 (Int.toNat 7) (zI 0) := ⟨_, rfl⟩
          have hs_es68 : sh es68 := by rw [e_es68]; exact sh_sA hs_es67
          have hT_es68 : hOK tT es68 := by rw [e_es68]; exact hOK_sA hT_es67 (p := 90) (n := 8) rfl (fun _ => by rw [zI_toInt (by unfold i32 iLO iHI; omega)]; exact ⟨by show (0 : Int) ≤ 0; omega, by show 0 ≤ (9 : Int); omega⟩)
          rw [← e_es68]
          refine x_iinc (x := 7) i_263_46 rfl (by show 2 < 3; decide) ?_
          show aW _ _ _ _ _ _ (49, [some (.ref 143), some (.int (zI bk)), some (.int (zI 8))], [], es68)
          refine x0 (r := (33, [some (.ref 143), some (.int (zI bk)), some (.int (zI 8))], [], es68)) i_263_49 rfl ?_
          refine x0 (r := (34, [some (.ref 143), some (.int (zI bk)), some (.int (zI 8))], [.int (zI 8)], es68)) i_263_33 rfl ?_
          refine x0 (r := (36, [some (.ref 143), some (.int (zI bk)), some (.int (zI 8))], [.int (zI 8), .int (zI 8)], es68)) i_263_34 (by rfl) ?_
          refine x_cmpT i_263_36 (by unfold i32 iLO iHI; omega) (by unfold i32 iLO iHI; omega) rfl (by simp only [zC, cR]; omega) ?_
          refine x0 (r := (53, [some (.ref 143), some (.int (zI bk)), some (.int (zI 8))], [.ref 143], es68)) i_263_52 rfl ?_
          refine x0 (r := (54, [some (.ref 143), some (.int (zI bk)), some (.int (zI 8))], [.int (zI 0), .ref 143], es68)) i_263_53 (by rfl) ?_
          refine x_puti (p := 79) (ty := .int) i_263_54 hs_es68 rfl rfl rfl (Or.inl rfl) ?_
          obtain ⟨es69, e_es69⟩ : ∃ z : PH, z = sI es68 79 27 (.int (zI 0)) := ⟨_, rfl⟩
          have hs_es69 : sh es69 := by rw [e_es69]; exact sh_sI hs_es68 (p := 79) (b := 27) rfl rfl
          have hT_es69 : hOK tT es69 := by rw [e_es69]; exact hOK_sI hT_es68 (p := 79) (b := 27) (lo := iLO) (hi := iHI) rfl rfl (i32_rng _)
          rw [← e_es69]
          refine x0 (r := (58, [some (.ref 143), some (.int (zI bk)), some (.int (zI 8))], [.ref 143], es69)) i_263_57 rfl ?_
          refine x0 (r := (59, [some (.ref 143), some (.int (zI bk)), some (.int (zI 8))], [.int (zI 0), .ref 143], es69)) i_263_58 (by rfl) ?_
          refine x_puti (p := 79) (ty := .boolean) i_263_59 hs_es69 rfl rfl rfl (Or.inr ⟨rfl, by omega⟩) ?_
          obtain ⟨es70, e_es70⟩ : ∃ z : PH, z = sI es69 79 29 (.int (zI 0)) := ⟨_, rfl⟩
          have hs_es70 : sh es70 := by rw [e_es70]; exact sh_sI hs_es69 (p := 79) (b := 29) rfl rfl
          have hT_es70 : hOK tT es70 := by rw [e_es70]; exact hOK_sI hT_es69 (p := 79) (b := 29) rfl rfl (by rw [zI_toInt (by unfold i32 iLO iHI; omega)]; exact ⟨by show (0 : Int) ≤ 0; omega, by show 0 ≤ (1 : Int); omega⟩)
          rw [← e_es70]
          refine x0 (r := (63, [some (.ref 143), some (.int (zI bk)), some (.int (zI 8))], [.ref 143], es70)) i_263_62 rfl ?_
          refine x0 (r := (64, [some (.ref 143), some (.int (zI bk)), some (.int (zI 8))], [.int (zI 1), .ref 143], es70)) i_263_63 (by rfl) ?_
          refine x_puti (p := 79) (ty := .boolean) i_263_64 hs_es70 rfl rfl rfl (Or.inr ⟨rfl, by omega⟩) ?_
          obtain ⟨es71, e_es71⟩ : ∃ z : PH, z = sI es70 79 30 (.int (zI 1)) := ⟨_, rfl⟩
          have hs_es71 : sh es71 := by rw [e_es71]; exact sh_sI hs_es70 (p := 79) (b := 30) rfl rfl
          have hT_es71 : hOK tT es71 := by rw [e_es71]; exact hOK_sI hT_es70 (p := 79) (b := 30) rfl rfl (by rw [zI_toInt (by unfold i32 iLO iHI; omega)]; exact ⟨by show (0 : Int) ≤ 1; omega, by show 1 ≤ (1 : Int); omega⟩)
          rw [← e_es71]
          refine x0 (r := (68, [some (.ref 143), some (.int (zI bk)), some (.int (zI 8))], [.ref 143], es71)) i_263_67 rfl ?_
          refine x0 (r := (70, [some (.ref 143), some (.int (zI bk)), some (.int (zI 8))], [.int (zI 30), .ref 143], es71)) i_263_68 (by rfl) ?_
          refine x_puti (p := 79) (ty := .int) i_263_70 hs_es71 rfl rfl rfl (Or.inl rfl) ?_
          obtain ⟨es72, e_es72⟩ : ∃ z : PH, z = sI es71 79 35 (.int (zI 30)) := ⟨_, rfl⟩
          have hs_es72 : sh es72 := by rw [e_es72]; exact sh_sI hs_es71 (p := 79) (b := 35) rfl rfl
          have hT_es72 : hOK tT es72 := by rw [e_es72]; exact hOK_sI hT_es71 (p := 79) (b := 35) rfl rfl (by rw [zI_toInt (by unfold i32 iLO iHI; omega)]; exact ⟨by show (0 : Int) ≤ 30; omega, by show 30 ≤ (2147483647 : Int); omega⟩)
          rw [← e_es72]
          refine x0 (r := (74, [some (.ref 143), some (.int (zI bk)), some (.int (zI 8))], [.ref 143], es72)) i_263_73 rfl ?_
          refine x0 (r := (75, [some (.ref 143), some (.int (zI bk)), some (.int (zI 8))], [.int (zI 0), .ref 143], es72)) i_263_74 (by rfl) ?_
          exact K4 es1 e_es1 v2 e_v2 c3 c5 v7 e_v7 es8 e_es8 c9 v40 e_v40 es41 e_es41 c42 v43 e_v43 es44 e_es44 v45 e_v45 es46 e_es46 v47 e_v47 es48 e_es48 v49 e_v49 es50 e_es50 v51 e_v51 es52 e_es52 v53 e_v53 es54 e_es54 v55 e_v55 es56 e_es56 v57 e_v57 es58 e_es58 v59 e_v59 es60 e_es60 es61 e_es61 es62 e_es62 es63 e_es63 es64 e_es64 es65 e_es65 es66 e_es66 es67 e_es67 es68 e_es68 es69 e_es69 es70 e_es70 es71 e_es71 es72 e_es72 hT_es72
        · refine x_cmpF i_231_23 (by unfold i32 iLO iHI; omega) (by unfold i32 iLO iHI; omega) rfl (by simp only [zC, cR]; omega) ?_
          refine x0 (r := (27, [some (.ref 143), some (.int (zI 1))], [.ref 143], es41)) i_231_26 rfl ?_
          refine x_getr (p := 79) (k := 153) i_231_27 hs_es41 rfl rfl ?_
          show aW _ _ _ _ _ _ (30, [some (.ref 143), some (.int (zI 1))], [.ref 153], es41)
          refine x0 (r := (31, [some (.ref 143), some (.int (zI 1))], [.int (zI 1), .ref 153], es41)) i_231_30 rfl ?_
          refine x0 (r := (32, [some (.ref 143), some (.int (zI 1))], [.ref 143, .int (zI 1), .ref 153], es41)) i_231_31 rfl ?_
          refine x0 (r := (33, [some (.ref 143), some (.int (zI 1))], [.int (zI 1), .ref 143, .int (zI 1), .ref 153], es41)) i_231_32 rfl ?_
          refine x0 (r := (34, [some (.ref 143), some (.int (zI 1))], [.int (zI 0), .int (zI 1), .ref 143, .int (zI 1), .ref 153], es41)) i_231_33 (by rfl) ?_
          refine x_call (vs := [.ref 143, .int (zI 1), .int (zI 0)]) (rs := [.int (zI 1), .ref 153]) i_231_34 rfl (fun _ => rfl) rfl rfl rfl rfl rfl (pCall_v (p := 79) hs_es41 rfl rfl rfl rfl rfl (by decide) rfl rfl rfl rfl rfl) ?_
          show aW _ _ _ _ _ _ (0, [some (.ref 143), some (.int (zI 1)), some (.int (zI 0))], [], es41)
          refine x0 (r := (1, [some (.ref 143), some (.int (zI 1)), some (.int (zI 0))], [.ref 143], es41)) i_206_0 rfl ?_
          refine x_getr (p := 79) (k := 144) i_206_1 hs_es41 rfl rfl ?_
          show aW _ _ _ _ _ _ (4, [some (.ref 143), some (.int (zI 1)), some (.int (zI 0))], [.ref 144], es41)
          refine x0 (r := (6, [some (.ref 143), some (.int (zI 1)), some (.int (zI 0))], [.int (zI 119), .ref 144], es41)) i_206_4 (by rfl) ?_
          refine x0 (r := (8, [some (.ref 143), some (.int (zI 1)), some (.int (zI 0))], [.int (zI 98), .int (zI 119), .ref 144], es41)) i_206_6 (by rfl) ?_
          refine x0 (r := (9, [some (.ref 143), some (.int (zI 1)), some (.int (zI 0))], [.int (zI 1), .int (zI 98), .int (zI 119), .ref 144], es41)) i_206_8 rfl ?_
          refine x_imul i_206_9 ?_
          show aW _ _ _ _ _ _ (10, [some (.ref 143), some (.int (zI 1)), some (.int (zI 0))], [.int (zI 98), .int (zI 119), .ref 144], es41)
          refine x_iadd i_206_10 ?_
          show aW _ _ _ _ _ _ (11, [some (.ref 143), some (.int (zI 1)), some (.int (zI 0))], [.int (zI 217), .ref 144], es41)
          refine x0 (r := (12, [some (.ref 143), some (.int (zI 1)), some (.int (zI 0))], [.int (zI 0), .int (zI 217), .ref 144], es41)) i_206_11 rfl ?_
          refine x_iadd i_206_12 ?_
          show aW _ _ _ _ _ _ (13, [some (.ref 143), some (.int (zI 1)), some (.int (zI 0))], [.int (zI 217), .ref 144], es41)
          refine x_iald (p := 80) i_206_13 hs_es41 rfl (by unfold i32 iLO iHI; omega) (by omega) (by omega) ?_
          obtain ⟨v73, e_v73⟩ : ∃ z : Int, z = (gA es41 80 (Int.toNat 217)).toInt := ⟨_, rfl⟩
          rw [← e_v73]
          have r_v73 : iLO ≤ v73 ∧ v73 ≤ iHI := by rw [e_v73]; exact i32_rng _
          unfold iLO iHI at r_v73
          have b_v73 : (0 : Int) ≤ v73 ∧ v73 ≤ (1 : Int) := by rw [e_v73]; exact gA_bd hT_es41 (p := 80) (k := (Int.toNat 217)) rfl (by omega) (by decide)
          refine x_ret (v := some (.int (zI v73))) i_206_14 rfl (fun _ => rfl) rfl rfl rfl ?_
          show aW _ _ _ _ _ _ (37, [some (.ref 143), some (.int (zI 1))], [.int (zI v73), .int (zI 1), .ref 153], es41)
          refine x_iast (p := 89) i_231_37 hs_es41 rfl (by unfold i32 iLO iHI; omega) (by omega) (by omega) ?_
          obtain ⟨es74, e_es74⟩ : ∃ z : PH, z = sA es41 89 (Int.toNat 1) (zI v73) := ⟨_, rfl⟩
          have hs_es74 : sh es74 := by rw [e_es74]; exact sh_sA hs_es41
          have hT_es74 : hOK tT es74 := by rw [e_es74]; exact hOK_sA hT_es41 (p := 89) (n := 3) rfl (fun _ => by rw [zI_toInt (by unfold i32 iLO iHI; omega)]; exact ⟨by show (0 : Int) ≤ v73; omega, by show v73 ≤ (1 : Int); omega⟩)
          rw [← e_es74]
          refine x_iinc (x := 1) i_231_38 rfl (by show 1 < 2; decide) ?_
          show aW _ _ _ _ _ _ (41, [some (.ref 143), some (.int (zI 2))], [], es74)
          refine x0 (r := (16, [some (.ref 143), some (.int (zI 2))], [], es74)) i_231_41 rfl ?_
          refine x0 (r := (17, [some (.ref 143), some (.int (zI 2))], [.int (zI 2)], es74)) i_231_16 rfl ?_
          refine x0 (r := (18, [some (.ref 143), some (.int (zI 2))], [.ref 143, .int (zI 2)], es74)) i_231_17 rfl ?_
          refine x_getr (p := 79) (k := 144) i_231_18 hs_es74 rfl rfl ?_
          show aW _ _ _ _ _ _ (21, [some (.ref 143), some (.int (zI 2))], [.ref 144, .int (zI 2)], es74)
          refine x0 (r := (22, [some (.ref 143), some (.int (zI 2))], [.int (zI 1), .ref 144, .int (zI 2)], es74)) i_231_21 (by rfl) ?_
          refine x_iald (p := 80) i_231_22 hs_es74 rfl (by unfold i32 iLO iHI; omega) (by omega) (by omega) ?_
          rw [show (gA es74 80 (Int.toNat 1)).toInt = v2 from by rw [e_es74, gA_sA_ne (by decide), e_es41, gA_sA_ne (by decide), e_es8, gA_sI]; exact e_v2.symm]
          by_cases c75 : v2 ≤ 2
          · refine x_cmpT i_231_23 (by unfold i32 iLO iHI; omega) (by unfold i32 iLO iHI; omega) rfl (by simp only [zC, cR]; omega) ?_
            refine x0 (r := (45, [some (.ref 143), some (.int (zI 2))], [.int (zI 0)], es74)) i_231_44 (by rfl) ?_
            refine x0 (r := (46, [some (.ref 143), some (.int (zI 0))], [], es74)) i_231_45 rfl ?_
            refine x0 (r := (47, [some (.ref 143), some (.int (zI 0))], [.int (zI 0)], es74)) i_231_46 rfl ?_
            refine x0 (r := (49, [some (.ref 143), some (.int (zI 0))], [.int (zI 8), .int (zI 0)], es74)) i_231_47 (by rfl) ?_
            refine x_cmpF i_231_49 (by unfold i32 iLO iHI; omega) (by unfold i32 iLO iHI; omega) rfl (by simp only [zC, cR]; omega) ?_
            refine x0 (r := (53, [some (.ref 143), some (.int (zI 0))], [.ref 143], es74)) i_231_52 rfl ?_
            refine x_getr (p := 79) (k := 154) i_231_53 hs_es74 rfl rfl ?_
            show aW _ _ _ _ _ _ (56, [some (.ref 143), some (.int (zI 0))], [.ref 154], es74)
            refine x0 (r := (57, [some (.ref 143), some (.int (zI 0))], [.int (zI 0), .ref 154], es74)) i_231_56 rfl ?_
            refine x0 (r := (58, [some (.ref 143), some (.int (zI 0))], [.ref 143, .int (zI 0), .ref 154], es74)) i_231_57 rfl ?_
            refine x_getr (p := 79) (k := 144) i_231_58 hs_es74 rfl rfl ?_
            show aW _ _ _ _ _ _ (61, [some (.ref 143), some (.int (zI 0))], [.ref 144, .int (zI 0), .ref 154], es74)
            refine x0 (r := (62, [some (.ref 143), some (.int (zI 0))], [.int (zI 5), .ref 144, .int (zI 0), .ref 154], es74)) i_231_61 (by rfl) ?_
            refine x0 (r := (63, [some (.ref 143), some (.int (zI 0))], [.int (zI 0), .int (zI 5), .ref 144, .int (zI 0), .ref 154], es74)) i_231_62 rfl ?_
            refine x_iadd i_231_63 ?_
            show aW _ _ _ _ _ _ (64, [some (.ref 143), some (.int (zI 0))], [.int (zI 5), .ref 144, .int (zI 0), .ref 154], es74)
            refine x_iald (p := 80) i_231_64 hs_es74 rfl (by unfold i32 iLO iHI; omega) (by omega) (by omega) ?_
            obtain ⟨v76, e_v76⟩ : ∃ z : Int, z = (gA es74 80 (Int.toNat 5)).toInt := ⟨_, rfl⟩
            rw [← e_v76]
            have r_v76 : iLO ≤ v76 ∧ v76 ≤ iHI := by rw [e_v76]; exact i32_rng _
            unfold iLO iHI at r_v76
            have b_v76 : (0 : Int) ≤ v76 ∧ v76 ≤ (9 : Int) := by rw [e_v76]; exact gA_bd hT_es74 (p := 80) (k := (Int.toNat 5)) rfl (by omega) (by decide)
            refine x_iast (p := 90) i_231_65 hs_es74 rfl (by unfold i32 iLO iHI; omega) (by omega) (by omega) ?_
            obtain ⟨es77, e_es77⟩ : ∃ z : PH, z = sA es74 90 (Int.toNat 0) (zI v76) := ⟨_, rfl⟩
            have hs_es77 : sh es77 := by rw [e_es77]; exact sh_sA hs_es74
            have hT_es77 : hOK tT es77 := by rw [e_es77]; exact hOK_sA hT_es74 (p := 90) (n := 8) rfl (fun _ => by rw [zI_toInt (by unfold i32 iLO iHI; omega)]; exact ⟨by show (0 : Int) ≤ v76; omega, by show v76 ≤ (9 : Int); omega⟩)
            rw [← e_es77]
            refine x_iinc (x := 0) i_231_66 rfl (by show 1 < 2; decide) ?_
            show aW _ _ _ _ _ _ (69, [some (.ref 143), some (.int (zI 1))], [], es77)
            refine x0 (r := (46, [some (.ref 143), some (.int (zI 1))], [], es77)) i_231_69 rfl ?_
            refine x0 (r := (47, [some (.ref 143), some (.int (zI 1))], [.int (zI 1)], es77)) i_231_46 rfl ?_
            refine x0 (r := (49, [some (.ref 143), some (.int (zI 1))], [.int (zI 8), .int (zI 1)], es77)) i_231_47 (by rfl) ?_
            refine x_cmpF i_231_49 (by unfold i32 iLO iHI; omega) (by unfold i32 iLO iHI; omega) rfl (by simp only [zC, cR]; omega) ?_
            refine x0 (r := (53, [some (.ref 143), some (.int (zI 1))], [.ref 143], es77)) i_231_52 rfl ?_
            refine x_getr (p := 79) (k := 154) i_231_53 hs_es77 rfl rfl ?_
            show aW _ _ _ _ _ _ (56, [some (.ref 143), some (.int (zI 1))], [.ref 154], es77)
            refine x0 (r := (57, [some (.ref 143), some (.int (zI 1))], [.int (zI 1), .ref 154], es77)) i_231_56 rfl ?_
            refine x0 (r := (58, [some (.ref 143), some (.int (zI 1))], [.ref 143, .int (zI 1), .ref 154], es77)) i_231_57 rfl ?_
            refine x_getr (p := 79) (k := 144) i_231_58 hs_es77 rfl rfl ?_
            show aW _ _ _ _ _ _ (61, [some (.ref 143), some (.int (zI 1))], [.ref 144, .int (zI 1), .ref 154], es77)
            refine x0 (r := (62, [some (.ref 143), some (.int (zI 1))], [.int (zI 5), .ref 144, .int (zI 1), .ref 154], es77)) i_231_61 (by rfl) ?_
            refine x0 (r := (63, [some (.ref 143), some (.int (zI 1))], [.int (zI 1), .int (zI 5), .ref 144, .int (zI 1), .ref 154], es77)) i_231_62 rfl ?_
            refine x_iadd i_231_63 ?_
            show aW _ _ _ _ _ _ (64, [some (.ref 143), some (.int (zI 1))], [.int (zI 6), .ref 144, .int (zI 1), .ref 154], es77)
            refine x_iald (p := 80) i_231_64 hs_es77 rfl (by unfold i32 iLO iHI; omega) (by omega) (by omega) ?_
            obtain ⟨v78, e_v78⟩ : ∃ z : Int, z = (gA es77 80 (Int.toNat 6)).toInt := ⟨_, rfl⟩
            rw [← e_v78]
            have r_v78 : iLO ≤ v78 ∧ v78 ≤ iHI := by rw [e_v78]; exact i32_rng _
            unfold iLO iHI at r_v78
            have b_v78 : (0 : Int) ≤ v78 ∧ v78 ≤ (9 : Int) := by rw [e_v78]; exact gA_bd hT_es77 (p := 80) (k := (Int.toNat 6)) rfl (by omega) (by decide)
            refine x_iast (p := 90) i_231_65 hs_es77 rfl (by unfold i32 iLO iHI; omega) (by omega) (by omega) ?_
            obtain ⟨es79, e_es79⟩ : ∃ z : PH, z = sA es77 90 (Int.toNat 1) (zI v78) := ⟨_, rfl⟩
            have hs_es79 : sh es79 := by rw [e_es79]; exact sh_sA hs_es77
            have hT_es79 : hOK tT es79 := by rw [e_es79]; exact hOK_sA hT_es77 (p := 90) (n := 8) rfl (fun _ => by rw [zI_toInt (by unfold i32 iLO iHI; omega)]; exact ⟨by show (0 : Int) ≤ v78; omega, by show v78 ≤ (9 : Int); omega⟩)
            rw [← e_es79]
            refine x_iinc (x := 1) i_231_66 rfl (by show 1 < 2; decide) ?_
            show aW _ _ _ _ _ _ (69, [some (.ref 143), some (.int (zI 2))], [], es79)
            refine x0 (r := (46, [some (.ref 143), some (.int (zI 2))], [], es79)) i_231_69 rfl ?_
            refine x0 (r := (47, [some (.ref 143), some (.int (zI 2))], [.int (zI 2)], es79)) i_231_46 rfl ?_
            refine x0 (r := (49, [some (.ref 143), some (.int (zI 2))], [.int (zI 8), .int (zI 2)], es79)) i_231_47 (by rfl) ?_
            refine x_cmpF i_231_49 (by unfold i32 iLO iHI; omega) (by unfold i32 iLO iHI; omega) rfl (by simp only [zC, cR]; omega) ?_
            refine x0 (r := (53, [some (.ref 143), some (.int (zI 2))], [.ref 143], es79)) i_231_52 rfl ?_
            refine x_getr (p := 79) (k := 154) i_231_53 hs_es79 rfl rfl ?_
            show aW _ _ _ _ _ _ (56, [some (.ref 143), some (.int (zI 2))], [.ref 154], es79)
            refine x0 (r := (57, [some (.ref 143), some (.int (zI 2))], [.int (zI 2), .ref 154], es79)) i_231_56 rfl ?_
            refine x0 (r := (58, [some (.ref 143), some (.int (zI 2))], [.ref 143, .int (zI 2), .ref 154], es79)) i_231_57 rfl ?_
            refine x_getr (p := 79) (k := 144) i_231_58 hs_es79 rfl rfl ?_
            show aW _ _ _ _ _ _ (61, [some (.ref 143), some (.int (zI 2))], [.ref 144, .int (zI 2), .ref 154], es79)
            refine x0 (r := (62, [some (.ref 143), some (.int (zI 2))], [.int (zI 5), .ref 144, .int (zI 2), .ref 154], es79)) i_231_61 (by rfl) ?_
            refine x0 (r := (63, [some (.ref 143), some (.int (zI 2))], [.int (zI 2), .int (zI 5), .ref 144, .int (zI 2), .ref 154], es79)) i_231_62 rfl ?_
            refine x_iadd i_231_63 ?_
            show aW _ _ _ _ _ _ (64, [some (.ref 143), some (.int (zI 2))], [.int (zI 7), .ref 144, .int (zI 2), .ref 154], es79)
            refine x_iald (p := 80) i_231_64 hs_es79 rfl (by unfold i32 iLO iHI; omega) (by omega) (by omega) ?_
            obtain ⟨v80, e_v80⟩ : ∃ z : Int, z = (gA es79 80 (Int.toNat 7)).toInt := ⟨_, rfl⟩
            rw [← e_v80]
            have r_v80 : iLO ≤ v80 ∧ v80 ≤ iHI := by rw [e_v80]; exact i32_rng _
            unfold iLO iHI at r_v80
            have b_v80 : (0 : Int) ≤ v80 ∧ v80 ≤ (9 : Int) := by rw [e_v80]; exact gA_bd hT_es79 (p := 80) (k := (Int.toNat 7)) rfl (by omega) (by decide)
            refine x_iast (p := 90) i_231_65 hs_es79 rfl (by unfold i32 iLO iHI; omega) (by omega) (by omega) ?_
            obtain ⟨es81, e_es81⟩ : ∃ z : PH, z = sA es79 90 (Int.toNat 2) (zI v80) := ⟨_, rfl⟩
            have hs_es81 : sh es81 := by rw [e_es81]; exact sh_sA hs_es79
            have hT_es81 : hOK tT es81 := by rw [e_es81]; exact hOK_sA hT_es79 (p := 90) (n := 8) rfl (fun _ => by rw [zI_toInt (by unfold i32 iLO iHI; omega)]; exact ⟨by show (0 : Int) ≤ v80; omega, by show v80 ≤ (9 : Int); omega⟩)
            rw [← e_es81]
            refine x_iinc (x := 2) i_231_66 rfl (by show 1 < 2; decide) ?_
            show aW _ _ _ _ _ _ (69, [some (.ref 143), some (.int (zI 3))], [], es81)
            refine x0 (r := (46, [some (.ref 143), some (.int (zI 3))], [], es81)) i_231_69 rfl ?_
            refine x0 (r := (47, [some (.ref 143), some (.int (zI 3))], [.int (zI 3)], es81)) i_231_46 rfl ?_
            refine x0 (r := (49, [some (.ref 143), some (.int (zI 3))], [.int (zI 8), .int (zI 3)], es81)) i_231_47 (by rfl) ?_
            refine x_cmpF i_231_49 (by unfold i32 iLO iHI; omega) (by unfold i32 iLO iHI; omega) rfl (by simp only [zC, cR]; omega) ?_
            refine x0 (r := (53, [some (.ref 143), some (.int (zI 3))], [.ref 143], es81)) i_231_52 rfl ?_
            refine x_getr (p := 79) (k := 154) i_231_53 hs_es81 rfl rfl ?_
            show aW _ _ _ _ _ _ (56, [some (.ref 143), some (.int (zI 3))], [.ref 154], es81)
            refine x0 (r := (57, [some (.ref 143), some (.int (zI 3))], [.int (zI 3), .ref 154], es81)) i_231_56 rfl ?_
            refine x0 (r := (58, [some (.ref 143), some (.int (zI 3))], [.ref 143, .int (zI 3), .ref 154], es81)) i_231_57 rfl ?_
            refine x_getr (p := 79) (k := 144) i_231_58 hs_es81 rfl rfl ?_
            show aW _ _ _ _ _ _ (61, [some (.ref 143), some (.int (zI 3))], [.ref 144, .int (zI 3), .ref 154], es81)
            refine x0 (r := (62, [some (.ref 143), some (.int (zI 3))], [.int (zI 5), .ref 144, .int (zI 3), .ref 154], es81)) i_231_61 (by rfl) ?_
            refine x0 (r := (63, [some (.ref 143), some (.int (zI 3))], [.int (zI 3), .int (zI 5), .ref 144, .int (zI 3), .ref 154], es81)) i_231_62 rfl ?_
            refine x_iadd i_231_63 ?_
            show aW _ _ _ _ _ _ (64, [some (.ref 143), some (.int (zI 3))], [.int (zI 8), .ref 144, .int (zI 3), .ref 154], es81)
            refine x_iald (p := 80) i_231_64 hs_es81 rfl (by unfold i32 iLO iHI; omega) (by omega) (by omega) ?_
            obtain ⟨v82, e_v82⟩ : ∃ z : Int, z = (gA es81 80 (Int.toNat 8)).toInt := ⟨_, rfl⟩
            rw [← e_v82]
            have r_v82 : iLO ≤ v82 ∧ v82 ≤ iHI := by rw [e_v82]; exact i32_rng _
            unfold iLO iHI at r_v82
            have b_v82 : (0 : Int) ≤ v82 ∧ v82 ≤ (9 : Int) := by rw [e_v82]; exact gA_bd hT_es81 (p := 80) (k := (Int.toNat 8)) rfl (by omega) (by decide)
            refine x_iast (p := 90) i_231_65 hs_es81 rfl (by unfold i32 iLO iHI; omega) (by omega) (by omega) ?_
            obtain ⟨es83, e_es83⟩ : ∃ z : PH, z = sA es81 90 (Int.toNat 3) (zI v82) := ⟨_, rfl⟩
            have hs_es83 : sh es83 := by rw [e_es83]; exact sh_sA hs_es81
            have hT_es83 : hOK tT es83 := by rw [e_es83]; exact hOK_sA hT_es81 (p := 90) (n := 8) rfl (fun _ => by rw [zI_toInt (by unfold i32 iLO iHI; omega)]; exact ⟨by show (0 : Int) ≤ v82; omega, by show v82 ≤ (9 : Int); omega⟩)
            rw [← e_es83]
            refine x_iinc (x := 3) i_231_66 rfl (by show 1 < 2; decide) ?_
            show aW _ _ _ _ _ _ (69, [some (.ref 143), some (.int (zI 4))], [], es83)
            refine x0 (r := (46, [some (.ref 143), some (.int (zI 4))], [], es83)) i_231_69 rfl ?_
            refine x0 (r := (47, [some (.ref 143), some (.int (zI 4))], [.int (zI 4)], es83)) i_231_46 rfl ?_
            refine x0 (r := (49, [some (.ref 143), some (.int (zI 4))], [.int (zI 8), .int (zI 4)], es83)) i_231_47 (by rfl) ?_
            refine x_cmpF i_231_49 (by unfold i32 iLO iHI; omega) (by unfold i32 iLO iHI; omega) rfl (by simp only [zC, cR]; omega) ?_
            refine x0 (r := (53, [some (.ref 143), some (.int (zI 4))], [.ref 143], es83)) i_231_52 rfl ?_
            refine x_getr (p := 79) (k := 154) i_231_53 hs_es83 rfl rfl ?_
            show aW _ _ _ _ _ _ (56, [some (.ref 143), some (.int (zI 4))], [.ref 154], es83)
            refine x0 (r := (57, [some (.ref 143), some (.int (zI 4))], [.int (zI 4), .ref 154], es83)) i_231_56 rfl ?_
            refine x0 (r := (58, [some (.ref 143), some (.int (zI 4))], [.ref 143, .int (zI 4), .ref 154], es83)) i_231_57 rfl ?_
            refine x_getr (p := 79) (k := 144) i_231_58 hs_es83 rfl rfl ?_
            show aW _ _ _ _ _ _ (61, [some (.ref 143), some (.int (zI 4))], [.ref 144, .int (zI 4), .ref 154], es83)
            refine x0 (r := (62, [some (.ref 143), some (.int (zI 4))], [.int (zI 5), .ref 144, .int (zI 4), .ref 154], es83)) i_231_61 (by rfl) ?_
            refine x0 (r := (63, [some (.ref 143), some (.int (zI 4))], [.int (zI 4), .int (zI 5), .ref 144, .int (zI 4), .ref 154], es83)) i_231_62 rfl ?_
            refine x_iadd i_231_63 ?_
            show aW _ _ _ _ _ _ (64, [some (.ref 143), some (.int (zI 4))], [.int (zI 9), .ref 144, .int (zI 4), .ref 154], es83)
            refine x_iald (p := 80) i_231_64 hs_es83 rfl (by unfold i32 iLO iHI; omega) (by omega) (by omega) ?_
            obtain ⟨v84, e_v84⟩ : ∃ z : Int, z = (gA es83 80 (Int.toNat 9)).toInt := ⟨_, rfl⟩
            rw [← e_v84]
            have r_v84 : iLO ≤ v84 ∧ v84 ≤ iHI := by rw [e_v84]; exact i32_rng _
            unfold iLO iHI at r_v84
            have b_v84 : (0 : Int) ≤ v84 ∧ v84 ≤ (9 : Int) := by rw [e_v84]; exact gA_bd hT_es83 (p := 80) (k := (Int.toNat 9)) rfl (by omega) (by decide)
            refine x_iast (p := 90) i_231_65 hs_es83 rfl (by unfold i32 iLO iHI; omega) (by omega) (by omega) ?_
            obtain ⟨es85, e_es85⟩ : ∃ z : PH, z = sA es83 90 (Int.toNat 4) (zI v84) := ⟨_, rfl⟩
            have hs_es85 : sh es85 := by rw [e_es85]; exact sh_sA hs_es83
            have hT_es85 : hOK tT es85 := by rw [e_es85]; exact hOK_sA hT_es83 (p := 90) (n := 8) rfl (fun _ => by rw [zI_toInt (by unfold i32 iLO iHI; omega)]; exact ⟨by show (0 : Int) ≤ v84; omega, by show v84 ≤ (9 : Int); omega⟩)
            rw [← e_es85]
            refine x_iinc (x := 4) i_231_66 rfl (by show 1 < 2; decide) ?_
            show aW _ _ _ _ _ _ (69, [some (.ref 143), some (.int (zI 5))], [], es85)
            refine x0 (r := (46, [some (.ref 143), some (.int (zI 5))], [], es85)) i_231_69 rfl ?_
            refine x0 (r := (47, [some (.ref 143), some (.int (zI 5))], [.int (zI 5)], es85)) i_231_46 rfl ?_
            refine x0 (r := (49, [some (.ref 143), some (.int (zI 5))], [.int (zI 8), .int (zI 5)], es85)) i_231_47 (by rfl) ?_
            refine x_cmpF i_231_49 (by unfold i32 iLO iHI; omega) (by unfold i32 iLO iHI; omega) rfl (by simp only [zC, cR]; omega) ?_
            refine x0 (r := (53, [some (.ref 143), some (.int (zI 5))], [.ref 143], es85)) i_231_52 rfl ?_
            refine x_getr (p := 79) (k := 154) i_231_53 hs_es85 rfl rfl ?_
            show aW _ _ _ _ _ _ (56, [some (.ref 143), some (.int (zI 5))], [.ref 154], es85)
            refine x0 (r := (57, [some (.ref 143), some (.int (zI 5))], [.int (zI 5), .ref 154], es85)) i_231_56 rfl ?_
            refine x0 (r := (58, [some (.ref 143), some (.int (zI 5))], [.ref 143, .int (zI 5), .ref 154], es85)) i_231_57 rfl ?_
            refine x_getr (p := 79) (k := 144) i_231_58 hs_es85 rfl rfl ?_
            show aW _ _ _ _ _ _ (61, [some (.ref 143), some (.int (zI 5))], [.ref 144, .int (zI 5), .ref 154], es85)
            refine x0 (r := (62, [some (.ref 143), some (.int (zI 5))], [.int (zI 5), .ref 144, .int (zI 5), .ref 154], es85)) i_231_61 (by rfl) ?_
            refine x0 (r := (63, [some (.ref 143), some (.int (zI 5))], [.int (zI 5), .int (zI 5), .ref 144, .int (zI 5), .ref 154], es85)) i_231_62 rfl ?_
            refine x_iadd i_231_63 ?_
            show aW _ _ _ _ _ _ (64, [some (.ref 143), some (.int (zI 5))], [.int (zI 10), .ref 144, .int (zI 5), .ref 154], es85)
            refine x_iald (p := 80) i_231_64 hs_es85 rfl (by unfold i32 iLO iHI; omega) (by omega) (by omega) ?_
            obtain ⟨v86, e_v86⟩ : ∃ z : Int, z = (gA es85 80 (Int.toNat 10)).toInt := ⟨_, rfl⟩
            rw [← e_v86]
            have r_v86 : iLO ≤ v86 ∧ v86 ≤ iHI := by rw [e_v86]; exact i32_rng _
            unfold iLO iHI at r_v86
            have b_v86 : (0 : Int) ≤ v86 ∧ v86 ≤ (9 : Int) := by rw [e_v86]; exact gA_bd hT_es85 (p := 80) (k := (Int.toNat 10)) rfl (by omega) (by decide)
            refine x_iast (p := 90) i_231_65 hs_es85 rfl (by unfold i32 iLO iHI; omega) (by omega) (by omega) ?_
            obtain ⟨es87, e_es87⟩ : ∃ z : PH, z = sA es85 90 (Int.toNat 5) (zI v86) := ⟨_, rfl⟩
            have hs_es87 : sh es87 := by rw [e_es87]; exact sh_sA hs_es85
            have hT_es87 : hOK tT es87 := by rw [e_es87]; exact hOK_sA hT_es85 (p := 90) (n := 8) rfl (fun _ => by rw [zI_toInt (by unfold i32 iLO iHI; omega)]; exact ⟨by show (0 : Int) ≤ v86; omega, by show v86 ≤ (9 : Int); omega⟩)
            rw [← e_es87]
            refine x_iinc (x := 5) i_231_66 rfl (by show 1 < 2; decide) ?_
            show aW _ _ _ _ _ _ (69, [some (.ref 143), some (.int (zI 6))], [], es87)
            refine x0 (r := (46, [some (.ref 143), some (.int (zI 6))], [], es87)) i_231_69 rfl ?_
            refine x0 (r := (47, [some (.ref 143), some (.int (zI 6))], [.int (zI 6)], es87)) i_231_46 rfl ?_
            refine x0 (r := (49, [some (.ref 143), some (.int (zI 6))], [.int (zI 8), .int (zI 6)], es87)) i_231_47 (by rfl) ?_
            refine x_cmpF i_231_49 (by unfold i32 iLO iHI; omega) (by unfold i32 iLO iHI; omega) rfl (by simp only [zC, cR]; omega) ?_
            refine x0 (r := (53, [some (.ref 143), some (.int (zI 6))], [.ref 143], es87)) i_231_52 rfl ?_
            refine x_getr (p := 79) (k := 154) i_231_53 hs_es87 rfl rfl ?_
            show aW _ _ _ _ _ _ (56, [some (.ref 143), some (.int (zI 6))], [.ref 154], es87)
            refine x0 (r := (57, [some (.ref 143), some (.int (zI 6))], [.int (zI 6), .ref 154], es87)) i_231_56 rfl ?_
            refine x0 (r := (58, [some (.ref 143), some (.int (zI 6))], [.ref 143, .int (zI 6), .ref 154], es87)) i_231_57 rfl ?_
            refine x_getr (p := 79) (k := 144) i_231_58 hs_es87 rfl rfl ?_
            show aW _ _ _ _ _ _ (61, [some (.ref 143), some (.int (zI 6))], [.ref 144, .int (zI 6), .ref 154], es87)
            refine x0 (r := (62, [some (.ref 143), some (.int (zI 6))], [.int (zI 5), .ref 144, .int (zI 6), .ref 154], es87)) i_231_61 (by rfl) ?_
            refine x0 (r := (63, [some (.ref 143), some (.int (zI 6))], [.int (zI 6), .int (zI 5), .ref 144, .int (zI 6), .ref 154], es87)) i_231_62 rfl ?_
            refine x_iadd i_231_63 ?_
            show aW _ _ _ _ _ _ (64, [some (.ref 143), some (.int (zI 6))], [.int (zI 11), .ref 144, .int (zI 6), .ref 154], es87)
            refine x_iald (p := 80) i_231_64 hs_es87 rfl (by unfold i32 iLO iHI; omega) (by omega) (by omega) ?_
            obtain ⟨v88, e_v88⟩ : ∃ z : Int, z = (gA es87 80 (Int.toNat 11)).toInt := ⟨_, rfl⟩
            rw [← e_v88]
            have r_v88 : iLO ≤ v88 ∧ v88 ≤ iHI := by rw [e_v88]; exact i32_rng _
            unfold iLO iHI at r_v88
            have b_v88 : (0 : Int) ≤ v88 ∧ v88 ≤ (9 : Int) := by rw [e_v88]; exact gA_bd hT_es87 (p := 80) (k := (Int.toNat 11)) rfl (by omega) (by decide)
            refine x_iast (p := 90) i_231_65 hs_es87 rfl (by unfold i32 iLO iHI; omega) (by omega) (by omega) ?_
            obtain ⟨es89, e_es89⟩ : ∃ z : PH, z = sA es87 90 (Int.toNat 6) (zI v88) := ⟨_, rfl⟩
            have hs_es89 : sh es89 := by rw [e_es89]; exact sh_sA hs_es87
            have hT_es89 : hOK tT es89 := by rw [e_es89]; exact hOK_sA hT_es87 (p := 90) (n := 8) rfl (fun _ => by rw [zI_toInt (by unfold i32 iLO iHI; omega)]; exact ⟨by show (0 : Int) ≤ v88; omega, by show v88 ≤ (9 : Int); omega⟩)
            rw [← e_es89]
            refine x_iinc (x := 6) i_231_66 rfl (by show 1 < 2; decide) ?_
            show aW _ _ _ _ _ _ (69, [some (.ref 143), some (.int (zI 7))], [], es89)
            refine x0 (r := (46, [some (.ref 143), some (.int (zI 7))], [], es89)) i_231_69 rfl ?_
            refine x0 (r := (47, [some (.ref 143), some (.int (zI 7))], [.int (zI 7)], es89)) i_231_46 rfl ?_
            refine x0 (r := (49, [some (.ref 143), some (.int (zI 7))], [.int (zI 8), .int (zI 7)], es89)) i_231_47 (by rfl) ?_
            refine x_cmpF i_231_49 (by unfold i32 iLO iHI; omega) (by unfold i32 iLO iHI; omega) rfl (by simp only [zC, cR]; omega) ?_
            refine x0 (r := (53, [some (.ref 143), some (.int (zI 7))], [.ref 143], es89)) i_231_52 rfl ?_
            refine x_getr (p := 79) (k := 154) i_231_53 hs_es89 rfl rfl ?_
            show aW _ _ _ _ _ _ (56, [some (.ref 143), some (.int (zI 7))], [.ref 154], es89)
            refine x0 (r := (57, [some (.ref 143), some (.int (zI 7))], [.int (zI 7), .ref 154], es89)) i_231_56 rfl ?_
            refine x0 (r := (58, [some (.ref 143), some (.int (zI 7))], [.ref 143, .int (zI 7), .ref 154], es89)) i_231_57 rfl ?_
            refine x_getr (p := 79) (k := 144) i_231_58 hs_es89 rfl rfl ?_
            show aW _ _ _ _ _ _ (61, [some (.ref 143), some (.int (zI 7))], [.ref 144, .int (zI 7), .ref 154], es89)
            refine x0 (r := (62, [some (.ref 143), some (.int (zI 7))], [.int (zI 5), .ref 144, .int (zI 7), .ref 154], es89)) i_231_61 (by rfl) ?_
            refine x0 (r := (63, [some (.ref 143), some (.int (zI 7))], [.int (zI 7), .int (zI 5), .ref 144, .int (zI 7), .ref 154], es89)) i_231_62 rfl ?_
            refine x_iadd i_231_63 ?_
            show aW _ _ _ _ _ _ (64, [some (.ref 143), some (.int (zI 7))], [.int (zI 12), .ref 144, .int (zI 7), .ref 154], es89)
            refine x_iald (p := 80) i_231_64 hs_es89 rfl (by unfold i32 iLO iHI; omega) (by omega) (by omega) ?_
            obtain ⟨v90, e_v90⟩ : ∃ z : Int, z = (gA es89 80 (Int.toNat 12)).toInt := ⟨_, rfl⟩
            rw [← e_v90]
            have r_v90 : iLO ≤ v90 ∧ v90 ≤ iHI := by rw [e_v90]; exact i32_rng _
            unfold iLO iHI at r_v90
            have b_v90 : (0 : Int) ≤ v90 ∧ v90 ≤ (9 : Int) := by rw [e_v90]; exact gA_bd hT_es89 (p := 80) (k := (Int.toNat 12)) rfl (by omega) (by decide)
            refine x_iast (p := 90) i_231_65 hs_es89 rfl (by unfold i32 iLO iHI; omega) (by omega) (by omega) ?_
            obtain ⟨es91, e_es91⟩ : ∃ z : PH, z = sA es89 90 (Int.toNat 7) (zI v90) := ⟨_, rfl⟩
            have hs_es91 : sh es91 := by rw [e_es91]; exact sh_sA hs_es89
            have hT_es91 : hOK tT es91 := by rw [e_es91]; exact hOK_sA hT_es89 (p := 90) (n := 8) rfl (fun _ => by rw [zI_toInt (by unfold i32 iLO iHI; omega)]; exact ⟨by show (0 : Int) ≤ v90; omega, by show v90 ≤ (9 : Int); omega⟩)
            rw [← e_es91]
            refine x_iinc (x := 7) i_231_66 rfl (by show 1 < 2; decide) ?_
            show aW _ _ _ _ _ _ (69, [some (.ref 143), some (.int (zI 8))], [], es91)
            refine x0 (r := (46, [some (.ref 143), some (.int (zI 8))], [], es91)) i_231_69 rfl ?_
            refine x0 (r := (47, [some (.ref 143), some (.int (zI 8))], [.int (zI 8)], es91)) i_231_46 rfl ?_
            refine x0 (r := (49, [some (.ref 143), some (.int (zI 8))], [.int (zI 8), .int (zI 8)], es91)) i_231_47 (by rfl) ?_
            refine x_cmpT i_231_49 (by unfold i32 iLO iHI; omega) (by unfold i32 iLO iHI; omega) rfl (by simp only [zC, cR]; omega) ?_
            refine x_ret (v := none) i_231_72 rfl (fun _ => rfl) rfl rfl rfl ?_
            show aW _ _ _ _ _ _ (24, [some (.ref 143), some (.int (zI bk)), none], [], es91)
            refine x0 (r := (25, [some (.ref 143), some (.int (zI bk)), none], [.ref 143], es91)) i_263_24 rfl ?_
            refine x0 (r := (26, [some (.ref 143), some (.int (zI bk)), none], [.int (zI 1), .ref 143], es91)) i_263_25 (by rfl) ?_
            refine x0 (r := (27, [some (.ref 143), some (.int (zI bk)), none], [.int (zI bk), .int (zI 1), .ref 143], es91)) i_263_26 rfl ?_
            refine x_op i_263_27 (w := (zI 1 <<< (zI bk &&& 31))) rfl rfl ?_
            obtain ⟨v92, e_v92⟩ : ∃ z : Int, z = (zI 1 <<< (zI bk &&& 31)).toInt := ⟨_, rfl⟩
            rw [← e_v92]
            have r_v92 : iLO ≤ v92 ∧ v92 ≤ iHI := by rw [e_v92]; exact i32_rng _
            unfold iLO iHI at r_v92
            refine x_puti (p := 79) (ty := .int) i_263_28 hs_es91 rfl rfl rfl (Or.inl rfl) ?_
            obtain ⟨es93, e_es93⟩ : ∃ z : PH, z = sI es91 79 18 (.int (zI v92)) := ⟨_, rfl⟩
            have hs_es93 : sh es93 := by rw [e_es93]; exact sh_sI hs_es91 (p := 79) (b := 18) rfl rfl
            have hT_es93 : hOK tT es93 := by rw [e_es93]; exact hOK_sI hT_es91 (p := 79) (b := 18) (lo := iLO) (hi := iHI) rfl rfl (i32_rng _)
            rw [← e_es93]
            refine x0 (r := (32, [some (.ref 143), some (.int (zI bk)), none], [.int (zI 0)], es93)) i_263_31 (by rfl) ?_
            refine x0 (r := (33, [some (.ref 143), some (.int (zI bk)), some (.int (zI 0))], [], es93)) i_263_32 rfl ?_
            refine x0 (r := (34, [some (.ref 143), some (.int (zI bk)), some (.int (zI 0))], [.int (zI 0)], es93)) i_263_33 rfl ?_
            refine x0 (r := (36, [some (.ref 143), some (.int (zI bk)), some (.int (zI 0))], [.int (zI 8), .int (zI 0)], es93)) i_263_34 (by rfl) ?_
            refine x_cmpF i_263_36 (by unfold i32 iLO iHI; omega) (by unfold i32 iLO iHI; omega) rfl (by simp only [zC, cR]; omega) ?_
            refine x0 (r := (40, [some (.ref 143), some (.int (zI bk)), some (.int (zI 0))], [.ref 143], es93)) i_263_39 rfl ?_
            refine x_getr (p := 79) (k := 154) i_263_40 hs_es93 rfl rfl ?_
            show aW _ _ _ _ _ _ (43, [some (.ref 143), some (.int (zI bk)), some (.int (zI 0))], [.ref 154], es93)
            refine x0 (r := (44, [some (.ref 143), some (.int (zI bk)), some (.int (zI 0))], [.int (zI 0), .ref 154], es93)) i_263_43 rfl ?_
            refine x0 (r := (45, [some (.ref 143), some (.int (zI bk)), some (.int (zI 0))], [.int (zI 0), .int (zI 0), .ref 154], es93)) i_263_44 (by rfl) ?_
            refine x_iast (p := 90) i_263_45 hs_es93 rfl (by unfold i32 iLO iHI; omega) (by omega) (by omega) ?_
            obtain ⟨es94, e_es94⟩ : ∃ z : PH, z = sA es93 90 (Int.toNat 0) (zI 0) := ⟨_, rfl⟩
            have hs_es94 : sh es94 := by rw [e_es94]; exact sh_sA hs_es93
            have hT_es94 : hOK tT es94 := by rw [e_es94]; exact hOK_sA hT_es93 (p := 90) (n := 8) rfl (fun _ => by rw [zI_toInt (by unfold i32 iLO iHI; omega)]; exact ⟨by show (0 : Int) ≤ 0; omega, by show 0 ≤ (9 : Int); omega⟩)
            rw [← e_es94]
            refine x_iinc (x := 0) i_263_46 rfl (by show 2 < 3; decide) ?_
            show aW _ _ _ _ _ _ (49, [some (.ref 143), some (.int (zI bk)), some (.int (zI 1))], [], es94)
            refine x0 (r := (33, [some (.ref 143), some (.int (zI bk)), some (.int (zI 1))], [], es94)) i_263_49 rfl ?_
            refine x0 (r := (34, [some (.ref 143), some (.int (zI bk)), some (.int (zI 1))], [.int (zI 1)], es94)) i_263_33 rfl ?_
            refine x0 (r := (36, [some (.ref 143), some (.int (zI bk)), some (.int (zI 1))], [.int (zI 8), .int (zI 1)], es94)) i_263_34 (by rfl) ?_
            refine x_cmpF i_263_36 (by unfold i32 iLO iHI; omega) (by unfold i32 iLO iHI; omega) rfl (by simp only [zC, cR]; omega) ?_
            refine x0 (r := (40, [some (.ref 143), some (.int (zI bk)), some (.int (zI 1))], [.ref 143], es94)) i_263_39 rfl ?_
            refine x_getr (p := 79) (k := 154) i_263_40 hs_es94 rfl rfl ?_
            show aW _ _ _ _ _ _ (43, [some (.ref 143), some (.int (zI bk)), some (.int (zI 1))], [.ref 154], es94)
            refine x0 (r := (44, [some (.ref 143), some (.int (zI bk)), some (.int (zI 1))], [.int (zI 1), .ref 154], es94)) i_263_43 rfl ?_
            refine x0 (r := (45, [some (.ref 143), some (.int (zI bk)), some (.int (zI 1))], [.int (zI 0), .int (zI 1), .ref 154], es94)) i_263_44 (by rfl) ?_
            refine x_iast (p := 90) i_263_45 hs_es94 rfl (by unfold i32 iLO iHI; omega) (by omega) (by omega) ?_
            obtain ⟨es95, e_es95⟩ : ∃ z : PH, z = sA es94 90 (Int.toNat 1) (zI 0) := ⟨_, rfl⟩
            have hs_es95 : sh es95 := by rw [e_es95]; exact sh_sA hs_es94
            have hT_es95 : hOK tT es95 := by rw [e_es95]; exact hOK_sA hT_es94 (p := 90) (n := 8) rfl (fun _ => by rw [zI_toInt (by unfold i32 iLO iHI; omega)]; exact ⟨by show (0 : Int) ≤ 0; omega, by show 0 ≤ (9 : Int); omega⟩)
            rw [← e_es95]
            refine x_iinc (x := 1) i_263_46 rfl (by show 2 < 3; decide) ?_
            show aW _ _ _ _ _ _ (49, [some (.ref 143), some (.int (zI bk)), some (.int (zI 2))], [], es95)
            refine x0 (r := (33, [some (.ref 143), some (.int (zI bk)), some (.int (zI 2))], [], es95)) i_263_49 rfl ?_
            refine x0 (r := (34, [some (.ref 143), some (.int (zI bk)), some (.int (zI 2))], [.int (zI 2)], es95)) i_263_33 rfl ?_
            refine x0 (r := (36, [some (.ref 143), some (.int (zI bk)), some (.int (zI 2))], [.int (zI 8), .int (zI 2)], es95)) i_263_34 (by rfl) ?_
            refine x_cmpF i_263_36 (by unfold i32 iLO iHI; omega) (by unfold i32 iLO iHI; omega) rfl (by simp only [zC, cR]; omega) ?_
            refine x0 (r := (40, [some (.ref 143), some (.int (zI bk)), some (.int (zI 2))], [.ref 143], es95)) i_263_39 rfl ?_
            refine x_getr (p := 79) (k := 154) i_263_40 hs_es95 rfl rfl ?_
            show aW _ _ _ _ _ _ (43, [some (.ref 143), some (.int (zI bk)), some (.int (zI 2))], [.ref 154], es95)
            refine x0 (r := (44, [some (.ref 143), some (.int (zI bk)), some (.int (zI 2))], [.int (zI 2), .ref 154], es95)) i_263_43 rfl ?_
            refine x0 (r := (45, [some (.ref 143), some (.int (zI bk)), some (.int (zI 2))], [.int (zI 0), .int (zI 2), .ref 154], es95)) i_263_44 (by rfl) ?_
            refine x_iast (p := 90) i_263_45 hs_es95 rfl (by unfold i32 iLO iHI; omega) (by omega) (by omega) ?_
            obtain ⟨es96, e_es96⟩ : ∃ z : PH, z = sA es95 90 (Int.toNat 2) (zI 0) := ⟨_, rfl⟩
            have hs_es96 : sh es96 := by rw [e_es96]; exact sh_sA hs_es95
            have hT_es96 : hOK tT es96 := by rw [e_es96]; exact hOK_sA hT_es95 (p := 90) (n := 8) rfl (fun _ => by rw [zI_toInt (by unfold i32 iLO iHI; omega)]; exact ⟨by show (0 : Int) ≤ 0; omega, by show 0 ≤ (9 : Int); omega⟩)
            rw [← e_es96]
            refine x_iinc (x := 2) i_263_46 rfl (by show 2 < 3; decide) ?_
            show aW _ _ _ _ _ _ (49, [some (.ref 143), some (.int (zI bk)), some (.int (zI 3))], [], es96)
            refine x0 (r := (33, [some (.ref 143), some (.int (zI bk)), some (.int (zI 3))], [], es96)) i_263_49 rfl ?_
            refine x0 (r := (34, [some (.ref 143), some (.int (zI bk)), some (.int (zI 3))], [.int (zI 3)], es96)) i_263_33 rfl ?_
            refine x0 (r := (36, [some (.ref 143), some (.int (zI bk)), some (.int (zI 3))], [.int (zI 8), .int (zI 3)], es96)) i_263_34 (by rfl) ?_
            refine x_cmpF i_263_36 (by unfold i32 iLO iHI; omega) (by unfold i32 iLO iHI; omega) rfl (by simp only [zC, cR]; omega) ?_
            refine x0 (r := (40, [some (.ref 143), some (.int (zI bk)), some (.int (zI 3))], [.ref 143], es96)) i_263_39 rfl ?_
            refine x_getr (p := 79) (k := 154) i_263_40 hs_es96 rfl rfl ?_
            show aW _ _ _ _ _ _ (43, [some (.ref 143), some (.int (zI bk)), some (.int (zI 3))], [.ref 154], es96)
            refine x0 (r := (44, [some (.ref 143), some (.int (zI bk)), some (.int (zI 3))], [.int (zI 3), .ref 154], es96)) i_263_43 rfl ?_
            refine x0 (r := (45, [some (.ref 143), some (.int (zI bk)), some (.int (zI 3))], [.int (zI 0), .int (zI 3), .ref 154], es96)) i_263_44 (by rfl) ?_
            refine x_iast (p := 90) i_263_45 hs_es96 rfl (by unfold i32 iLO iHI; omega) (by omega) (by omega) ?_
            obtain ⟨es97, e_es97⟩ : ∃ z : PH, z = sA es96 90 (Int.toNat 3) (zI 0) := ⟨_, rfl⟩
            have hs_es97 : sh es97 := by rw [e_es97]; exact sh_sA hs_es96
            have hT_es97 : hOK tT es97 := by rw [e_es97]; exact hOK_sA hT_es96 (p := 90) (n := 8) rfl (fun _ => by rw [zI_toInt (by unfold i32 iLO iHI; omega)]; exact ⟨by show (0 : Int) ≤ 0; omega, by show 0 ≤ (9 : Int); omega⟩)
            rw [← e_es97]
            refine x_iinc (x := 3) i_263_46 rfl (by show 2 < 3; decide) ?_
            show aW _ _ _ _ _ _ (49, [some (.ref 143), some (.int (zI bk)), some (.int (zI 4))], [], es97)
            refine x0 (r := (33, [some (.ref 143), some (.int (zI bk)), some (.int (zI 4))], [], es97)) i_263_49 rfl ?_
            refine x0 (r := (34, [some (.ref 143), some (.int (zI bk)), some (.int (zI 4))], [.int (zI 4)], es97)) i_263_33 rfl ?_
            refine x0 (r := (36, [some (.ref 143), some (.int (zI bk)), some (.int (zI 4))], [.int (zI 8), .int (zI 4)], es97)) i_263_34 (by rfl) ?_
            refine x_cmpF i_263_36 (by unfold i32 iLO iHI; omega) (by unfold i32 iLO iHI; omega) rfl (by simp only [zC, cR]; omega) ?_
            refine x0 (r := (40, [some (.ref 143), some (.int (zI bk)), some (.int (zI 4))], [.ref 143], es97)) i_263_39 rfl ?_
            refine x_getr (p := 79) (k := 154) i_263_40 hs_es97 rfl rfl ?_
            show aW _ _ _ _ _ _ (43, [some (.ref 143), some (.int (zI bk)), some (.int (zI 4))], [.ref 154], es97)
            refine x0 (r := (44, [some (.ref 143), some (.int (zI bk)), some (.int (zI 4))], [.int (zI 4), .ref 154], es97)) i_263_43 rfl ?_
            refine x0 (r := (45, [some (.ref 143), some (.int (zI bk)), some (.int (zI 4))], [.int (zI 0), .int (zI 4), .ref 154], es97)) i_263_44 (by rfl) ?_
            refine x_iast (p := 90) i_263_45 hs_es97 rfl (by unfold i32 iLO iHI; omega) (by omega) (by omega) ?_
            obtain ⟨es98, e_es98⟩ : ∃ z : PH, z = sA es97 90 (Int.toNat 4) (zI 0) := ⟨_, rfl⟩
            have hs_es98 : sh es98 := by rw [e_es98]; exact sh_sA hs_es97
            have hT_es98 : hOK tT es98 := by rw [e_es98]; exact hOK_sA hT_es97 (p := 90) (n := 8) rfl (fun _ => by rw [zI_toInt (by unfold i32 iLO iHI; omega)]; exact ⟨by show (0 : Int) ≤ 0; omega, by show 0 ≤ (9 : Int); omega⟩)
            rw [← e_es98]
            refine x_iinc (x := 4) i_263_46 rfl (by show 2 < 3; decide) ?_
            show aW _ _ _ _ _ _ (49, [some (.ref 143), some (.int (zI bk)), some (.int (zI 5))], [], es98)
            refine x0 (r := (33, [some (.ref 143), some (.int (zI bk)), some (.int (zI 5))], [], es98)) i_263_49 rfl ?_
            refine x0 (r := (34, [some (.ref 143), some (.int (zI bk)), some (.int (zI 5))], [.int (zI 5)], es98)) i_263_33 rfl ?_
            refine x0 (r := (36, [some (.ref 143), some (.int (zI bk)), some (.int (zI 5))], [.int (zI 8), .int (zI 5)], es98)) i_263_34 (by rfl) ?_
            refine x_cmpF i_263_36 (by unfold i32 iLO iHI; omega) (by unfold i32 iLO iHI; omega) rfl (by simp only [zC, cR]; omega) ?_
            refine x0 (r := (40, [some (.ref 143), some (.int (zI bk)), some (.int (zI 5))], [.ref 143], es98)) i_263_39 rfl ?_
            refine x_getr (p := 79) (k := 154) i_263_40 hs_es98 rfl rfl ?_
            show aW _ _ _ _ _ _ (43, [some (.ref 143), some (.int (zI bk)), some (.int (zI 5))], [.ref 154], es98)
            refine x0 (r := (44, [some (.ref 143), some (.int (zI bk)), some (.int (zI 5))], [.int (zI 5), .ref 154], es98)) i_263_43 rfl ?_
            refine x0 (r := (45, [some (.ref 143), some (.int (zI bk)), some (.int (zI 5))], [.int (zI 0), .int (zI 5), .ref 154], es98)) i_263_44 (by rfl) ?_
            refine x_iast (p := 90) i_263_45 hs_es98 rfl (by unfold i32 iLO iHI; omega) (by omega) (by omega) ?_
            obtain ⟨es99, e_es99⟩ : ∃ z : PH, z = sA es98 90 (Int.toNat 5) (zI 0) := ⟨_, rfl⟩
            have hs_es99 : sh es99 := by rw [e_es99]; exact sh_sA hs_es98
            have hT_es99 : hOK tT es99 := by rw [e_es99]; exact hOK_sA hT_es98 (p := 90) (n := 8) rfl (fun _ => by rw [zI_toInt (by unfold i32 iLO iHI; omega)]; exact ⟨by show (0 : Int) ≤ 0; omega, by show 0 ≤ (9 : Int); omega⟩)
            rw [← e_es99]
            refine x_iinc (x := 5) i_263_46 rfl (by show 2 < 3; decide) ?_
            show aW _ _ _ _ _ _ (49, [some (.ref 143), some (.int (zI bk)), some (.int (zI 6))], [], es99)
            refine x0 (r := (33, [some (.ref 143), some (.int (zI bk)), some (.int (zI 6))], [], es99)) i_263_49 rfl ?_
            refine x0 (r := (34, [some (.ref 143), some (.int (zI bk)), some (.int (zI 6))], [.int (zI 6)], es99)) i_263_33 rfl ?_
            refine x0 (r := (36, [some (.ref 143), some (.int (zI bk)), some (.int (zI 6))], [.int (zI 8), .int (zI 6)], es99)) i_263_34 (by rfl) ?_
            refine x_cmpF i_263_36 (by unfold i32 iLO iHI; omega) (by unfold i32 iLO iHI; omega) rfl (by simp only [zC, cR]; omega) ?_
            refine x0 (r := (40, [some (.ref 143), some (.int (zI bk)), some (.int (zI 6))], [.ref 143], es99)) i_263_39 rfl ?_
            refine x_getr (p := 79) (k := 154) i_263_40 hs_es99 rfl rfl ?_
            show aW _ _ _ _ _ _ (43, [some (.ref 143), some (.int (zI bk)), some (.int (zI 6))], [.ref 154], es99)
            refine x0 (r := (44, [some (.ref 143), some (.int (zI bk)), some (.int (zI 6))], [.int (zI 6), .ref 154], es99)) i_263_43 rfl ?_
            refine x0 (r := (45, [some (.ref 143), some (.int (zI bk)), some (.int (zI 6))], [.int (zI 0), .int (zI 6), .ref 154], es99)) i_263_44 (by rfl) ?_
            refine x_iast (p := 90) i_263_45 hs_es99 rfl (by unfold i32 iLO iHI; omega) (by omega) (by omega) ?_
            obtain ⟨es100, e_es100⟩ : ∃ z : PH, z = sA es99 90 (Int.toNat 6) (zI 0) := ⟨_, rfl⟩
            have hs_es100 : sh es100 := by rw [e_es100]; exact sh_sA hs_es99
            have hT_es100 : hOK tT es100 := by rw [e_es100]; exact hOK_sA hT_es99 (p := 90) (n := 8) rfl (fun _ => by rw [zI_toInt (by unfold i32 iLO iHI; omega)]; exact ⟨by show (0 : Int) ≤ 0; omega, by show 0 ≤ (9 : Int); omega⟩)
            rw [← e_es100]
            refine x_iinc (x := 6) i_263_46 rfl (by show 2 < 3; decide) ?_
            show aW _ _ _ _ _ _ (49, [some (.ref 143), some (.int (zI bk)), some (.int (zI 7))], [], es100)
            refine x0 (r := (33, [some (.ref 143), some (.int (zI bk)), some (.int (zI 7))], [], es100)) i_263_49 rfl ?_
            refine x0 (r := (34, [some (.ref 143), some (.int (zI bk)), some (.int (zI 7))], [.int (zI 7)], es100)) i_263_33 rfl ?_
            refine x0 (r := (36, [some (.ref 143), some (.int (zI bk)), some (.int (zI 7))], [.int (zI 8), .int (zI 7)], es100)) i_263_34 (by rfl) ?_
            refine x_cmpF i_263_36 (by unfold i32 iLO iHI; omega) (by unfold i32 iLO iHI; omega) rfl (by simp only [zC, cR]; omega) ?_
            refine x0 (r := (40, [some (.ref 143), some (.int (zI bk)), some (.int (zI 7))], [.ref 143], es100)) i_263_39 rfl ?_
            refine x_getr (p := 79) (k := 154) i_263_40 hs_es100 rfl rfl ?_
            show aW _ _ _ _ _ _ (43, [some (.ref 143), some (.int (zI bk)), some (.int (zI 7))], [.ref 154], es100)
            refine x0 (r := (44, [some (.ref 143), some (.int (zI bk)), some (.int (zI 7))], [.int (zI 7), .ref 154], es100)) i_263_43 rfl ?_
            refine x0 (r := (45, [some (.ref 143), some (.int (zI bk)), some (.int (zI 7))], [.int (zI 0), .int (zI 7), .ref 154], es100)) i_263_44 (by rfl) ?_
            refine x_iast (p := 90) i_263_45 hs_es100 rfl (by unfold i32 iLO iHI; omega) (by omega) (by omega) ?_
            obtain ⟨es101, e_es101⟩ : ∃ z : PH, z = sA es100 90 (Int.toNat 7) (zI 0) := ⟨_, rfl⟩
            have hs_es101 : sh es101 := by rw [e_es101]; exact sh_sA hs_es100
            have hT_es101 : hOK tT es101 := by rw [e_es101]; exact hOK_sA hT_es100 (p := 90) (n := 8) rfl (fun _ => by rw [zI_toInt (by unfold i32 iLO iHI; omega)]; exact ⟨by show (0 : Int) ≤ 0; omega, by show 0 ≤ (9 : Int); omega⟩)
            rw [← e_es101]
            refine x_iinc (x := 7) i_263_46 rfl (by show 2 < 3; decide) ?_
            show aW _ _ _ _ _ _ (49, [some (.ref 143), some (.int (zI bk)), some (.int (zI 8))], [], es101)
            refine x0 (r := (33, [some (.ref 143), some (.int (zI bk)), some (.int (zI 8))], [], es101)) i_263_49 rfl ?_
            refine x0 (r := (34, [some (.ref 143), some (.int (zI bk)), some (.int (zI 8))], [.int (zI 8)], es101)) i_263_33 rfl ?_
            refine x0 (r := (36, [some (.ref 143), some (.int (zI bk)), some (.int (zI 8))], [.int (zI 8), .int (zI 8)], es101)) i_263_34 (by rfl) ?_
            refine x_cmpT i_263_36 (by unfold i32 iLO iHI; omega) (by unfold i32 iLO iHI; omega) rfl (by simp only [zC, cR]; omega) ?_
            refine x0 (r := (53, [some (.ref 143), some (.int (zI bk)), some (.int (zI 8))], [.ref 143], es101)) i_263_52 rfl ?_
            refine x0 (r := (54, [some (.ref 143), some (.int (zI bk)), some (.int (zI 8))], [.int (zI 0), .ref 143], es101)) i_263_53 (by rfl) ?_
            refine x_puti (p := 79) (ty := .int) i_263_54 hs_es101 rfl rfl rfl (Or.inl rfl) ?_
            obtain ⟨es102, e_es102⟩ : ∃ z : PH, z = sI es101 79 27 (.int (zI 0)) := ⟨_, rfl⟩
            have hs_es102 : sh es102 := by rw [e_es102]; exact sh_sI hs_es101 (p := 79) (b := 27) rfl rfl
            have hT_es102 : hOK tT es102 := by rw [e_es102]; exact hOK_sI hT_es101 (p := 79) (b := 27) (lo := iLO) (hi := iHI) rfl rfl (i32_rng _)
            rw [← e_es102]
            refine x0 (r := (58, [some (.ref 143), some (.int (zI bk)), some (.int (zI 8))], [.ref 143], es102)) i_263_57 rfl ?_
            refine x0 (r := (59, [some (.ref 143), some (.int (zI bk)), some (.int (zI 8))], [.int (zI 0), .ref 143], es102)) i_263_58 (by rfl) ?_
            refine x_puti (p := 79) (ty := .boolean) i_263_59 hs_es102 rfl rfl rfl (Or.inr ⟨rfl, by omega⟩) ?_
            obtain ⟨es103, e_es103⟩ : ∃ z : PH, z = sI es102 79 29 (.int (zI 0)) := ⟨_, rfl⟩
            have hs_es103 : sh es103 := by rw [e_es103]; exact sh_sI hs_es102 (p := 79) (b := 29) rfl rfl
            have hT_es103 : hOK tT es103 := by rw [e_es103]; exact hOK_sI hT_es102 (p := 79) (b := 29) rfl rfl (by rw [zI_toInt (by unfold i32 iLO iHI; omega)]; exact ⟨by show (0 : Int) ≤ 0; omega, by show 0 ≤ (1 : Int); omega⟩)
            rw [← e_es103]
            refine x0 (r := (63, [some (.ref 143), some (.int (zI bk)), some (.int (zI 8))], [.ref 143], es103)) i_263_62 rfl ?_
            refine x0 (r := (64, [some (.ref 143), some (.int (zI bk)), some (.int (zI 8))], [.int (zI 1), .ref 143], es103)) i_263_63 (by rfl) ?_
            refine x_puti (p := 79) (ty := .boolean) i_263_64 hs_es103 rfl rfl rfl (Or.inr ⟨rfl, by omega⟩) ?_
            obtain ⟨es104, e_es104⟩ : ∃ z : PH, z = sI es103 79 30 (.int (zI 1)) := ⟨_, rfl⟩
            have hs_es104 : sh es104 := by rw [e_es104]; exact sh_sI hs_es103 (p := 79) (b := 30) rfl rfl
            have hT_es104 : hOK tT es104 := by rw [e_es104]; exact hOK_sI hT_es103 (p := 79) (b := 30) rfl rfl (by rw [zI_toInt (by unfold i32 iLO iHI; omega)]; exact ⟨by show (0 : Int) ≤ 1; omega, by show 1 ≤ (1 : Int); omega⟩)
            rw [← e_es104]
            refine x0 (r := (68, [some (.ref 143), some (.int (zI bk)), some (.int (zI 8))], [.ref 143], es104)) i_263_67 rfl ?_
            refine x0 (r := (70, [some (.ref 143), some (.int (zI bk)), some (.int (zI 8))], [.int (zI 30), .ref 143], es104)) i_263_68 (by rfl) ?_
            refine x_puti (p := 79) (ty := .int) i_263_70 hs_es104 rfl rfl rfl (Or.inl rfl) ?_
            obtain ⟨es105, e_es105⟩ : ∃ z : PH, z = sI es104 79 35 (.int (zI 30)) := ⟨_, rfl⟩
            have hs_es105 : sh es105 := by rw [e_es105]; exact sh_sI hs_es104 (p := 79) (b := 35) rfl rfl
            have hT_es105 : hOK tT es105 := by rw [e_es105]; exact hOK_sI hT_es104 (p := 79) (b := 35) rfl rfl (by rw [zI_toInt (by unfold i32 iLO iHI; omega)]; exact ⟨by show (0 : Int) ≤ 30; omega, by show 30 ≤ (2147483647 : Int); omega⟩)
            rw [← e_es105]
            refine x0 (r := (74, [some (.ref 143), some (.int (zI bk)), some (.int (zI 8))], [.ref 143], es105)) i_263_73 rfl ?_
            refine x0 (r := (75, [some (.ref 143), some (.int (zI bk)), some (.int (zI 8))], [.int (zI 0), .ref 143], es105)) i_263_74 (by rfl) ?_
            exact K5 es1 e_es1 v2 e_v2 c3 c5 v7 e_v7 es8 e_es8 c9 v40 e_v40 es41 e_es41 c42 v73 e_v73 es74 e_es74 c75 v76 e_v76 es77 e_es77 v78 e_v78 es79 e_es79 v80 e_v80 es81 e_es81 v82 e_v82 es83 e_es83 v84 e_v84 es85 e_es85 v86 e_v86 es87 e_es87 v88 e_v88 es89 e_es89 v90 e_v90 es91 e_es91 v92 e_v92 es93 e_es93 es94 e_es94 es95 e_es95 es96 e_es96 es97 e_es97 es98 e_es98 es99 e_es99 es100 e_es100 es101 e_es101 es102 e_es102 es103 e_es103 es104 e_es104 es105 e_es105 hT_es105
          · refine x_cmpF i_231_23 (by unfold i32 iLO iHI; omega) (by unfold i32 iLO iHI; omega) rfl (by simp only [zC, cR]; omega) ?_
            refine x0 (r := (27, [some (.ref 143), some (.int (zI 2))], [.ref 143], es74)) i_231_26 rfl ?_
            refine x_getr (p := 79) (k := 153) i_231_27 hs_es74 rfl rfl ?_
            show aW _ _ _ _ _ _ (30, [some (.ref 143), some (.int (zI 2))], [.ref 153], es74)
            refine x0 (r := (31, [some (.ref 143), some (.int (zI 2))], [.int (zI 2), .ref 153], es74)) i_231_30 rfl ?_
            refine x0 (r := (32, [some (.ref 143), some (.int (zI 2))], [.ref 143, .int (zI 2), .ref 153], es74)) i_231_31 rfl ?_
            refine x0 (r := (33, [some (.ref 143), some (.int (zI 2))], [.int (zI 2), .ref 143, .int (zI 2), .ref 153], es74)) i_231_32 rfl ?_
            refine x0 (r := (34, [some (.ref 143), some (.int (zI 2))], [.int (zI 0), .int (zI 2), .ref 143, .int (zI 2), .ref 153], es74)) i_231_33 (by rfl) ?_
            refine x_call (vs := [.ref 143, .int (zI 2), .int (zI 0)]) (rs := [.int (zI 2), .ref 153]) i_231_34 rfl (fun _ => rfl) rfl rfl rfl rfl rfl (pCall_v (p := 79) hs_es74 rfl rfl rfl rfl rfl (by decide) rfl rfl rfl rfl rfl) ?_
            show aW _ _ _ _ _ _ (0, [some (.ref 143), some (.int (zI 2)), some (.int (zI 0))], [], es74)
            refine x0 (r := (1, [some (.ref 143), some (.int (zI 2)), some (.int (zI 0))], [.ref 143], es74)) i_206_0 rfl ?_
            refine x_getr (p := 79) (k := 144) i_206_1 hs_es74 rfl rfl ?_
            show aW _ _ _ _ _ _ (4, [some (.ref 143), some (.int (zI 2)), some (.int (zI 0))], [.ref 144], es74)
            refine x0 (r := (6, [some (.ref 143), some (.int (zI 2)), some (.int (zI 0))], [.int (zI 119), .ref 144], es74)) i_206_4 (by rfl) ?_
            refine x0 (r := (8, [some (.ref 143), some (.int (zI 2)), some (.int (zI 0))], [.int (zI 98), .int (zI 119), .ref 144], es74)) i_206_6 (by rfl) ?_
            refine x0 (r := (9, [some (.ref 143), some (.int (zI 2)), some (.int (zI 0))], [.int (zI 2), .int (zI 98), .int (zI 119), .ref 144], es74)) i_206_8 rfl ?_
            refine x_imul i_206_9 ?_
            show aW _ _ _ _ _ _ (10, [some (.ref 143), some (.int (zI 2)), some (.int (zI 0))], [.int (zI 196), .int (zI 119), .ref 144], es74)
            refine x_iadd i_206_10 ?_
            show aW _ _ _ _ _ _ (11, [some (.ref 143), some (.int (zI 2)), some (.int (zI 0))], [.int (zI 315), .ref 144], es74)
            refine x0 (r := (12, [some (.ref 143), some (.int (zI 2)), some (.int (zI 0))], [.int (zI 0), .int (zI 315), .ref 144], es74)) i_206_11 rfl ?_
            refine x_iadd i_206_12 ?_
            show aW _ _ _ _ _ _ (13, [some (.ref 143), some (.int (zI 2)), some (.int (zI 0))], [.int (zI 315), .ref 144], es74)
            refine x_iald (p := 80) i_206_13 hs_es74 rfl (by unfold i32 iLO iHI; omega) (by omega) (by omega) ?_
            obtain ⟨v106, e_v106⟩ : ∃ z : Int, z = (gA es74 80 (Int.toNat 315)).toInt := ⟨_, rfl⟩
            rw [← e_v106]
            have r_v106 : iLO ≤ v106 ∧ v106 ≤ iHI := by rw [e_v106]; exact i32_rng _
            unfold iLO iHI at r_v106
            have b_v106 : (0 : Int) ≤ v106 ∧ v106 ≤ (1 : Int) := by rw [e_v106]; exact gA_bd hT_es74 (p := 80) (k := (Int.toNat 315)) rfl (by omega) (by decide)
            refine x_ret (v := some (.int (zI v106))) i_206_14 rfl (fun _ => rfl) rfl rfl rfl ?_
            show aW _ _ _ _ _ _ (37, [some (.ref 143), some (.int (zI 2))], [.int (zI v106), .int (zI 2), .ref 153], es74)
            refine x_iast (p := 89) i_231_37 hs_es74 rfl (by unfold i32 iLO iHI; omega) (by omega) (by omega) ?_
            obtain ⟨es107, e_es107⟩ : ∃ z : PH, z = sA es74 89 (Int.toNat 2) (zI v106) := ⟨_, rfl⟩
            have hs_es107 : sh es107 := by rw [e_es107]; exact sh_sA hs_es74
            have hT_es107 : hOK tT es107 := by rw [e_es107]; exact hOK_sA hT_es74 (p := 89) (n := 3) rfl (fun _ => by rw [zI_toInt (by unfold i32 iLO iHI; omega)]; exact ⟨by show (0 : Int) ≤ v106; omega, by show v106 ≤ (1 : Int); omega⟩)
            rw [← e_es107]
            refine x_iinc (x := 2) i_231_38 rfl (by show 1 < 2; decide) ?_
            show aW _ _ _ _ _ _ (41, [some (.ref 143), some (.int (zI 3))], [], es107)
            refine x0 (r := (16, [some (.ref 143), some (.int (zI 3))], [], es107)) i_231_41 rfl ?_
            refine x0 (r := (17, [some (.ref 143), some (.int (zI 3))], [.int (zI 3)], es107)) i_231_16 rfl ?_
            refine x0 (r := (18, [some (.ref 143), some (.int (zI 3))], [.ref 143, .int (zI 3)], es107)) i_231_17 rfl ?_
            refine x_getr (p := 79) (k := 144) i_231_18 hs_es107 rfl rfl ?_
            show aW _ _ _ _ _ _ (21, [some (.ref 143), some (.int (zI 3))], [.ref 144, .int (zI 3)], es107)
            refine x0 (r := (22, [some (.ref 143), some (.int (zI 3))], [.int (zI 1), .ref 144, .int (zI 3)], es107)) i_231_21 (by rfl) ?_
            refine x_iald (p := 80) i_231_22 hs_es107 rfl (by unfold i32 iLO iHI; omega) (by omega) (by omega) ?_
            rw [show (gA es107 80 (Int.toNat 1)).toInt = v2 from by rw [e_es107, gA_sA_ne (by decide), e_es74, gA_sA_ne (by decide), e_es41, gA_sA_ne (by decide), e_es8, gA_sI]; exact e_v2.symm]
            refine x_cmpT i_231_23 (by unfold i32 iLO iHI; omega) (by unfold i32 iLO iHI; omega) rfl (by simp only [zC, cR]; omega) ?_
            refine x0 (r := (45, [some (.ref 143), some (.int (zI 3))], [.int (zI 0)], es107)) i_231_44 (by rfl) ?_
            refine x0 (r := (46, [some (.ref 143), some (.int (zI 0))], [], es107)) i_231_45 rfl ?_
            refine x0 (r := (47, [some (.ref 143), some (.int (zI 0))], [.int (zI 0)], es107)) i_231_46 rfl ?_
            refine x0 (r := (49, [some (.ref 143), some (.int (zI 0))], [.int (zI 8), .int (zI 0)], es107)) i_231_47 (by rfl) ?_
            refine x_cmpF i_231_49 (by unfold i32 iLO iHI; omega) (by unfold i32 iLO iHI; omega) rfl (by simp only [zC, cR]; omega) ?_
            refine x0 (r := (53, [some (.ref 143), some (.int (zI 0))], [.ref 143], es107)) i_231_52 rfl ?_
            refine x_getr (p := 79) (k := 154) i_231_53 hs_es107 rfl rfl ?_
            show aW _ _ _ _ _ _ (56, [some (.ref 143), some (.int (zI 0))], [.ref 154], es107)
            refine x0 (r := (57, [some (.ref 143), some (.int (zI 0))], [.int (zI 0), .ref 154], es107)) i_231_56 rfl ?_
            refine x0 (r := (58, [some (.ref 143), some (.int (zI 0))], [.ref 143, .int (zI 0), .ref 154], es107)) i_231_57 rfl ?_
            refine x_getr (p := 79) (k := 144) i_231_58 hs_es107 rfl rfl ?_
            show aW _ _ _ _ _ _ (61, [some (.ref 143), some (.int (zI 0))], [.ref 144, .int (zI 0), .ref 154], es107)
            refine x0 (r := (62, [some (.ref 143), some (.int (zI 0))], [.int (zI 5), .ref 144, .int (zI 0), .ref 154], es107)) i_231_61 (by rfl) ?_
            refine x0 (r := (63, [some (.ref 143), some (.int (zI 0))], [.int (zI 0), .int (zI 5), .ref 144, .int (zI 0), .ref 154], es107)) i_231_62 rfl ?_
            refine x_iadd i_231_63 ?_
            show aW _ _ _ _ _ _ (64, [some (.ref 143), some (.int (zI 0))], [.int (zI 5), .ref 144, .int (zI 0), .ref 154], es107)
            refine x_iald (p := 80) i_231_64 hs_es107 rfl (by unfold i32 iLO iHI; omega) (by omega) (by omega) ?_
            obtain ⟨v108, e_v108⟩ : ∃ z : Int, z = (gA es107 80 (Int.toNat 5)).toInt := ⟨_, rfl⟩
            rw [← e_v108]
            have r_v108 : iLO ≤ v108 ∧ v108 ≤ iHI := by rw [e_v108]; exact i32_rng _
            unfold iLO iHI at r_v108
            have b_v108 : (0 : Int) ≤ v108 ∧ v108 ≤ (9 : Int) := by rw [e_v108]; exact gA_bd hT_es107 (p := 80) (k := (Int.toNat 5)) rfl (by omega) (by decide)
            refine x_iast (p := 90) i_231_65 hs_es107 rfl (by unfold i32 iLO iHI; omega) (by omega) (by omega) ?_
            obtain ⟨es109, e_es109⟩ : ∃ z : PH, z = sA es107 90 (Int.toNat 0) (zI v108) := ⟨_, rfl⟩
            have hs_es109 : sh es109 := by rw [e_es109]; exact sh_sA hs_es107
            have hT_es109 : hOK tT es109 := by rw [e_es109]; exact hOK_sA hT_es107 (p := 90) (n := 8) rfl (fun _ => by rw [zI_toInt (by unfold i32 iLO iHI; omega)]; exact ⟨by show (0 : Int) ≤ v108; omega, by show v108 ≤ (9 : Int); omega⟩)
            rw [← e_es109]
            refine x_iinc (x := 0) i_231_66 rfl (by show 1 < 2; decide) ?_
            show aW _ _ _ _ _ _ (69, [some (.ref 143), some (.int (zI 1))], [], es109)
            refine x0 (r := (46, [some (.ref 143), some (.int (zI 1))], [], es109)) i_231_69 rfl ?_
            refine x0 (r := (47, [some (.ref 143), some (.int (zI 1))], [.int (zI 1)], es109)) i_231_46 rfl ?_
            refine x0 (r := (49, [some (.ref 143), some (.int (zI 1))], [.int (zI 8), .int (zI 1)], es109)) i_231_47 (by rfl) ?_
            refine x_cmpF i_231_49 (by unfold i32 iLO iHI; omega) (by unfold i32 iLO iHI; omega) rfl (by simp only [zC, cR]; omega) ?_
            refine x0 (r := (53, [some (.ref 143), some (.int (zI 1))], [.ref 143], es109)) i_231_52 rfl ?_
            refine x_getr (p := 79) (k := 154) i_231_53 hs_es109 rfl rfl ?_
            show aW _ _ _ _ _ _ (56, [some (.ref 143), some (.int (zI 1))], [.ref 154], es109)
            refine x0 (r := (57, [some (.ref 143), some (.int (zI 1))], [.int (zI 1), .ref 154], es109)) i_231_56 rfl ?_
            refine x0 (r := (58, [some (.ref 143), some (.int (zI 1))], [.ref 143, .int (zI 1), .ref 154], es109)) i_231_57 rfl ?_
            refine x_getr (p := 79) (k := 144) i_231_58 hs_es109 rfl rfl ?_
            show aW _ _ _ _ _ _ (61, [some (.ref 143), some (.int (zI 1))], [.ref 144, .int (zI 1), .ref 154], es109)
            refine x0 (r := (62, [some (.ref 143), some (.int (zI 1))], [.int (zI 5), .ref 144, .int (zI 1), .ref 154], es109)) i_231_61 (by rfl) ?_
            refine x0 (r := (63, [some (.ref 143), some (.int (zI 1))], [.int (zI 1), .int (zI 5), .ref 144, .int (zI 1), .ref 154], es109)) i_231_62 rfl ?_
            refine x_iadd i_231_63 ?_
            show aW _ _ _ _ _ _ (64, [some (.ref 143), some (.int (zI 1))], [.int (zI 6), .ref 144, .int (zI 1), .ref 154], es109)
            refine x_iald (p := 80) i_231_64 hs_es109 rfl (by unfold i32 iLO iHI; omega) (by omega) (by omega) ?_
            obtain ⟨v110, e_v110⟩ : ∃ z : Int, z = (gA es109 80 (Int.toNat 6)).toInt := ⟨_, rfl⟩
            rw [← e_v110]
            have r_v110 : iLO ≤ v110 ∧ v110 ≤ iHI := by rw [e_v110]; exact i32_rng _
            unfold iLO iHI at r_v110
            have b_v110 : (0 : Int) ≤ v110 ∧ v110 ≤ (9 : Int) := by rw [e_v110]; exact gA_bd hT_es109 (p := 80) (k := (Int.toNat 6)) rfl (by omega) (by decide)
            refine x_iast (p := 90) i_231_65 hs_es109 rfl (by unfold i32 iLO iHI; omega) (by omega) (by omega) ?_
            obtain ⟨es111, e_es111⟩ : ∃ z : PH, z = sA es109 90 (Int.toNat 1) (zI v110) := ⟨_, rfl⟩
            have hs_es111 : sh es111 := by rw [e_es111]; exact sh_sA hs_es109
            have hT_es111 : hOK tT es111 := by rw [e_es111]; exact hOK_sA hT_es109 (p := 90) (n := 8) rfl (fun _ => by rw [zI_toInt (by unfold i32 iLO iHI; omega)]; exact ⟨by show (0 : Int) ≤ v110; omega, by show v110 ≤ (9 : Int); omega⟩)
            rw [← e_es111]
            refine x_iinc (x := 1) i_231_66 rfl (by show 1 < 2; decide) ?_
            show aW _ _ _ _ _ _ (69, [some (.ref 143), some (.int (zI 2))], [], es111)
            refine x0 (r := (46, [some (.ref 143), some (.int (zI 2))], [], es111)) i_231_69 rfl ?_
            refine x0 (r := (47, [some (.ref 143), some (.int (zI 2))], [.int (zI 2)], es111)) i_231_46 rfl ?_
            refine x0 (r := (49, [some (.ref 143), some (.int (zI 2))], [.int (zI 8), .int (zI 2)], es111)) i_231_47 (by rfl) ?_
            refine x_cmpF i_231_49 (by unfold i32 iLO iHI; omega) (by unfold i32 iLO iHI; omega) rfl (by simp only [zC, cR]; omega) ?_
            refine x0 (r := (53, [some (.ref 143), some (.int (zI 2))], [.ref 143], es111)) i_231_52 rfl ?_
            refine x_getr (p := 79) (k := 154) i_231_53 hs_es111 rfl rfl ?_
            show aW _ _ _ _ _ _ (56, [some (.ref 143), some (.int (zI 2))], [.ref 154], es111)
            refine x0 (r := (57, [some (.ref 143), some (.int (zI 2))], [.int (zI 2), .ref 154], es111)) i_231_56 rfl ?_
            refine x0 (r := (58, [some (.ref 143), some (.int (zI 2))], [.ref 143, .int (zI 2), .ref 154], es111)) i_231_57 rfl ?_
            refine x_getr (p := 79) (k := 144) i_231_58 hs_es111 rfl rfl ?_
            show aW _ _ _ _ _ _ (61, [some (.ref 143), some (.int (zI 2))], [.ref 144, .int (zI 2), .ref 154], es111)
            refine x0 (r := (62, [some (.ref 143), some (.int (zI 2))], [.int (zI 5), .ref 144, .int (zI 2), .ref 154], es111)) i_231_61 (by rfl) ?_
            refine x0 (r := (63, [some (.ref 143), some (.int (zI 2))], [.int (zI 2), .int (zI 5), .ref 144, .int (zI 2), .ref 154], es111)) i_231_62 rfl ?_
            refine x_iadd i_231_63 ?_
            show aW _ _ _ _ _ _ (64, [some (.ref 143), some (.int (zI 2))], [.int (zI 7), .ref 144, .int (zI 2), .ref 154], es111)
            refine x_iald (p := 80) i_231_64 hs_es111 rfl (by unfold i32 iLO iHI; omega) (by omega) (by omega) ?_
            obtain ⟨v112, e_v112⟩ : ∃ z : Int, z = (gA es111 80 (Int.toNat 7)).toInt := ⟨_, rfl⟩
            rw [← e_v112]
            have r_v112 : iLO ≤ v112 ∧ v112 ≤ iHI := by rw [e_v112]; exact i32_rng _
            unfold iLO iHI at r_v112
            have b_v112 : (0 : Int) ≤ v112 ∧ v112 ≤ (9 : Int) := by rw [e_v112]; exact gA_bd hT_es111 (p := 80) (k := (Int.toNat 7)) rfl (by omega) (by decide)
            refine x_iast (p := 90) i_231_65 hs_es111 rfl (by unfold i32 iLO iHI; omega) (by omega) (by omega) ?_
            obtain ⟨es113, e_es113⟩ : ∃ z : PH, z = sA es111 90 (Int.toNat 2) (zI v112) := ⟨_, rfl⟩
            have hs_es113 : sh es113 := by rw [e_es113]; exact sh_sA hs_es111
            have hT_es113 : hOK tT es113 := by rw [e_es113]; exact hOK_sA hT_es111 (p := 90) (n := 8) rfl (fun _ => by rw [zI_toInt (by unfold i32 iLO iHI; omega)]; exact ⟨by show (0 : Int) ≤ v112; omega, by show v112 ≤ (9 : Int); omega⟩)
            rw [← e_es113]
            refine x_iinc (x := 2) i_231_66 rfl (by show 1 < 2; decide) ?_
            show aW _ _ _ _ _ _ (69, [some (.ref 143), some (.int (zI 3))], [], es113)
            refine x0 (r := (46, [some (.ref 143), some (.int (zI 3))], [], es113)) i_231_69 rfl ?_
            refine x0 (r := (47, [some (.ref 143), some (.int (zI 3))], [.int (zI 3)], es113)) i_231_46 rfl ?_
            refine x0 (r := (49, [some (.ref 143), some (.int (zI 3))], [.int (zI 8), .int (zI 3)], es113)) i_231_47 (by rfl) ?_
            refine x_cmpF i_231_49 (by unfold i32 iLO iHI; omega) (by unfold i32 iLO iHI; omega) rfl (by simp only [zC, cR]; omega) ?_
            refine x0 (r := (53, [some (.ref 143), some (.int (zI 3))], [.ref 143], es113)) i_231_52 rfl ?_
            refine x_getr (p := 79) (k := 154) i_231_53 hs_es113 rfl rfl ?_
            show aW _ _ _ _ _ _ (56, [some (.ref 143), some (.int (zI 3))], [.ref 154], es113)
            refine x0 (r := (57, [some (.ref 143), some (.int (zI 3))], [.int (zI 3), .ref 154], es113)) i_231_56 rfl ?_
            refine x0 (r := (58, [some (.ref 143), some (.int (zI 3))], [.ref 143, .int (zI 3), .ref 154], es113)) i_231_57 rfl ?_
            refine x_getr (p := 79) (k := 144) i_231_58 hs_es113 rfl rfl ?_
            show aW _ _ _ _ _ _ (61, [some (.ref 143), some (.int (zI 3))], [.ref 144, .int (zI 3), .ref 154], es113)
            refine x0 (r := (62, [some (.ref 143), some (.int (zI 3))], [.int (zI 5), .ref 144, .int (zI 3), .ref 154], es113)) i_231_61 (by rfl) ?_
            refine x0 (r := (63, [some (.ref 143), some (.int (zI 3))], [.int (zI 3), .int (zI 5), .ref 144, .int (zI 3), .ref 154], es113)) i_231_62 rfl ?_
            refine x_iadd i_231_63 ?_
            show aW _ _ _ _ _ _ (64, [some (.ref 143), some (.int (zI 3))], [.int (zI 8), .ref 144, .int (zI 3), .ref 154], es113)
            refine x_iald (p := 80) i_231_64 hs_es113 rfl (by unfold i32 iLO iHI; omega) (by omega) (by omega) ?_
            obtain ⟨v114, e_v114⟩ : ∃ z : Int, z = (gA es113 80 (Int.toNat 8)).toInt := ⟨_, rfl⟩
            rw [← e_v114]
            have r_v114 : iLO ≤ v114 ∧ v114 ≤ iHI := by rw [e_v114]; exact i32_rng _
            unfold iLO iHI at r_v114
            have b_v114 : (0 : Int) ≤ v114 ∧ v114 ≤ (9 : Int) := by rw [e_v114]; exact gA_bd hT_es113 (p := 80) (k := (Int.toNat 8)) rfl (by omega) (by decide)
            refine x_iast (p := 90) i_231_65 hs_es113 rfl (by unfold i32 iLO iHI; omega) (by omega) (by omega) ?_
            obtain ⟨es115, e_es115⟩ : ∃ z : PH, z = sA es113 90 (Int.toNat 3) (zI v114) := ⟨_, rfl⟩
            have hs_es115 : sh es115 := by rw [e_es115]; exact sh_sA hs_es113
            have hT_es115 : hOK tT es115 := by rw [e_es115]; exact hOK_sA hT_es113 (p := 90) (n := 8) rfl (fun _ => by rw [zI_toInt (by unfold i32 iLO iHI; omega)]; exact ⟨by show (0 : Int) ≤ v114; omega, by show v114 ≤ (9 : Int); omega⟩)
            rw [← e_es115]
            refine x_iinc (x := 3) i_231_66 rfl (by show 1 < 2; decide) ?_
            show aW _ _ _ _ _ _ (69, [some (.ref 143), some (.int (zI 4))], [], es115)
            refine x0 (r := (46, [some (.ref 143), some (.int (zI 4))], [], es115)) i_231_69 rfl ?_
            refine x0 (r := (47, [some (.ref 143), some (.int (zI 4))], [.int (zI 4)], es115)) i_231_46 rfl ?_
            refine x0 (r := (49, [some (.ref 143), some (.int (zI 4))], [.int (zI 8), .int (zI 4)], es115)) i_231_47 (by rfl) ?_
            refine x_cmpF i_231_49 (by unfold i32 iLO iHI; omega) (by unfold i32 iLO iHI; omega) rfl (by simp only [zC, cR]; omega) ?_
            refine x0 (r := (53, [some (.ref 143), some (.int (zI 4))], [.ref 143], es115)) i_231_52 rfl ?_
            refine x_getr (p := 79) (k := 154) i_231_53 hs_es115 rfl rfl ?_
            show aW _ _ _ _ _ _ (56, [some (.ref 143), some (.int (zI 4))], [.ref 154], es115)
            refine x0 (r := (57, [some (.ref 143), some (.int (zI 4))], [.int (zI 4), .ref 154], es115)) i_231_56 rfl ?_
            refine x0 (r := (58, [some (.ref 143), some (.int (zI 4))], [.ref 143, .int (zI 4), .ref 154], es115)) i_231_57 rfl ?_
            refine x_getr (p := 79) (k := 144) i_231_58 hs_es115 rfl rfl ?_
            show aW _ _ _ _ _ _ (61, [some (.ref 143), some (.int (zI 4))], [.ref 144, .int (zI 4), .ref 154], es115)
            refine x0 (r := (62, [some (.ref 143), some (.int (zI 4))], [.int (zI 5), .ref 144, .int (zI 4), .ref 154], es115)) i_231_61 (by rfl) ?_
            refine x0 (r := (63, [some (.ref 143), some (.int (zI 4))], [.int (zI 4), .int (zI 5), .ref 144, .int (zI 4), .ref 154], es115)) i_231_62 rfl ?_
            refine x_iadd i_231_63 ?_
            show aW _ _ _ _ _ _ (64, [some (.ref 143), some (.int (zI 4))], [.int (zI 9), .ref 144, .int (zI 4), .ref 154], es115)
            refine x_iald (p := 80) i_231_64 hs_es115 rfl (by unfold i32 iLO iHI; omega) (by omega) (by omega) ?_
            obtain ⟨v116, e_v116⟩ : ∃ z : Int, z = (gA es115 80 (Int.toNat 9)).toInt := ⟨_, rfl⟩
            rw [← e_v116]
            have r_v116 : iLO ≤ v116 ∧ v116 ≤ iHI := by rw [e_v116]; exact i32_rng _
            unfold iLO iHI at r_v116
            have b_v116 : (0 : Int) ≤ v116 ∧ v116 ≤ (9 : Int) := by rw [e_v116]; exact gA_bd hT_es115 (p := 80) (k := (Int.toNat 9)) rfl (by omega) (by decide)
            refine x_iast (p := 90) i_231_65 hs_es115 rfl (by unfold i32 iLO iHI; omega) (by omega) (by omega) ?_
            obtain ⟨es117, e_es117⟩ : ∃ z : PH, z = sA es115 90 (Int.toNat 4) (zI v116) := ⟨_, rfl⟩
            have hs_es117 : sh es117 := by rw [e_es117]; exact sh_sA hs_es115
            have hT_es117 : hOK tT es117 := by rw [e_es117]; exact hOK_sA hT_es115 (p := 90) (n := 8) rfl (fun _ => by rw [zI_toInt (by unfold i32 iLO iHI; omega)]; exact ⟨by show (0 : Int) ≤ v116; omega, by show v116 ≤ (9 : Int); omega⟩)
            rw [← e_es117]
            refine x_iinc (x := 4) i_231_66 rfl (by show 1 < 2; decide) ?_
            show aW _ _ _ _ _ _ (69, [some (.ref 143), some (.int (zI 5))], [], es117)
            refine x0 (r := (46, [some (.ref 143), some (.int (zI 5))], [], es117)) i_231_69 rfl ?_
            refine x0 (r := (47, [some (.ref 143), some (.int (zI 5))], [.int (zI 5)], es117)) i_231_46 rfl ?_
            refine x0 (r := (49, [some (.ref 143), some (.int (zI 5))], [.int (zI 8), .int (zI 5)], es117)) i_231_47 (by rfl) ?_
            refine x_cmpF i_231_49 (by unfold i32 iLO iHI; omega) (by unfold i32 iLO iHI; omega) rfl (by simp only [zC, cR]; omega) ?_
            refine x0 (r := (53, [some (.ref 143), some (.int (zI 5))], [.ref 143], es117)) i_231_52 rfl ?_
            refine x_getr (p := 79) (k := 154) i_231_53 hs_es117 rfl rfl ?_
            show aW _ _ _ _ _ _ (56, [some (.ref 143), some (.int (zI 5))], [.ref 154], es117)
            refine x0 (r := (57, [some (.ref 143), some (.int (zI 5))], [.int (zI 5), .ref 154], es117)) i_231_56 rfl ?_
            refine x0 (r := (58, [some (.ref 143), some (.int (zI 5))], [.ref 143, .int (zI 5), .ref 154], es117)) i_231_57 rfl ?_
            refine x_getr (p := 79) (k := 144) i_231_58 hs_es117 rfl rfl ?_
            show aW _ _ _ _ _ _ (61, [some (.ref 143), some (.int (zI 5))], [.ref 144, .int (zI 5), .ref 154], es117)
            refine x0 (r := (62, [some (.ref 143), some (.int (zI 5))], [.int (zI 5), .ref 144, .int (zI 5), .ref 154], es117)) i_231_61 (by rfl) ?_
            refine x0 (r := (63, [some (.ref 143), some (.int (zI 5))], [.int (zI 5), .int (zI 5), .ref 144, .int (zI 5), .ref 154], es117)) i_231_62 rfl ?_
            refine x_iadd i_231_63 ?_
            show aW _ _ _ _ _ _ (64, [some (.ref 143), some (.int (zI 5))], [.int (zI 10), .ref 144, .int (zI 5), .ref 154], es117)
            refine x_iald (p := 80) i_231_64 hs_es117 rfl (by unfold i32 iLO iHI; omega) (by omega) (by omega) ?_
            obtain ⟨v118, e_v118⟩ : ∃ z : Int, z = (gA es117 80 (Int.toNat 10)).toInt := ⟨_, rfl⟩
            rw [← e_v118]
            have r_v118 : iLO ≤ v118 ∧ v118 ≤ iHI := by rw [e_v118]; exact i32_rng _
            unfold iLO iHI at r_v118
            have b_v118 : (0 : Int) ≤ v118 ∧ v118 ≤ (9 : Int) := by rw [e_v118]; exact gA_bd hT_es117 (p := 80) (k := (Int.toNat 10)) rfl (by omega) (by decide)
            refine x_iast (p := 90) i_231_65 hs_es117 rfl (by unfold i32 iLO iHI; omega) (by omega) (by omega) ?_
            obtain ⟨es119, e_es119⟩ : ∃ z : PH, z = sA es117 90 (Int.toNat 5) (zI v118) := ⟨_, rfl⟩
            have hs_es119 : sh es119 := by rw [e_es119]; exact sh_sA hs_es117
            have hT_es119 : hOK tT es119 := by rw [e_es119]; exact hOK_sA hT_es117 (p := 90) (n := 8) rfl (fun _ => by rw [zI_toInt (by unfold i32 iLO iHI; omega)]; exact ⟨by show (0 : Int) ≤ v118; omega, by show v118 ≤ (9 : Int); omega⟩)
            rw [← e_es119]
            refine x_iinc (x := 5) i_231_66 rfl (by show 1 < 2; decide) ?_
            show aW _ _ _ _ _ _ (69, [some (.ref 143), some (.int (zI 6))], [], es119)
            refine x0 (r := (46, [some (.ref 143), some (.int (zI 6))], [], es119)) i_231_69 rfl ?_
            refine x0 (r := (47, [some (.ref 143), some (.int (zI 6))], [.int (zI 6)], es119)) i_231_46 rfl ?_
            refine x0 (r := (49, [some (.ref 143), some (.int (zI 6))], [.int (zI 8), .int (zI 6)], es119)) i_231_47 (by rfl) ?_
            refine x_cmpF i_231_49 (by unfold i32 iLO iHI; omega) (by unfold i32 iLO iHI; omega) rfl (by simp only [zC, cR]; omega) ?_
            refine x0 (r := (53, [some (.ref 143), some (.int (zI 6))], [.ref 143], es119)) i_231_52 rfl ?_
            refine x_getr (p := 79) (k := 154) i_231_53 hs_es119 rfl rfl ?_
            show aW _ _ _ _ _ _ (56, [some (.ref 143), some (.int (zI 6))], [.ref 154], es119)
            refine x0 (r := (57, [some (.ref 143), some (.int (zI 6))], [.int (zI 6), .ref 154], es119)) i_231_56 rfl ?_
            refine x0 (r := (58, [some (.ref 143), some (.int (zI 6))], [.ref 143, .int (zI 6), .ref 154], es119)) i_231_57 rfl ?_
            refine x_getr (p := 79) (k := 144) i_231_58 hs_es119 rfl rfl ?_
            show aW _ _ _ _ _ _ (61, [some (.ref 143), some (.int (zI 6))], [.ref 144, .int (zI 6), .ref 154], es119)
            refine x0 (r := (62, [some (.ref 143), some (.int (zI 6))], [.int (zI 5), .ref 144, .int (zI 6), .ref 154], es119)) i_231_61 (by rfl) ?_
            refine x0 (r := (63, [some (.ref 143), some (.int (zI 6))], [.int (zI 6), .int (zI 5), .ref 144, .int (zI 6), .ref 154], es119)) i_231_62 rfl ?_
            refine x_iadd i_231_63 ?_
            show aW _ _ _ _ _ _ (64, [some (.ref 143), some (.int (zI 6))], [.int (zI 11), .ref 144, .int (zI 6), .ref 154], es119)
            refine x_iald (p := 80) i_231_64 hs_es119 rfl (by unfold i32 iLO iHI; omega) (by omega) (by omega) ?_
            obtain ⟨v120, e_v120⟩ : ∃ z : Int, z = (gA es119 80 (Int.toNat 11)).toInt := ⟨_, rfl⟩
            rw [← e_v120]
            have r_v120 : iLO ≤ v120 ∧ v120 ≤ iHI := by rw [e_v120]; exact i32_rng _
            unfold iLO iHI at r_v120
            have b_v120 : (0 : Int) ≤ v120 ∧ v120 ≤ (9 : Int) := by rw [e_v120]; exact gA_bd hT_es119 (p := 80) (k := (Int.toNat 11)) rfl (by omega) (by decide)
            refine x_iast (p := 90) i_231_65 hs_es119 rfl (by unfold i32 iLO iHI; omega) (by omega) (by omega) ?_
            obtain ⟨es121, e_es121⟩ : ∃ z : PH, z = sA es119 90 (Int.toNat 6) (zI v120) := ⟨_, rfl⟩
            have hs_es121 : sh es121 := by rw [e_es121]; exact sh_sA hs_es119
            have hT_es121 : hOK tT es121 := by rw [e_es121]; exact hOK_sA hT_es119 (p := 90) (n := 8) rfl (fun _ => by rw [zI_toInt (by unfold i32 iLO iHI; omega)]; exact ⟨by show (0 : Int) ≤ v120; omega, by show v120 ≤ (9 : Int); omega⟩)
            rw [← e_es121]
            refine x_iinc (x := 6) i_231_66 rfl (by show 1 < 2; decide) ?_
            show aW _ _ _ _ _ _ (69, [some (.ref 143), some (.int (zI 7))], [], es121)
            refine x0 (r := (46, [some (.ref 143), some (.int (zI 7))], [], es121)) i_231_69 rfl ?_
            refine x0 (r := (47, [some (.ref 143), some (.int (zI 7))], [.int (zI 7)], es121)) i_231_46 rfl ?_
            refine x0 (r := (49, [some (.ref 143), some (.int (zI 7))], [.int (zI 8), .int (zI 7)], es121)) i_231_47 (by rfl) ?_
            refine x_cmpF i_231_49 (by unfold i32 iLO iHI; omega) (by unfold i32 iLO iHI; omega) rfl (by simp only [zC, cR]; omega) ?_
            refine x0 (r := (53, [some (.ref 143), some (.int (zI 7))], [.ref 143], es121)) i_231_52 rfl ?_
            refine x_getr (p := 79) (k := 154) i_231_53 hs_es121 rfl rfl ?_
            show aW _ _ _ _ _ _ (56, [some (.ref 143), some (.int (zI 7))], [.ref 154], es121)
            refine x0 (r := (57, [some (.ref 143), some (.int (zI 7))], [.int (zI 7), .ref 154], es121)) i_231_56 rfl ?_
            refine x0 (r := (58, [some (.ref 143), some (.int (zI 7))], [.ref 143, .int (zI 7), .ref 154], es121)) i_231_57 rfl ?_
            refine x_getr (p := 79) (k := 144) i_231_58 hs_es121 rfl rfl ?_
            show aW _ _ _ _ _ _ (61, [some (.ref 143), some (.int (zI 7))], [.ref 144, .int (zI 7), .ref 154], es121)
            refine x0 (r := (62, [some (.ref 143), some (.int (zI 7))], [.int (zI 5), .ref 144, .int (zI 7), .ref 154], es121)) i_231_61 (by rfl) ?_
            refine x0 (r := (63, [some (.ref 143), some (.int (zI 7))], [.int (zI 7), .int (zI 5), .ref 144, .int (zI 7), .ref 154], es121)) i_231_62 rfl ?_
            refine x_iadd i_231_63 ?_
            show aW _ _ _ _ _ _ (64, [some (.ref 143), some (.int (zI 7))], [.int (zI 12), .ref 144, .int (zI 7), .ref 154], es121)
            refine x_iald (p := 80) i_231_64 hs_es121 rfl (by unfold i32 iLO iHI; omega) (by omega) (by omega) ?_
            obtain ⟨v122, e_v122⟩ : ∃ z : Int, z = (gA es121 80 (Int.toNat 12)).toInt := ⟨_, rfl⟩
            rw [← e_v122]
            have r_v122 : iLO ≤ v122 ∧ v122 ≤ iHI := by rw [e_v122]; exact i32_rng _
            unfold iLO iHI at r_v122
            have b_v122 : (0 : Int) ≤ v122 ∧ v122 ≤ (9 : Int) := by rw [e_v122]; exact gA_bd hT_es121 (p := 80) (k := (Int.toNat 12)) rfl (by omega) (by decide)
            refine x_iast (p := 90) i_231_65 hs_es121 rfl (by unfold i32 iLO iHI; omega) (by omega) (by omega) ?_
            obtain ⟨es123, e_es123⟩ : ∃ z : PH, z = sA es121 90 (Int.toNat 7) (zI v122) := ⟨_, rfl⟩
            have hs_es123 : sh es123 := by rw [e_es123]; exact sh_sA hs_es121
            have hT_es123 : hOK tT es123 := by rw [e_es123]; exact hOK_sA hT_es121 (p := 90) (n := 8) rfl (fun _ => by rw [zI_toInt (by unfold i32 iLO iHI; omega)]; exact ⟨by show (0 : Int) ≤ v122; omega, by show v122 ≤ (9 : Int); omega⟩)
            rw [← e_es123]
            refine x_iinc (x := 7) i_231_66 rfl (by show 1 < 2; decide) ?_
            show aW _ _ _ _ _ _ (69, [some (.ref 143), some (.int (zI 8))], [], es123)
            refine x0 (r := (46, [some (.ref 143), some (.int (zI 8))], [], es123)) i_231_69 rfl ?_
            refine x0 (r := (47, [some (.ref 143), some (.int (zI 8))], [.int (zI 8)], es123)) i_231_46 rfl ?_
            refine x0 (r := (49, [some (.ref 143), some (.int (zI 8))], [.int (zI 8), .int (zI 8)], es123)) i_231_47 (by rfl) ?_
            refine x_cmpT i_231_49 (by unfold i32 iLO iHI; omega) (by unfold i32 iLO iHI; omega) rfl (by simp only [zC, cR]; omega) ?_
            refine x_ret (v := none) i_231_72 rfl (fun _ => rfl) rfl rfl rfl ?_
            show aW _ _ _ _ _ _ (24, [some (.ref 143), some (.int (zI bk)), none], [], es123)
            refine x0 (r := (25, [some (.ref 143), some (.int (zI bk)), none], [.ref 143], es123)) i_263_24 rfl ?_
            refine x0 (r := (26, [some (.ref 143), some (.int (zI bk)), none], [.int (zI 1), .ref 143], es123)) i_263_25 (by rfl) ?_
            refine x0 (r := (27, [some (.ref 143), some (.int (zI bk)), none], [.int (zI bk), .int (zI 1), .ref 143], es123)) i_263_26 rfl ?_
            refine x_op i_263_27 (w := (zI 1 <<< (zI bk &&& 31))) rfl rfl ?_
            obtain ⟨v124, e_v124⟩ : ∃ z : Int, z = (zI 1 <<< (zI bk &&& 31)).toInt := ⟨_, rfl⟩
            rw [← e_v124]
            have r_v124 : iLO ≤ v124 ∧ v124 ≤ iHI := by rw [e_v124]; exact i32_rng _
            unfold iLO iHI at r_v124
            refine x_puti (p := 79) (ty := .int) i_263_28 hs_es123 rfl rfl rfl (Or.inl rfl) ?_
            obtain ⟨es125, e_es125⟩ : ∃ z : PH, z = sI es123 79 18 (.int (zI v124)) := ⟨_, rfl⟩
            have hs_es125 : sh es125 := by rw [e_es125]; exact sh_sI hs_es123 (p := 79) (b := 18) rfl rfl
            have hT_es125 : hOK tT es125 := by rw [e_es125]; exact hOK_sI hT_es123 (p := 79) (b := 18) (lo := iLO) (hi := iHI) rfl rfl (i32_rng _)
            rw [← e_es125]
            refine x0 (r := (32, [some (.ref 143), some (.int (zI bk)), none], [.int (zI 0)], es125)) i_263_31 (by rfl) ?_
            refine x0 (r := (33, [some (.ref 143), some (.int (zI bk)), some (.int (zI 0))], [], es125)) i_263_32 rfl ?_
            refine x0 (r := (34, [some (.ref 143), some (.int (zI bk)), some (.int (zI 0))], [.int (zI 0)], es125)) i_263_33 rfl ?_
            refine x0 (r := (36, [some (.ref 143), some (.int (zI bk)), some (.int (zI 0))], [.int (zI 8), .int (zI 0)], es125)) i_263_34 (by rfl) ?_
            refine x_cmpF i_263_36 (by unfold i32 iLO iHI; omega) (by unfold i32 iLO iHI; omega) rfl (by simp only [zC, cR]; omega) ?_
            refine x0 (r := (40, [some (.ref 143), some (.int (zI bk)), some (.int (zI 0))], [.ref 143], es125)) i_263_39 rfl ?_
            refine x_getr (p := 79) (k := 154) i_263_40 hs_es125 rfl rfl ?_
            show aW _ _ _ _ _ _ (43, [some (.ref 143), some (.int (zI bk)), some (.int (zI 0))], [.ref 154], es125)
            refine x0 (r := (44, [some (.ref 143), some (.int (zI bk)), some (.int (zI 0))], [.int (zI 0), .ref 154], es125)) i_263_43 rfl ?_
            refine x0 (r := (45, [some (.ref 143), some (.int (zI bk)), some (.int (zI 0))], [.int (zI 0), .int (zI 0), .ref 154], es125)) i_263_44 (by rfl) ?_
            refine x_iast (p := 90) i_263_45 hs_es125 rfl (by unfold i32 iLO iHI; omega) (by omega) (by omega) ?_
            obtain ⟨es126, e_es126⟩ : ∃ z : PH, z = sA es125 90 (Int.toNat 0) (zI 0) := ⟨_, rfl⟩
            have hs_es126 : sh es126 := by rw [e_es126]; exact sh_sA hs_es125
            have hT_es126 : hOK tT es126 := by rw [e_es126]; exact hOK_sA hT_es125 (p := 90) (n := 8) rfl (fun _ => by rw [zI_toInt (by unfold i32 iLO iHI; omega)]; exact ⟨by show (0 : Int) ≤ 0; omega, by show 0 ≤ (9 : Int); omega⟩)
            rw [← e_es126]
            refine x_iinc (x := 0) i_263_46 rfl (by show 2 < 3; decide) ?_
            show aW _ _ _ _ _ _ (49, [some (.ref 143), some (.int (zI bk)), some (.int (zI 1))], [], es126)
            refine x0 (r := (33, [some (.ref 143), some (.int (zI bk)), some (.int (zI 1))], [], es126)) i_263_49 rfl ?_
            refine x0 (r := (34, [some (.ref 143), some (.int (zI bk)), some (.int (zI 1))], [.int (zI 1)], es126)) i_263_33 rfl ?_
            refine x0 (r := (36, [some (.ref 143), some (.int (zI bk)), some (.int (zI 1))], [.int (zI 8), .int (zI 1)], es126)) i_263_34 (by rfl) ?_
            refine x_cmpF i_263_36 (by unfold i32 iLO iHI; omega) (by unfold i32 iLO iHI; omega) rfl (by simp only [zC, cR]; omega) ?_
            refine x0 (r := (40, [some (.ref 143), some (.int (zI bk)), some (.int (zI 1))], [.ref 143], es126)) i_263_39 rfl ?_
            refine x_getr (p := 79) (k := 154) i_263_40 hs_es126 rfl rfl ?_
            show aW _ _ _ _ _ _ (43, [some (.ref 143), some (.int (zI bk)), some (.int (zI 1))], [.ref 154], es126)
            refine x0 (r := (44, [some (.ref 143), some (.int (zI bk)), some (.int (zI 1))], [.int (zI 1), .ref 154], es126)) i_263_43 rfl ?_
            refine x0 (r := (45, [some (.ref 143), some (.int (zI bk)), some (.int (zI 1))], [.int (zI 0), .int (zI 1), .ref 154], es126)) i_263_44 (by rfl) ?_
            refine x_iast (p := 90) i_263_45 hs_es126 rfl (by unfold i32 iLO iHI; omega) (by omega) (by omega) ?_
            obtain ⟨es127, e_es127⟩ : ∃ z : PH, z = sA es126 90 (Int.toNat 1) (zI 0) := ⟨_, rfl⟩
            have hs_es127 : sh es127 := by rw [e_es127]; exact sh_sA hs_es126
            have hT_es127 : hOK tT es127 := by rw [e_es127]; exact hOK_sA hT_es126 (p := 90) (n := 8) rfl (fun _ => by rw [zI_toInt (by unfold i32 iLO iHI; omega)]; exact ⟨by show (0 : Int) ≤ 0; omega, by show 0 ≤ (9 : Int); omega⟩)
            rw [← e_es127]
            refine x_iinc (x := 1) i_263_46 rfl (by show 2 < 3; decide) ?_
            show aW _ _ _ _ _ _ (49, [some (.ref 143), some (.int (zI bk)), some (.int (zI 2))], [], es127)
            refine x0 (r := (33, [some (.ref 143), some (.int (zI bk)), some (.int (zI 2))], [], es127)) i_263_49 rfl ?_
            refine x0 (r := (34, [some (.ref 143), some (.int (zI bk)), some (.int (zI 2))], [.int (zI 2)], es127)) i_263_33 rfl ?_
            refine x0 (r := (36, [some (.ref 143), some (.int (zI bk)), some (.int (zI 2))], [.int (zI 8), .int (zI 2)], es127)) i_263_34 (by rfl) ?_
            refine x_cmpF i_263_36 (by unfold i32 iLO iHI; omega) (by unfold i32 iLO iHI; omega) rfl (by simp only [zC, cR]; omega) ?_
            refine x0 (r := (40, [some (.ref 143), some (.int (zI bk)), some (.int (zI 2))], [.ref 143], es127)) i_263_39 rfl ?_
            refine x_getr (p := 79) (k := 154) i_263_40 hs_es127 rfl rfl ?_
            show aW _ _ _ _ _ _ (43, [some (.ref 143), some (.int (zI bk)), some (.int (zI 2))], [.ref 154], es127)
            refine x0 (r := (44, [some (.ref 143), some (.int (zI bk)), some (.int (zI 2))], [.int (zI 2), .ref 154], es127)) i_263_43 rfl ?_
            refine x0 (r := (45, [some (.ref 143), some (.int (zI bk)), some (.int (zI 2))], [.int (zI 0), .int (zI 2), .ref 154], es127)) i_263_44 (by rfl) ?_
            refine x_iast (p := 90) i_263_45 hs_es127 rfl (by unfold i32 iLO iHI; omega) (by omega) (by omega) ?_
            obtain ⟨es128, e_es128⟩ : ∃ z : PH, z = sA es127 90 (Int.toNat 2) (zI 0) := ⟨_, rfl⟩
            have hs_es128 : sh es128 := by rw [e_es128]; exact sh_sA hs_es127
            have hT_es128 : hOK tT es128 := by rw [e_es128]; exact hOK_sA hT_es127 (p := 90) (n := 8) rfl (fun _ => by rw [zI_toInt (by unfold i32 iLO iHI; omega)]; exact ⟨by show (0 : Int) ≤ 0; omega, by show 0 ≤ (9 : Int); omega⟩)
            rw [← e_es128]
            refine x_iinc (x := 2) i_263_46 rfl (by show 2 < 3; decide) ?_
            show aW _ _ _ _ _ _ (49, [some (.ref 143), some (.int (zI bk)), some (.int (zI 3))], [], es128)
            refine x0 (r := (33, [some (.ref 143), some (.int (zI bk)), some (.int (zI 3))], [], es128)) i_263_49 rfl ?_
            refine x0 (r := (34, [some (.ref 143), some (.int (zI bk)), some (.int (zI 3))], [.int (zI 3)], es128)) i_263_33 rfl ?_
            refine x0 (r := (36, [some (.ref 143), some (.int (zI bk)), some (.int (zI 3))], [.int (zI 8), .int (zI 3)], es128)) i_263_34 (by rfl) ?_
            refine x_cmpF i_263_36 (by unfold i32 iLO iHI; omega) (by unfold i32 iLO iHI; omega) rfl (by simp only [zC, cR]; omega) ?_
            refine x0 (r := (40, [some (.ref 143), some (.int (zI bk)), some (.int (zI 3))], [.ref 143], es128)) i_263_39 rfl ?_
            refine x_getr (p := 79) (k := 154) i_263_40 hs_es128 rfl rfl ?_
            show aW _ _ _ _ _ _ (43, [some (.ref 143), some (.int (zI bk)), some (.int (zI 3))], [.ref 154], es128)
            refine x0 (r := (44, [some (.ref 143), some (.int (zI bk)), some (.int (zI 3))], [.int (zI 3), .ref 154], es128)) i_263_43 rfl ?_
            refine x0 (r := (45, [some (.ref 143), some (.int (zI bk)), some (.int (zI 3))], [.int (zI 0), .int (zI 3), .ref 154], es128)) i_263_44 (by rfl) ?_
            refine x_iast (p := 90) i_263_45 hs_es128 rfl (by unfold i32 iLO iHI; omega) (by omega) (by omega) ?_
            obtain ⟨es129, e_es129⟩ : ∃ z : PH, z = sA es128 90 (Int.toNat 3) (zI 0) := ⟨_, rfl⟩
            have hs_es129 : sh es129 := by rw [e_es129]; exact sh_sA hs_es128
            have hT_es129 : hOK tT es129 := by rw [e_es129]; exact hOK_sA hT_es128 (p := 90) (n := 8) rfl (fun _ => by rw [zI_toInt (by unfold i32 iLO iHI; omega)]; exact ⟨by show (0 : Int) ≤ 0; omega, by show 0 ≤ (9 : Int); omega⟩)
            rw [← e_es129]
            refine x_iinc (x := 3) i_263_46 rfl (by show 2 < 3; decide) ?_
            show aW _ _ _ _ _ _ (49, [some (.ref 143), some (.int (zI bk)), some (.int (zI 4))], [], es129)
            refine x0 (r := (33, [some (.ref 143), some (.int (zI bk)), some (.int (zI 4))], [], es129)) i_263_49 rfl ?_
            refine x0 (r := (34, [some (.ref 143), some (.int (zI bk)), some (.int (zI 4))], [.int (zI 4)], es129)) i_263_33 rfl ?_
            refine x0 (r := (36, [some (.ref 143), some (.int (zI bk)), some (.int (zI 4))], [.int (zI 8), .int (zI 4)], es129)) i_263_34 (by rfl) ?_
            refine x_cmpF i_263_36 (by unfold i32 iLO iHI; omega) (by unfold i32 iLO iHI; omega) rfl (by simp only [zC, cR]; omega) ?_
            refine x0 (r := (40, [some (.ref 143), some (.int (zI bk)), some (.int (zI 4))], [.ref 143], es129)) i_263_39 rfl ?_
            refine x_getr (p := 79) (k := 154) i_263_40 hs_es129 rfl rfl ?_
            show aW _ _ _ _ _ _ (43, [some (.ref 143), some (.int (zI bk)), some (.int (zI 4))], [.ref 154], es129)
            refine x0 (r := (44, [some (.ref 143), some (.int (zI bk)), some (.int (zI 4))], [.int (zI 4), .ref 154], es129)) i_263_43 rfl ?_
            refine x0 (r := (45, [some (.ref 143), some (.int (zI bk)), some (.int (zI 4))], [.int (zI 0), .int (zI 4), .ref 154], es129)) i_263_44 (by rfl) ?_
            refine x_iast (p := 90) i_263_45 hs_es129 rfl (by unfold i32 iLO iHI; omega) (by omega) (by omega) ?_
            obtain ⟨es130, e_es130⟩ : ∃ z : PH, z = sA es129 90 (Int.toNat 4) (zI 0) := ⟨_, rfl⟩
            have hs_es130 : sh es130 := by rw [e_es130]; exact sh_sA hs_es129
            have hT_es130 : hOK tT es130 := by rw [e_es130]; exact hOK_sA hT_es129 (p := 90) (n := 8) rfl (fun _ => by rw [zI_toInt (by unfold i32 iLO iHI; omega)]; exact ⟨by show (0 : Int) ≤ 0; omega, by show 0 ≤ (9 : Int); omega⟩)
            rw [← e_es130]
            refine x_iinc (x := 4) i_263_46 rfl (by show 2 < 3; decide) ?_
            show aW _ _ _ _ _ _ (49, [some (.ref 143), some (.int (zI bk)), some (.int (zI 5))], [], es130)
            refine x0 (r := (33, [some (.ref 143), some (.int (zI bk)), some (.int (zI 5))], [], es130)) i_263_49 rfl ?_
            refine x0 (r := (34, [some (.ref 143), some (.int (zI bk)), some (.int (zI 5))], [.int (zI 5)], es130)) i_263_33 rfl ?_
            refine x0 (r := (36, [some (.ref 143), some (.int (zI bk)), some (.int (zI 5))], [.int (zI 8), .int (zI 5)], es130)) i_263_34 (by rfl) ?_
            refine x_cmpF i_263_36 (by unfold i32 iLO iHI; omega) (by unfold i32 iLO iHI; omega) rfl (by simp only [zC, cR]; omega) ?_
            refine x0 (r := (40, [some (.ref 143), some (.int (zI bk)), some (.int (zI 5))], [.ref 143], es130)) i_263_39 rfl ?_
            refine x_getr (p := 79) (k := 154) i_263_40 hs_es130 rfl rfl ?_
            show aW _ _ _ _ _ _ (43, [some (.ref 143), some (.int (zI bk)), some (.int (zI 5))], [.ref 154], es130)
            refine x0 (r := (44, [some (.ref 143), some (.int (zI bk)), some (.int (zI 5))], [.int (zI 5), .ref 154], es130)) i_263_43 rfl ?_
            refine x0 (r := (45, [some (.ref 143), some (.int (zI bk)), some (.int (zI 5))], [.int (zI 0), .int (zI 5), .ref 154], es130)) i_263_44 (by rfl) ?_
            refine x_iast (p := 90) i_263_45 hs_es130 rfl (by unfold i32 iLO iHI; omega) (by omega) (by omega) ?_
            obtain ⟨es131, e_es131⟩ : ∃ z : PH, z = sA es130 90 (Int.toNat 5) (zI 0) := ⟨_, rfl⟩
            have hs_es131 : sh es131 := by rw [e_es131]; exact sh_sA hs_es130
            have hT_es131 : hOK tT es131 := by rw [e_es131]; exact hOK_sA hT_es130 (p := 90) (n := 8) rfl (fun _ => by rw [zI_toInt (by unfold i32 iLO iHI; omega)]; exact ⟨by show (0 : Int) ≤ 0; omega, by show 0 ≤ (9 : Int); omega⟩)
            rw [← e_es131]
            refine x_iinc (x := 5) i_263_46 rfl (by show 2 < 3; decide) ?_
            show aW _ _ _ _ _ _ (49, [some (.ref 143), some (.int (zI bk)), some (.int (zI 6))], [], es131)
            refine x0 (r := (33, [some (.ref 143), some (.int (zI bk)), some (.int (zI 6))], [], es131)) i_263_49 rfl ?_
            refine x0 (r := (34, [some (.ref 143), some (.int (zI bk)), some (.int (zI 6))], [.int (zI 6)], es131)) i_263_33 rfl ?_
            refine x0 (r := (36, [some (.ref 143), some (.int (zI bk)), some (.int (zI 6))], [.int (zI 8), .int (zI 6)], es131)) i_263_34 (by rfl) ?_
            refine x_cmpF i_263_36 (by unfold i32 iLO iHI; omega) (by unfold i32 iLO iHI; omega) rfl (by simp only [zC, cR]; omega) ?_
            refine x0 (r := (40, [some (.ref 143), some (.int (zI bk)), some (.int (zI 6))], [.ref 143], es131)) i_263_39 rfl ?_
            refine x_getr (p := 79) (k := 154) i_263_40 hs_es131 rfl rfl ?_
            show aW _ _ _ _ _ _ (43, [some (.ref 143), some (.int (zI bk)), some (.int (zI 6))], [.ref 154], es131)
            refine x0 (r := (44, [some (.ref 143), some (.int (zI bk)), some (.int (zI 6))], [.int (zI 6), .ref 154], es131)) i_263_43 rfl ?_
            refine x0 (r := (45, [some (.ref 143), some (.int (zI bk)), some (.int (zI 6))], [.int (zI 0), .int (zI 6), .ref 154], es131)) i_263_44 (by rfl) ?_
            refine x_iast (p := 90) i_263_45 hs_es131 rfl (by unfold i32 iLO iHI; omega) (by omega) (by omega) ?_
            obtain ⟨es132, e_es132⟩ : ∃ z : PH, z = sA es131 90 (Int.toNat 6) (zI 0) := ⟨_, rfl⟩
            have hs_es132 : sh es132 := by rw [e_es132]; exact sh_sA hs_es131
            have hT_es132 : hOK tT es132 := by rw [e_es132]; exact hOK_sA hT_es131 (p := 90) (n := 8) rfl (fun _ => by rw [zI_toInt (by unfold i32 iLO iHI; omega)]; exact ⟨by show (0 : Int) ≤ 0; omega, by show 0 ≤ (9 : Int); omega⟩)
            rw [← e_es132]
            refine x_iinc (x := 6) i_263_46 rfl (by show 2 < 3; decide) ?_
            show aW _ _ _ _ _ _ (49, [some (.ref 143), some (.int (zI bk)), some (.int (zI 7))], [], es132)
            refine x0 (r := (33, [some (.ref 143), some (.int (zI bk)), some (.int (zI 7))], [], es132)) i_263_49 rfl ?_
            refine x0 (r := (34, [some (.ref 143), some (.int (zI bk)), some (.int (zI 7))], [.int (zI 7)], es132)) i_263_33 rfl ?_
            refine x0 (r := (36, [some (.ref 143), some (.int (zI bk)), some (.int (zI 7))], [.int (zI 8), .int (zI 7)], es132)) i_263_34 (by rfl) ?_
            refine x_cmpF i_263_36 (by unfold i32 iLO iHI; omega) (by unfold i32 iLO iHI; omega) rfl (by simp only [zC, cR]; omega) ?_
            refine x0 (r := (40, [some (.ref 143), some (.int (zI bk)), some (.int (zI 7))], [.ref 143], es132)) i_263_39 rfl ?_
            refine x_getr (p := 79) (k := 154) i_263_40 hs_es132 rfl rfl ?_
            show aW _ _ _ _ _ _ (43, [some (.ref 143), some (.int (zI bk)), some (.int (zI 7))], [.ref 154], es132)
            refine x0 (r := (44, [some (.ref 143), some (.int (zI bk)), some (.int (zI 7))], [.int (zI 7), .ref 154], es132)) i_263_43 rfl ?_
            refine x0 (r := (45, [some (.ref 143), some (.int (zI bk)), some (.int (zI 7))], [.int (zI 0), .int (zI 7), .ref 154], es132)) i_263_44 (by rfl) ?_
            refine x_iast (p := 90) i_263_45 hs_es132 rfl (by unfold i32 iLO iHI; omega) (by omega) (by omega) ?_
            obtain ⟨es133, e_es133⟩ : ∃ z : PH, z = sA es132 90 (Int.toNat 7) (zI 0) := ⟨_, rfl⟩
            have hs_es133 : sh es133 := by rw [e_es133]; exact sh_sA hs_es132
            have hT_es133 : hOK tT es133 := by rw [e_es133]; exact hOK_sA hT_es132 (p := 90) (n := 8) rfl (fun _ => by rw [zI_toInt (by unfold i32 iLO iHI; omega)]; exact ⟨by show (0 : Int) ≤ 0; omega, by show 0 ≤ (9 : Int); omega⟩)
            rw [← e_es133]
            refine x_iinc (x := 7) i_263_46 rfl (by show 2 < 3; decide) ?_
            show aW _ _ _ _ _ _ (49, [some (.ref 143), some (.int (zI bk)), some (.int (zI 8))], [], es133)
            refine x0 (r := (33, [some (.ref 143), some (.int (zI bk)), some (.int (zI 8))], [], es133)) i_263_49 rfl ?_
            refine x0 (r := (34, [some (.ref 143), some (.int (zI bk)), some (.int (zI 8))], [.int (zI 8)], es133)) i_263_33 rfl ?_
            refine x0 (r := (36, [some (.ref 143), some (.int (zI bk)), some (.int (zI 8))], [.int (zI 8), .int (zI 8)], es133)) i_263_34 (by rfl) ?_
            refine x_cmpT i_263_36 (by unfold i32 iLO iHI; omega) (by unfold i32 iLO iHI; omega) rfl (by simp only [zC, cR]; omega) ?_
            refine x0 (r := (53, [some (.ref 143), some (.int (zI bk)), some (.int (zI 8))], [.ref 143], es133)) i_263_52 rfl ?_
            refine x0 (r := (54, [some (.ref 143), some (.int (zI bk)), some (.int (zI 8))], [.int (zI 0), .ref 143], es133)) i_263_53 (by rfl) ?_
            refine x_puti (p := 79) (ty := .int) i_263_54 hs_es133 rfl rfl rfl (Or.inl rfl) ?_
            obtain ⟨es134, e_es134⟩ : ∃ z : PH, z = sI es133 79 27 (.int (zI 0)) := ⟨_, rfl⟩
            have hs_es134 : sh es134 := by rw [e_es134]; exact sh_sI hs_es133 (p := 79) (b := 27) rfl rfl
            have hT_es134 : hOK tT es134 := by rw [e_es134]; exact hOK_sI hT_es133 (p := 79) (b := 27) (lo := iLO) (hi := iHI) rfl rfl (i32_rng _)
            rw [← e_es134]
            refine x0 (r := (58, [some (.ref 143), some (.int (zI bk)), some (.int (zI 8))], [.ref 143], es134)) i_263_57 rfl ?_
            refine x0 (r := (59, [some (.ref 143), some (.int (zI bk)), some (.int (zI 8))], [.int (zI 0), .ref 143], es134)) i_263_58 (by rfl) ?_
            refine x_puti (p := 79) (ty := .boolean) i_263_59 hs_es134 rfl rfl rfl (Or.inr ⟨rfl, by omega⟩) ?_
            obtain ⟨es135, e_es135⟩ : ∃ z : PH, z = sI es134 79 29 (.int (zI 0)) := ⟨_, rfl⟩
            have hs_es135 : sh es135 := by rw [e_es135]; exact sh_sI hs_es134 (p := 79) (b := 29) rfl rfl
            have hT_es135 : hOK tT es135 := by rw [e_es135]; exact hOK_sI hT_es134 (p := 79) (b := 29) rfl rfl (by rw [zI_toInt (by unfold i32 iLO iHI; omega)]; exact ⟨by show (0 : Int) ≤ 0; omega, by show 0 ≤ (1 : Int); omega⟩)
            rw [← e_es135]
            refine x0 (r := (63, [some (.ref 143), some (.int (zI bk)), some (.int (zI 8))], [.ref 143], es135)) i_263_62 rfl ?_
            refine x0 (r := (64, [some (.ref 143), some (.int (zI bk)), some (.int (zI 8))], [.int (zI 1), .ref 143], es135)) i_263_63 (by rfl) ?_
            refine x_puti (p := 79) (ty := .boolean) i_263_64 hs_es135 rfl rfl rfl (Or.inr ⟨rfl, by omega⟩) ?_
            obtain ⟨es136, e_es136⟩ : ∃ z : PH, z = sI es135 79 30 (.int (zI 1)) := ⟨_, rfl⟩
            have hs_es136 : sh es136 := by rw [e_es136]; exact sh_sI hs_es135 (p := 79) (b := 30) rfl rfl
            have hT_es136 : hOK tT es136 := by rw [e_es136]; exact hOK_sI hT_es135 (p := 79) (b := 30) rfl rfl (by rw [zI_toInt (by unfold i32 iLO iHI; omega)]; exact ⟨by show (0 : Int) ≤ 1; omega, by show 1 ≤ (1 : Int); omega⟩)
            rw [← e_es136]
            refine x0 (r := (68, [some (.ref 143), some (.int (zI bk)), some (.int (zI 8))], [.ref 143], es136)) i_263_67 rfl ?_
            refine x0 (r := (70, [some (.ref 143), some (.int (zI bk)), some (.int (zI 8))], [.int (zI 30), .ref 143], es136)) i_263_68 (by rfl) ?_
            refine x_puti (p := 79) (ty := .int) i_263_70 hs_es136 rfl rfl rfl (Or.inl rfl) ?_
            obtain ⟨es137, e_es137⟩ : ∃ z : PH, z = sI es136 79 35 (.int (zI 30)) := ⟨_, rfl⟩
            have hs_es137 : sh es137 := by rw [e_es137]; exact sh_sI hs_es136 (p := 79) (b := 35) rfl rfl
            have hT_es137 : hOK tT es137 := by rw [e_es137]; exact hOK_sI hT_es136 (p := 79) (b := 35) rfl rfl (by rw [zI_toInt (by unfold i32 iLO iHI; omega)]; exact ⟨by show (0 : Int) ≤ 30; omega, by show 30 ≤ (2147483647 : Int); omega⟩)
            rw [← e_es137]
            refine x0 (r := (74, [some (.ref 143), some (.int (zI bk)), some (.int (zI 8))], [.ref 143], es137)) i_263_73 rfl ?_
            refine x0 (r := (75, [some (.ref 143), some (.int (zI bk)), some (.int (zI 8))], [.int (zI 0), .ref 143], es137)) i_263_74 (by rfl) ?_
            exact K6 es1 e_es1 v2 e_v2 c3 c5 v7 e_v7 es8 e_es8 c9 v40 e_v40 es41 e_es41 c42 v73 e_v73 es74 e_es74 c75 v106 e_v106 es107 e_es107 v108 e_v108 es109 e_es109 v110 e_v110 es111 e_es111 v112 e_v112 es113 e_es113 v114 e_v114 es115 e_es115 v116 e_v116 es117 e_es117 v118 e_v118 es119 e_es119 v120 e_v120 es121 e_es121 v122 e_v122 es123 e_es123 v124 e_v124 es125 e_es125 es126 e_es126 es127 e_es127 es128 e_es128 es129 e_es129 es130 e_es130 es131 e_es131 es132 e_es132 es133 e_es133 es134 e_es134 es135 e_es135 es136 e_es136 es137 e_es137 hT_es137
theorem fn_mbk {O : pOut} {d n : Nat} {es : PH} {bk : Int} {K : Nat → Nat × (Nat → Int × Nat)} {nb : Nat → Nat} {wy : Nat → Int} {nt : Nat → Nat → Nat → Int} (h365 : conOK O gG gInv kc_365) (h_bk : i32 bk) (hT : hOK tT es) (hI : gInv es) (hn : (gA es 80 1).toInt = (n : Int)) (hR : bkR nb wy nt n (gA es 80)) (hK : kdR K (gA es 80)) (hBr : rwB (bdF (gA es 80) (fun _ => 0) 0)) : aW O (d + 8) 263 0 0 (fun o => mbkP K nb wy nt (bdF (gA es 80) (fun _ => 0) 0) n bk o.1 o.2.1) (0, [some (.ref 143), some (.int (zI bk)), none], [], es) := by
  have hs_es := sh_of hT
  have h1i : (gA es 80 (Int.toNat 1)).toInt = (n : Int) := hn
  refine s_mbk0 (d := d + 5) hs_es h_bk hT (fun es1 e_es1 v2 e_v2 c3 es4 e_es4 hT_es4 => ?_) (fun es1 e_es1 v2 e_v2 c3 c5 es6 e_es6 hT_es6 => ?_) (fun es1 e_es1 v2 e_v2 c3 c5 v7 e_v7 es8 e_es8 c9 v10 e_v10 es11 e_es11 v12 e_v12 es13 e_es13 v14 e_v14 es15 e_es15 v16 e_v16 es17 e_es17 v18 e_v18 es19 e_es19 v20 e_v20 es21 e_es21 v22 e_v22 es23 e_es23 v24 e_v24 es25 e_es25 v26 e_v26 es27 e_es27 es28 e_es28 es29 e_es29 es30 e_es30 es31 e_es31 es32 e_es32 es33 e_es33 es34 e_es34 es35 e_es35 es36 e_es36 es37 e_es37 es38 e_es38 es39 e_es39 hT_es39 => ?_) (fun es1 e_es1 v2 e_v2 c3 c5 v7 e_v7 es8 e_es8 c9 v40 e_v40 es41 e_es41 c42 v43 e_v43 es44 e_es44 v45 e_v45 es46 e_es46 v47 e_v47 es48 e_es48 v49 e_v49 es50 e_es50 v51 e_v51 es52 e_es52 v53 e_v53 es54 e_es54 v55 e_v55 es56 e_es56 v57 e_v57 es58 e_es58 v59 e_v59 es60 e_es60 es61 e_es61 es62 e_es62 es63 e_es63 es64 e_es64 es65 e_es65 es66 e_es66 es67 e_es67 es68 e_es68 es69 e_es69 es70 e_es70 es71 e_es71 es72 e_es72 hT_es72 => ?_) (fun es1 e_es1 v2 e_v2 c3 c5 v7 e_v7 es8 e_es8 c9 v40 e_v40 es41 e_es41 c42 v73 e_v73 es74 e_es74 c75 v76 e_v76 es77 e_es77 v78 e_v78 es79 e_es79 v80 e_v80 es81 e_es81 v82 e_v82 es83 e_es83 v84 e_v84 es85 e_es85 v86 e_v86 es87 e_es87 v88 e_v88 es89 e_es89 v90 e_v90 es91 e_es91 v92 e_v92 es93 e_es93 es94 e_es94 es95 e_es95 es96 e_es96 es97 e_es97 es98 e_es98 es99 e_es99 es100 e_es100 es101 e_es101 es102 e_es102 es103 e_es103 es104 e_es104 es105 e_es105 hT_es105 => ?_) (fun es1 e_es1 v2 e_v2 c3 c5 v7 e_v7 es8 e_es8 c9 v40 e_v40 es41 e_es41 c42 v73 e_v73 es74 e_es74 c75 v106 e_v106 es107 e_es107 v108 e_v108 es109 e_es109 v110 e_v110 es111 e_es111 v112 e_v112 es113 e_es113 v114 e_v114 es115 e_es115 v116 e_v116 es117 e_es117 v118 e_v118 es119 e_es119 v120 e_v120 es121 e_es121 v122 e_v122 es123 e_es123 v124 e_v124 es125 e_es125 es126 e_es126 es127 e_es127 es128 e_es128 es129 e_es129 es130 e_es130 es131 e_es131 es132 e_es132 es133 e_es133 es134 e_es134 es135 e_es135 es136 e_es136 es137 e_es137 hT_es137 => ?_)
  · have e_1 : v2 = (n : Int) := by rw [e_v2, e_es1, gA_sI]; exact h1i
    have hs_es1 : sh es1 := by rw [e_es1]; exact sh_sI hs_es (p := 79) (b := 0) rfl rfl
    have hs_es4 : sh es4 := by rw [e_es4]; exact sh_sI hs_es1 (p := 79) (b := 0) rfl rfl
    exact ⟨hs_es4, 0, rfl, by unfold i32 iLO iHI; omega, Or.inl ⟨by rw [e_es4, gI_sI hs_es1 (p := 79) (b := 0) rfl (by decide)]; rfl, by omega⟩⟩
  · have e_1 : v2 = (n : Int) := by rw [e_v2, e_es1, gA_sI]; exact h1i
    have hs_es1 : sh es1 := by rw [e_es1]; exact sh_sI hs_es (p := 79) (b := 0) rfl rfl
    have hs_es6 : sh es6 := by rw [e_es6]; exact sh_sI hs_es1 (p := 79) (b := 0) rfl rfl
    exact ⟨hs_es6, 0, rfl, by unfold i32 iLO iHI; omega, Or.inl ⟨by rw [e_es6, gI_sI hs_es1 (p := 79) (b := 0) rfl (by decide)]; rfl, by omega⟩⟩
  · have e_1 : v2 = (n : Int) := by rw [e_v2, e_es1, gA_sI]; exact h1i
    have hs_es1 : sh es1 := by rw [e_es1]; exact sh_sI hs_es (p := 79) (b := 0) rfl rfl
    have hs_es8 : sh es8 := by rw [e_es8]; exact sh_sI hs_es1 (p := 79) (b := 18) rfl rfl
    have hs_es11 : sh es11 := by rw [e_es11]; exact sh_sA hs_es8
    have hs_es13 : sh es13 := by rw [e_es13]; exact sh_sA hs_es11
    have hs_es15 : sh es15 := by rw [e_es15]; exact sh_sA hs_es13
    have hs_es17 : sh es17 := by rw [e_es17]; exact sh_sA hs_es15
    have hs_es19 : sh es19 := by rw [e_es19]; exact sh_sA hs_es17
    have hs_es21 : sh es21 := by rw [e_es21]; exact sh_sA hs_es19
    have hs_es23 : sh es23 := by rw [e_es23]; exact sh_sA hs_es21
    have hs_es25 : sh es25 := by rw [e_es25]; exact sh_sA hs_es23
    have hs_es27 : sh es27 := by rw [e_es27]; exact sh_sI hs_es25 (p := 79) (b := 18) rfl rfl
    have hs_es28 : sh es28 := by rw [e_es28]; exact sh_sA hs_es27
    have hs_es29 : sh es29 := by rw [e_es29]; exact sh_sA hs_es28
    have hs_es30 : sh es30 := by rw [e_es30]; exact sh_sA hs_es29
    have hs_es31 : sh es31 := by rw [e_es31]; exact sh_sA hs_es30
    have hs_es32 : sh es32 := by rw [e_es32]; exact sh_sA hs_es31
    have hs_es33 : sh es33 := by rw [e_es33]; exact sh_sA hs_es32
    have hs_es34 : sh es34 := by rw [e_es34]; exact sh_sA hs_es33
    have hs_es35 : sh es35 := by rw [e_es35]; exact sh_sA hs_es34
    have hs_es36 : sh es36 := by rw [e_es36]; exact sh_sI hs_es35 (p := 79) (b := 27) rfl rfl
    have hs_es37 : sh es37 := by rw [e_es37]; exact sh_sI hs_es36 (p := 79) (b := 29) rfl rfl
    have hs_es38 : sh es38 := by rw [e_es38]; exact sh_sI hs_es37 (p := 79) (b := 30) rfl rfl
    have hs_es39 : sh es39 := by rw [e_es39]; exact sh_sI hs_es38 (p := 79) (b := 35) rfl rfl
    exfalso
    omega
  · have e_1 : v2 = (n : Int) := by rw [e_v2, e_es1, gA_sI]; exact h1i
    have hs_es1 : sh es1 := by rw [e_es1]; exact sh_sI hs_es (p := 79) (b := 0) rfl rfl
    have hs_es8 : sh es8 := by rw [e_es8]; exact sh_sI hs_es1 (p := 79) (b := 18) rfl rfl
    have hs_es41 : sh es41 := by rw [e_es41]; exact sh_sA hs_es8
    have hs_es44 : sh es44 := by rw [e_es44]; exact sh_sA hs_es41
    have hs_es46 : sh es46 := by rw [e_es46]; exact sh_sA hs_es44
    have hs_es48 : sh es48 := by rw [e_es48]; exact sh_sA hs_es46
    have hs_es50 : sh es50 := by rw [e_es50]; exact sh_sA hs_es48
    have hs_es52 : sh es52 := by rw [e_es52]; exact sh_sA hs_es50
    have hs_es54 : sh es54 := by rw [e_es54]; exact sh_sA hs_es52
    have hs_es56 : sh es56 := by rw [e_es56]; exact sh_sA hs_es54
    have hs_es58 : sh es58 := by rw [e_es58]; exact sh_sA hs_es56
    have hs_es60 : sh es60 := by rw [e_es60]; exact sh_sI hs_es58 (p := 79) (b := 18) rfl rfl
    have hs_es61 : sh es61 := by rw [e_es61]; exact sh_sA hs_es60
    have hs_es62 : sh es62 := by rw [e_es62]; exact sh_sA hs_es61
    have hs_es63 : sh es63 := by rw [e_es63]; exact sh_sA hs_es62
    have hs_es64 : sh es64 := by rw [e_es64]; exact sh_sA hs_es63
    have hs_es65 : sh es65 := by rw [e_es65]; exact sh_sA hs_es64
    have hs_es66 : sh es66 := by rw [e_es66]; exact sh_sA hs_es65
    have hs_es67 : sh es67 := by rw [e_es67]; exact sh_sA hs_es66
    have hs_es68 : sh es68 := by rw [e_es68]; exact sh_sA hs_es67
    have hs_es69 : sh es69 := by rw [e_es69]; exact sh_sI hs_es68 (p := 79) (b := 27) rfl rfl
    have hs_es70 : sh es70 := by rw [e_es70]; exact sh_sI hs_es69 (p := 79) (b := 29) rfl rfl
    have hs_es71 : sh es71 := by rw [e_es71]; exact sh_sI hs_es70 (p := 79) (b := 30) rfl rfl
    have hs_es72 : sh es72 := by rw [e_es72]; exact sh_sI hs_es71 (p := 79) (b := 35) rfl rfl
    obtain ⟨b, rfl⟩ := Int.eq_ofNat_of_zero_le (show 0 ≤ bk by omega)
    have hbn : b < n := by omega
    obtain ⟨hb3, w1, -, -, -⟩ := hR b hbn
    have f_es1 : fr frBk es es1 := by rw [e_es1]; exact fr_sI (by decide)
    have f_es8 : fr frBk es es8 := by rw [e_es8]; exact fr_trans f_es1 (fr_sI (by decide))
    have f_es41 : fr frBk es es41 := by rw [e_es41]; exact fr_trans f_es8 (fr_sA (by decide))
    have f_es44 : fr frBk es es44 := by rw [e_es44]; exact fr_trans f_es41 (fr_sA (by decide))
    have f_es46 : fr frBk es es46 := by rw [e_es46]; exact fr_trans f_es44 (fr_sA (by decide))
    have f_es48 : fr frBk es es48 := by rw [e_es48]; exact fr_trans f_es46 (fr_sA (by decide))
    have f_es50 : fr frBk es es50 := by rw [e_es50]; exact fr_trans f_es48 (fr_sA (by decide))
    have f_es52 : fr frBk es es52 := by rw [e_es52]; exact fr_trans f_es50 (fr_sA (by decide))
    have f_es54 : fr frBk es es54 := by rw [e_es54]; exact fr_trans f_es52 (fr_sA (by decide))
    have f_es56 : fr frBk es es56 := by rw [e_es56]; exact fr_trans f_es54 (fr_sA (by decide))
    have f_es58 : fr frBk es es58 := by rw [e_es58]; exact fr_trans f_es56 (fr_sA (by decide))
    have f_es60 : fr frBk es es60 := by rw [e_es60]; exact fr_trans f_es58 (fr_sI (by decide))
    have f_es61 : fr frBk es es61 := by rw [e_es61]; exact fr_trans f_es60 (fr_sA (by decide))
    have f_es62 : fr frBk es es62 := by rw [e_es62]; exact fr_trans f_es61 (fr_sA (by decide))
    have f_es63 : fr frBk es es63 := by rw [e_es63]; exact fr_trans f_es62 (fr_sA (by decide))
    have f_es64 : fr frBk es es64 := by rw [e_es64]; exact fr_trans f_es63 (fr_sA (by decide))
    have f_es65 : fr frBk es es65 := by rw [e_es65]; exact fr_trans f_es64 (fr_sA (by decide))
    have f_es66 : fr frBk es es66 := by rw [e_es66]; exact fr_trans f_es65 (fr_sA (by decide))
    have f_es67 : fr frBk es es67 := by rw [e_es67]; exact fr_trans f_es66 (fr_sA (by decide))
    have f_es68 : fr frBk es es68 := by rw [e_es68]; exact fr_trans f_es67 (fr_sA (by decide))
    have f_es69 : fr frBk es es69 := by rw [e_es69]; exact fr_trans f_es68 (fr_sI (by decide))
    have f_es70 : fr frBk es es70 := by rw [e_es70]; exact fr_trans f_es69 (fr_sI (by decide))
    have f_es71 : fr frBk es es71 := by rw [e_es71]; exact fr_trans f_es70 (fr_sI (by decide))
    have f_es72 : fr frBk es es72 := by rw [e_es72]; exact fr_trans f_es71 (fr_sI (by decide))
    have a80 : gA es72 80 = gA es 80 := by rw [e_es72, gA_sI, e_es71, gA_sI, e_es70, gA_sI, e_es69, gA_sI, e_es68, gA_sA_ne (by decide), e_es67, gA_sA_ne (by decide), e_es66, gA_sA_ne (by decide), e_es65, gA_sA_ne (by decide), e_es64, gA_sA_ne (by decide), e_es63, gA_sA_ne (by decide), e_es62, gA_sA_ne (by decide), e_es61, gA_sA_ne (by decide), e_es60, gA_sI, e_es58, gA_sA_ne (by decide), e_es56, gA_sA_ne (by decide), e_es54, gA_sA_ne (by decide), e_es52, gA_sA_ne (by decide), e_es50, gA_sA_ne (by decide), e_es48, gA_sA_ne (by decide), e_es46, gA_sA_ne (by decide), e_es44, gA_sA_ne (by decide), e_es41, gA_sA_ne (by decide), e_es8, gA_sI, e_es1, gA_sI]
    have t0 : (gI es72 79 0).toInt = 0 := by rw [e_es72, gI_sI_ne (Or.inr (by decide)), e_es71, gI_sI_ne (Or.inr (by decide)), e_es70, gI_sI_ne (Or.inr (by decide)), e_es69, gI_sI_ne (Or.inr (by decide)), e_es68, gI_sA, e_es67, gI_sA, e_es66, gI_sA, e_es65, gI_sA, e_es64, gI_sA, e_es63, gI_sA, e_es62, gI_sA, e_es61, gI_sA, e_es60, gI_sI_ne (Or.inr (by decide)), e_es58, gI_sA, e_es56, gI_sA, e_es54, gI_sA, e_es52, gI_sA, e_es50, gI_sA, e_es48, gI_sA, e_es46, gI_sA, e_es44, gI_sA, e_es41, gI_sA, e_es8, gI_sI_ne (Or.inr (by decide)), e_es1, gI_sI hs_es (p := 79) (b := 0) rfl (by decide)]; rfl
    have t27 : (gI es72 79 27).toInt = 0 := by rw [e_es72, gI_sI_ne (Or.inr (by decide)), e_es71, gI_sI_ne (Or.inr (by decide)), e_es70, gI_sI_ne (Or.inr (by decide)), e_es69, gI_sI hs_es68 (p := 79) (b := 27) rfl (by decide)]; rfl
    have t29 : (gI es72 79 29).toInt = 0 := by rw [e_es72, gI_sI_ne (Or.inr (by decide)), e_es71, gI_sI_ne (Or.inr (by decide)), e_es70, gI_sI hs_es69 (p := 79) (b := 29) rfl (by decide)]; rfl
    have t30 : (gI es72 79 30).toInt = 1 := by rw [e_es72, gI_sI_ne (Or.inr (by decide)), e_es71, gI_sI hs_es70 (p := 79) (b := 30) rfl (by decide)]; rfl
    have t18 : (gI es72 79 18).toInt = (zI 1 <<< (zI (b : Int) &&& 31)).toInt := by rw [e_es72, gI_sI_ne (Or.inr (by decide)), e_es71, gI_sI_ne (Or.inr (by decide)), e_es70, gI_sI_ne (Or.inr (by decide)), e_es69, gI_sI_ne (Or.inr (by decide)), e_es68, gI_sA, e_es67, gI_sA, e_es66, gI_sA, e_es65, gI_sA, e_es64, gI_sA, e_es63, gI_sA, e_es62, gI_sA, e_es61, gI_sA, e_es60, gI_sI hs_es58 (p := 79) (b := 18) rfl (by decide), zI_toInt (by rw [e_v59]; exact i32_rng _), e_v59]
    have r90 : gA es72 90 = upd (upd (upd (upd (upd (upd (upd (upd (gA es60 90) (Int.toNat 0) (zI 0)) (Int.toNat 1) (zI 0)) (Int.toNat 2) (zI 0)) (Int.toNat 3) (zI 0)) (Int.toNat 4) (zI 0)) (Int.toNat 5) (zI 0)) (Int.toNat 6) (zI 0)) (Int.toNat 7) (zI 0) := by rw [e_es72, gA_sI, e_es71, gA_sI, e_es70, gA_sI, e_es69, gA_sI, e_es68, gA_sA hs_es67 (p := 90) (t := 0) (n := 8) rfl (by decide), e_es67, gA_sA hs_es66 (p := 90) (t := 0) (n := 8) rfl (by decide), e_es66, gA_sA hs_es65 (p := 90) (t := 0) (n := 8) rfl (by decide), e_es65, gA_sA hs_es64 (p := 90) (t := 0) (n := 8) rfl (by decide), e_es64, gA_sA hs_es63 (p := 90) (t := 0) (n := 8) rfl (by decide), e_es63, gA_sA hs_es62 (p := 90) (t := 0) (n := 8) rfl (by decide), e_es62, gA_sA hs_es61 (p := 90) (t := 0) (n := 8) rfl (by decide), e_es61, gA_sA hs_es60 (p := 90) (t := 0) (n := 8) rfl (by decide)]
    have t90 : ∀ i, i < 8 → (gA es72 90 i).toInt = 0 := by
      intro i hi
      have h8 : i = 0 ∨ i = 1 ∨ i = 2 ∨ i = 3 ∨ i = 4 ∨ i = 5 ∨ i = 6 ∨ i = 7 := by omega
      rw [r90]
      rcases h8 with rfl | rfl | rfl | rfl | rfl | rfl | rfl | rfl
      · rw [updN (by decide)]
        rw [updN (by decide)]
        rw [updN (by decide)]
        rw [updN (by decide)]
        rw [updN (by decide)]
        rw [updN (by decide)]
        rw [updN (by decide)]
        unfold upd
        rw [if_pos (show (0 : Nat) = Int.toNat 0 by decide)]
        rfl
      · rw [updN (by decide)]
        rw [updN (by decide)]
        rw [updN (by decide)]
        rw [updN (by decide)]
        rw [updN (by decide)]
        rw [updN (by decide)]
        unfold upd
        rw [if_pos (show (1 : Nat) = Int.toNat 1 by decide)]
        rfl
      · rw [updN (by decide)]
        rw [updN (by decide)]
        rw [updN (by decide)]
        rw [updN (by decide)]
        rw [updN (by decide)]
        unfold upd
        rw [if_pos (show (2 : Nat) = Int.toNat 2 by decide)]
        rfl
      · rw [updN (by decide)]
        rw [updN (by decide)]
        rw [updN (by decide)]
        rw [updN (by decide)]
        unfold upd
        rw [if_pos (show (3 : Nat) = Int.toNat 3 by decide)]
        rfl
      · rw [updN (by decide)]
        rw [updN (by decide)]
        rw [updN (by decide)]
        unfold upd
        rw [if_pos (show (4 : Nat) = Int.toNat 4 by decide)]
        rfl
      · rw [updN (by decide)]
        rw [updN (by decide)]
        unfold upd
        rw [if_pos (show (5 : Nat) = Int.toNat 5 by decide)]
        rfl
      · rw [updN (by decide)]
        unfold upd
        rw [if_pos (show (6 : Nat) = Int.toNat 6 by decide)]
        rfl
      · unfold upd
        rw [if_pos (show (7 : Nat) = Int.toNat 7 by decide)]
        rfl
    have r89 : gA es72 89 = upd (gA es 89) (Int.toNat 0) (zI v40) := by rw [e_es72, gA_sI, e_es71, gA_sI, e_es70, gA_sI, e_es69, gA_sI, e_es68, gA_sA_ne (by decide), e_es67, gA_sA_ne (by decide), e_es66, gA_sA_ne (by decide), e_es65, gA_sA_ne (by decide), e_es64, gA_sA_ne (by decide), e_es63, gA_sA_ne (by decide), e_es62, gA_sA_ne (by decide), e_es61, gA_sA_ne (by decide), e_es60, gA_sI, e_es58, gA_sA_ne (by decide), e_es56, gA_sA_ne (by decide), e_es54, gA_sA_ne (by decide), e_es52, gA_sA_ne (by decide), e_es50, gA_sA_ne (by decide), e_es48, gA_sA_ne (by decide), e_es46, gA_sA_ne (by decide), e_es44, gA_sA_ne (by decide), e_es41, gA_sA hs_es8 (p := 89) (t := 0) (n := 3) rfl (by decide), e_es8, gA_sI, e_es1, gA_sI]
    have t89 : (gA es72 89 b).toInt = wy b := by
      have h8 : b = 0 := by omega
      rw [r89]
      rcases h8 with rfl
      · unfold upd
        rw [if_pos (show (0 : Nat) = Int.toNat 0 by decide), zI_toInt (by rw [e_v40]; exact i32_rng _), e_v40, e_es8, gA_sI, e_es1, gA_sI]
        exact w1
    exact mbk_go (d := d) (b := b) h365 hT_es72 (gInv_keep f_es72 (by decide) hT hI) a80 hn hb3 hbn hR hK hBr t0 t18 t27 t29 t30 t89 t90 (fun es' v kc ks q1 q2 q3 q4 => ⟨q1, v, rfl, q2, Or.inr ⟨q3, b, rfl, hbn, q4⟩⟩)
  · have e_1 : v2 = (n : Int) := by rw [e_v2, e_es1, gA_sI]; exact h1i
    have hs_es1 : sh es1 := by rw [e_es1]; exact sh_sI hs_es (p := 79) (b := 0) rfl rfl
    have hs_es8 : sh es8 := by rw [e_es8]; exact sh_sI hs_es1 (p := 79) (b := 18) rfl rfl
    have hs_es41 : sh es41 := by rw [e_es41]; exact sh_sA hs_es8
    have hs_es74 : sh es74 := by rw [e_es74]; exact sh_sA hs_es41
    have hs_es77 : sh es77 := by rw [e_es77]; exact sh_sA hs_es74
    have hs_es79 : sh es79 := by rw [e_es79]; exact sh_sA hs_es77
    have hs_es81 : sh es81 := by rw [e_es81]; exact sh_sA hs_es79
    have hs_es83 : sh es83 := by rw [e_es83]; exact sh_sA hs_es81
    have hs_es85 : sh es85 := by rw [e_es85]; exact sh_sA hs_es83
    have hs_es87 : sh es87 := by rw [e_es87]; exact sh_sA hs_es85
    have hs_es89 : sh es89 := by rw [e_es89]; exact sh_sA hs_es87
    have hs_es91 : sh es91 := by rw [e_es91]; exact sh_sA hs_es89
    have hs_es93 : sh es93 := by rw [e_es93]; exact sh_sI hs_es91 (p := 79) (b := 18) rfl rfl
    have hs_es94 : sh es94 := by rw [e_es94]; exact sh_sA hs_es93
    have hs_es95 : sh es95 := by rw [e_es95]; exact sh_sA hs_es94
    have hs_es96 : sh es96 := by rw [e_es96]; exact sh_sA hs_es95
    have hs_es97 : sh es97 := by rw [e_es97]; exact sh_sA hs_es96
    have hs_es98 : sh es98 := by rw [e_es98]; exact sh_sA hs_es97
    have hs_es99 : sh es99 := by rw [e_es99]; exact sh_sA hs_es98
    have hs_es100 : sh es100 := by rw [e_es100]; exact sh_sA hs_es99
    have hs_es101 : sh es101 := by rw [e_es101]; exact sh_sA hs_es100
    have hs_es102 : sh es102 := by rw [e_es102]; exact sh_sI hs_es101 (p := 79) (b := 27) rfl rfl
    have hs_es103 : sh es103 := by rw [e_es103]; exact sh_sI hs_es102 (p := 79) (b := 29) rfl rfl
    have hs_es104 : sh es104 := by rw [e_es104]; exact sh_sI hs_es103 (p := 79) (b := 30) rfl rfl
    have hs_es105 : sh es105 := by rw [e_es105]; exact sh_sI hs_es104 (p := 79) (b := 35) rfl rfl
    obtain ⟨b, rfl⟩ := Int.eq_ofNat_of_zero_le (show 0 ≤ bk by omega)
    have hbn : b < n := by omega
    obtain ⟨hb3, w1, -, -, -⟩ := hR b hbn
    have f_es1 : fr frBk es es1 := by rw [e_es1]; exact fr_sI (by decide)
    have f_es8 : fr frBk es es8 := by rw [e_es8]; exact fr_trans f_es1 (fr_sI (by decide))
    have f_es41 : fr frBk es es41 := by rw [e_es41]; exact fr_trans f_es8 (fr_sA (by decide))
    have f_es74 : fr frBk es es74 := by rw [e_es74]; exact fr_trans f_es41 (fr_sA (by decide))
    have f_es77 : fr frBk es es77 := by rw [e_es77]; exact fr_trans f_es74 (fr_sA (by decide))
    have f_es79 : fr frBk es es79 := by rw [e_es79]; exact fr_trans f_es77 (fr_sA (by decide))
    have f_es81 : fr frBk es es81 := by rw [e_es81]; exact fr_trans f_es79 (fr_sA (by decide))
    have f_es83 : fr frBk es es83 := by rw [e_es83]; exact fr_trans f_es81 (fr_sA (by decide))
    have f_es85 : fr frBk es es85 := by rw [e_es85]; exact fr_trans f_es83 (fr_sA (by decide))
    have f_es87 : fr frBk es es87 := by rw [e_es87]; exact fr_trans f_es85 (fr_sA (by decide))
    have f_es89 : fr frBk es es89 := by rw [e_es89]; exact fr_trans f_es87 (fr_sA (by decide))
    have f_es91 : fr frBk es es91 := by rw [e_es91]; exact fr_trans f_es89 (fr_sA (by decide))
    have f_es93 : fr frBk es es93 := by rw [e_es93]; exact fr_trans f_es91 (fr_sI (by decide))
    have f_es94 : fr frBk es es94 := by rw [e_es94]; exact fr_trans f_es93 (fr_sA (by decide))
    have f_es95 : fr frBk es es95 := by rw [e_es95]; exact fr_trans f_es94 (fr_sA (by decide))
    have f_es96 : fr frBk es es96 := by rw [e_es96]; exact fr_trans f_es95 (fr_sA (by decide))
    have f_es97 : fr frBk es es97 := by rw [e_es97]; exact fr_trans f_es96 (fr_sA (by decide))
    have f_es98 : fr frBk es es98 := by rw [e_es98]; exact fr_trans f_es97 (fr_sA (by decide))
    have f_es99 : fr frBk es es99 := by rw [e_es99]; exact fr_trans f_es98 (fr_sA (by decide))
    have f_es100 : fr frBk es es100 := by rw [e_es100]; exact fr_trans f_es99 (fr_sA (by decide))
    have f_es101 : fr frBk es es101 := by rw [e_es101]; exact fr_trans f_es100 (fr_sA (by decide))
    have f_es102 : fr frBk es es102 := by rw [e_es102]; exact fr_trans f_es101 (fr_sI (by decide))
    have f_es103 : fr frBk es es103 := by rw [e_es103]; exact fr_trans f_es102 (fr_sI (by decide))
    have f_es104 : fr frBk es es104 := by rw [e_es104]; exact fr_trans f_es103 (fr_sI (by decide))
    have f_es105 : fr frBk es es105 := by rw [e_es105]; exact fr_trans f_es104 (fr_sI (by decide))
    have a80 : gA es105 80 = gA es 80 := by rw [e_es105, gA_sI, e_es104, gA_sI, e_es103, gA_sI, e_es102, gA_sI, e_es101, gA_sA_ne (by decide), e_es100, gA_sA_ne (by decide), e_es99, gA_sA_ne (by decide), e_es98, gA_sA_ne (by decide), e_es97, gA_sA_ne (by decide), e_es96, gA_sA_ne (by decide), e_es95, gA_sA_ne (by decide), e_es94, gA_sA_ne (by decide), e_es93, gA_sI, e_es91, gA_sA_ne (by decide), e_es89, gA_sA_ne (by decide), e_es87, gA_sA_ne (by decide), e_es85, gA_sA_ne (by decide), e_es83, gA_sA_ne (by decide), e_es81, gA_sA_ne (by decide), e_es79, gA_sA_ne (by decide), e_es77, gA_sA_ne (by decide), e_es74, gA_sA_ne (by decide), e_es41, gA_sA_ne (by decide), e_es8, gA_sI, e_es1, gA_sI]
    have t0 : (gI es105 79 0).toInt = 0 := by rw [e_es105, gI_sI_ne (Or.inr (by decide)), e_es104, gI_sI_ne (Or.inr (by decide)), e_es103, gI_sI_ne (Or.inr (by decide)), e_es102, gI_sI_ne (Or.inr (by decide)), e_es101, gI_sA, e_es100, gI_sA, e_es99, gI_sA, e_es98, gI_sA, e_es97, gI_sA, e_es96, gI_sA, e_es95, gI_sA, e_es94, gI_sA, e_es93, gI_sI_ne (Or.inr (by decide)), e_es91, gI_sA, e_es89, gI_sA, e_es87, gI_sA, e_es85, gI_sA, e_es83, gI_sA, e_es81, gI_sA, e_es79, gI_sA, e_es77, gI_sA, e_es74, gI_sA, e_es41, gI_sA, e_es8, gI_sI_ne (Or.inr (by decide)), e_es1, gI_sI hs_es (p := 79) (b := 0) rfl (by decide)]; rfl
    have t27 : (gI es105 79 27).toInt = 0 := by rw [e_es105, gI_sI_ne (Or.inr (by decide)), e_es104, gI_sI_ne (Or.inr (by decide)), e_es103, gI_sI_ne (Or.inr (by decide)), e_es102, gI_sI hs_es101 (p := 79) (b := 27) rfl (by decide)]; rfl
    have t29 : (gI es105 79 29).toInt = 0 := by rw [e_es105, gI_sI_ne (Or.inr (by decide)), e_es104, gI_sI_ne (Or.inr (by decide)), e_es103, gI_sI hs_es102 (p := 79) (b := 29) rfl (by decide)]; rfl
    have t30 : (gI es105 79 30).toInt = 1 := by rw [e_es105, gI_sI_ne (Or.inr (by decide)), e_es104, gI_sI hs_es103 (p := 79) (b := 30) rfl (by decide)]; rfl
    have t18 : (gI es105 79 18).toInt = (zI 1 <<< (zI (b : Int) &&& 31)).toInt := by rw [e_es105, gI_sI_ne (Or.inr (by decide)), e_es104, gI_sI_ne (Or.inr (by decide)), e_es103, gI_sI_ne (Or.inr (by decide)), e_es102, gI_sI_ne (Or.inr (by decide)), e_es101, gI_sA, e_es100, gI_sA, e_es99, gI_sA, e_es98, gI_sA, e_es97, gI_sA, e_es96, gI_sA, e_es95, gI_sA, e_es94, gI_sA, e_es93, gI_sI hs_es91 (p := 79) (b := 18) rfl (by decide), zI_toInt (by rw [e_v92]; exact i32_rng _), e_v92]
    have r90 : gA es105 90 = upd (upd (upd (upd (upd (upd (upd (upd (gA es93 90) (Int.toNat 0) (zI 0)) (Int.toNat 1) (zI 0)) (Int.toNat 2) (zI 0)) (Int.toNat 3) (zI 0)) (Int.toNat 4) (zI 0)) (Int.toNat 5) (zI 0)) (Int.toNat 6) (zI 0)) (Int.toNat 7) (zI 0) := by rw [e_es105, gA_sI, e_es104, gA_sI, e_es103, gA_sI, e_es102, gA_sI, e_es101, gA_sA hs_es100 (p := 90) (t := 0) (n := 8) rfl (by decide), e_es100, gA_sA hs_es99 (p := 90) (t := 0) (n := 8) rfl (by decide), e_es99, gA_sA hs_es98 (p := 90) (t := 0) (n := 8) rfl (by decide), e_es98, gA_sA hs_es97 (p := 90) (t := 0) (n := 8) rfl (by decide), e_es97, gA_sA hs_es96 (p := 90) (t := 0) (n := 8) rfl (by decide), e_es96, gA_sA hs_es95 (p := 90) (t := 0) (n := 8) rfl (by decide), e_es95, gA_sA hs_es94 (p := 90) (t := 0) (n := 8) rfl (by decide), e_es94, gA_sA hs_es93 (p := 90) (t := 0) (n := 8) rfl (by decide)]
    have t90 : ∀ i, i < 8 → (gA es105 90 i).toInt = 0 := by
      intro i hi
      have h8 : i = 0 ∨ i = 1 ∨ i = 2 ∨ i = 3 ∨ i = 4 ∨ i = 5 ∨ i = 6 ∨ i = 7 := by omega
      rw [r90]
      rcases h8 with rfl | rfl | rfl | rfl | rfl | rfl | rfl | rfl
      · rw [updN (by decide)]
        rw [updN (by decide)]
        rw [updN (by decide)]
        rw [updN (by decide)]
        rw [updN (by decide)]
        rw [updN (by decide)]
        rw [updN (by decide)]
        unfold upd
        rw [if_pos (show (0 : Nat) = Int.toNat 0 by decide)]
        rfl
      · rw [updN (by decide)]
        rw [updN (by decide)]
        rw [updN (by decide)]
        rw [updN (by decide)]
        rw [updN (by decide)]
        rw [updN (by decide)]
        unfold upd
        rw [if_pos (show (1 : Nat) = Int.toNat 1 by decide)]
        rfl
      · rw [updN (by decide)]
        rw [updN (by decide)]
        rw [updN (by decide)]
        rw [updN (by decide)]
        rw [updN (by decide)]
        unfold upd
        rw [if_pos (show (2 : Nat) = Int.toNat 2 by decide)]
        rfl
      · rw [updN (by decide)]
        rw [updN (by decide)]
        rw [updN (by decide)]
        rw [updN (by decide)]
        unfold upd
        rw [if_pos (show (3 : Nat) = Int.toNat 3 by decide)]
        rfl
      · rw [updN (by decide)]
        rw [updN (by decide)]
        rw [updN (by decide)]
        unfold upd
        rw [if_pos (show (4 : Nat) = Int.toNat 4 by decide)]
        rfl
      · rw [updN (by decide)]
        rw [updN (by decide)]
        unfold upd
        rw [if_pos (show (5 : Nat) = Int.toNat 5 by decide)]
        rfl
      · rw [updN (by decide)]
        unfold upd
        rw [if_pos (show (6 : Nat) = Int.toNat 6 by decide)]
        rfl
      · unfold upd
        rw [if_pos (show (7 : Nat) = Int.toNat 7 by decide)]
        rfl
    have r89 : gA es105 89 = upd (upd (gA es 89) (Int.toNat 0) (zI v40)) (Int.toNat 1) (zI v73) := by rw [e_es105, gA_sI, e_es104, gA_sI, e_es103, gA_sI, e_es102, gA_sI, e_es101, gA_sA_ne (by decide), e_es100, gA_sA_ne (by decide), e_es99, gA_sA_ne (by decide), e_es98, gA_sA_ne (by decide), e_es97, gA_sA_ne (by decide), e_es96, gA_sA_ne (by decide), e_es95, gA_sA_ne (by decide), e_es94, gA_sA_ne (by decide), e_es93, gA_sI, e_es91, gA_sA_ne (by decide), e_es89, gA_sA_ne (by decide), e_es87, gA_sA_ne (by decide), e_es85, gA_sA_ne (by decide), e_es83, gA_sA_ne (by decide), e_es81, gA_sA_ne (by decide), e_es79, gA_sA_ne (by decide), e_es77, gA_sA_ne (by decide), e_es74, gA_sA hs_es41 (p := 89) (t := 0) (n := 3) rfl (by decide), e_es41, gA_sA hs_es8 (p := 89) (t := 0) (n := 3) rfl (by decide), e_es8, gA_sI, e_es1, gA_sI]
    have t89 : (gA es105 89 b).toInt = wy b := by
      have h8 : b = 0 ∨ b = 1 := by omega
      rw [r89]
      rcases h8 with rfl | rfl
      · rw [updN (by decide)]
        unfold upd
        rw [if_pos (show (0 : Nat) = Int.toNat 0 by decide), zI_toInt (by rw [e_v40]; exact i32_rng _), e_v40, e_es8, gA_sI, e_es1, gA_sI]
        exact w1
      · unfold upd
        rw [if_pos (show (1 : Nat) = Int.toNat 1 by decide), zI_toInt (by rw [e_v73]; exact i32_rng _), e_v73, e_es41, gA_sA_ne (by decide), e_es8, gA_sI, e_es1, gA_sI]
        exact w1
    exact mbk_go (d := d) (b := b) h365 hT_es105 (gInv_keep f_es105 (by decide) hT hI) a80 hn hb3 hbn hR hK hBr t0 t18 t27 t29 t30 t89 t90 (fun es' v kc ks q1 q2 q3 q4 => ⟨q1, v, rfl, q2, Or.inr ⟨q3, b, rfl, hbn, q4⟩⟩)
  · have e_1 : v2 = (n : Int) := by rw [e_v2, e_es1, gA_sI]; exact h1i
    have hs_es1 : sh es1 := by rw [e_es1]; exact sh_sI hs_es (p := 79) (b := 0) rfl rfl
    have hs_es8 : sh es8 := by rw [e_es8]; exact sh_sI hs_es1 (p := 79) (b := 18) rfl rfl
    have hs_es41 : sh es41 := by rw [e_es41]; exact sh_sA hs_es8
    have hs_es74 : sh es74 := by rw [e_es74]; exact sh_sA hs_es41
    have hs_es107 : sh es107 := by rw [e_es107]; exact sh_sA hs_es74
    have hs_es109 : sh es109 := by rw [e_es109]; exact sh_sA hs_es107
    have hs_es111 : sh es111 := by rw [e_es111]; exact sh_sA hs_es109
    have hs_es113 : sh es113 := by rw [e_es113]; exact sh_sA hs_es111
    have hs_es115 : sh es115 := by rw [e_es115]; exact sh_sA hs_es113
    have hs_es117 : sh es117 := by rw [e_es117]; exact sh_sA hs_es115
    have hs_es119 : sh es119 := by rw [e_es119]; exact sh_sA hs_es117
    have hs_es121 : sh es121 := by rw [e_es121]; exact sh_sA hs_es119
    have hs_es123 : sh es123 := by rw [e_es123]; exact sh_sA hs_es121
    have hs_es125 : sh es125 := by rw [e_es125]; exact sh_sI hs_es123 (p := 79) (b := 18) rfl rfl
    have hs_es126 : sh es126 := by rw [e_es126]; exact sh_sA hs_es125
    have hs_es127 : sh es127 := by rw [e_es127]; exact sh_sA hs_es126
    have hs_es128 : sh es128 := by rw [e_es128]; exact sh_sA hs_es127
    have hs_es129 : sh es129 := by rw [e_es129]; exact sh_sA hs_es128
    have hs_es130 : sh es130 := by rw [e_es130]; exact sh_sA hs_es129
    have hs_es131 : sh es131 := by rw [e_es131]; exact sh_sA hs_es130
    have hs_es132 : sh es132 := by rw [e_es132]; exact sh_sA hs_es131
    have hs_es133 : sh es133 := by rw [e_es133]; exact sh_sA hs_es132
    have hs_es134 : sh es134 := by rw [e_es134]; exact sh_sI hs_es133 (p := 79) (b := 27) rfl rfl
    have hs_es135 : sh es135 := by rw [e_es135]; exact sh_sI hs_es134 (p := 79) (b := 29) rfl rfl
    have hs_es136 : sh es136 := by rw [e_es136]; exact sh_sI hs_es135 (p := 79) (b := 30) rfl rfl
    have hs_es137 : sh es137 := by rw [e_es137]; exact sh_sI hs_es136 (p := 79) (b := 35) rfl rfl
    obtain ⟨b, rfl⟩ := Int.eq_ofNat_of_zero_le (show 0 ≤ bk by omega)
    have hbn : b < n := by omega
    obtain ⟨hb3, w1, -, -, -⟩ := hR b hbn
    have f_es1 : fr frBk es es1 := by rw [e_es1]; exact fr_sI (by decide)
    have f_es8 : fr frBk es es8 := by rw [e_es8]; exact fr_trans f_es1 (fr_sI (by decide))
    have f_es41 : fr frBk es es41 := by rw [e_es41]; exact fr_trans f_es8 (fr_sA (by decide))
    have f_es74 : fr frBk es es74 := by rw [e_es74]; exact fr_trans f_es41 (fr_sA (by decide))
    have f_es107 : fr frBk es es107 := by rw [e_es107]; exact fr_trans f_es74 (fr_sA (by decide))
    have f_es109 : fr frBk es es109 := by rw [e_es109]; exact fr_trans f_es107 (fr_sA (by decide))
    have f_es111 : fr frBk es es111 := by rw [e_es111]; exact fr_trans f_es109 (fr_sA (by decide))
    have f_es113 : fr frBk es es113 := by rw [e_es113]; exact fr_trans f_es111 (fr_sA (by decide))
    have f_es115 : fr frBk es es115 := by rw [e_es115]; exact fr_trans f_es113 (fr_sA (by decide))
    have f_es117 : fr frBk es es117 := by rw [e_es117]; exact fr_trans f_es115 (fr_sA (by decide))
    have f_es119 : fr frBk es es119 := by rw [e_es119]; exact fr_trans f_es117 (fr_sA (by decide))
    have f_es121 : fr frBk es es121 := by rw [e_es121]; exact fr_trans f_es119 (fr_sA (by decide))
    have f_es123 : fr frBk es es123 := by rw [e_es123]; exact fr_trans f_es121 (fr_sA (by decide))
    have f_es125 : fr frBk es es125 := by rw [e_es125]; exact fr_trans f_es123 (fr_sI (by decide))
    have f_es126 : fr frBk es es126 := by rw [e_es126]; exact fr_trans f_es125 (fr_sA (by decide))
    have f_es127 : fr frBk es es127 := by rw [e_es127]; exact fr_trans f_es126 (fr_sA (by decide))
    have f_es128 : fr frBk es es128 := by rw [e_es128]; exact fr_trans f_es127 (fr_sA (by decide))
    have f_es129 : fr frBk es es129 := by rw [e_es129]; exact fr_trans f_es128 (fr_sA (by decide))
    have f_es130 : fr frBk es es130 := by rw [e_es130]; exact fr_trans f_es129 (fr_sA (by decide))
    have f_es131 : fr frBk es es131 := by rw [e_es131]; exact fr_trans f_es130 (fr_sA (by decide))
    have f_es132 : fr frBk es es132 := by rw [e_es132]; exact fr_trans f_es131 (fr_sA (by decide))
    have f_es133 : fr frBk es es133 := by rw [e_es133]; exact fr_trans f_es132 (fr_sA (by decide))
    have f_es134 : fr frBk es es134 := by rw [e_es134]; exact fr_trans f_es133 (fr_sI (by decide))
    have f_es135 : fr frBk es es135 := by rw [e_es135]; exact fr_trans f_es134 (fr_sI (by decide))
    have f_es136 : fr frBk es es136 := by rw [e_es136]; exact fr_trans f_es135 (fr_sI (by decide))
    have f_es137 : fr frBk es es137 := by rw [e_es137]; exact fr_trans f_es136 (fr_sI (by decide))
    have a80 : gA es137 80 = gA es 80 := by rw [e_es137, gA_sI, e_es136, gA_sI, e_es135, gA_sI, e_es134, gA_sI, e_es133, gA_sA_ne (by decide), e_es132, gA_sA_ne (by decide), e_es131, gA_sA_ne (by decide), e_es130, gA_sA_ne (by decide), e_es129, gA_sA_ne (by decide), e_es128, gA_sA_ne (by decide), e_es127, gA_sA_ne (by decide), e_es126, gA_sA_ne (by decide), e_es125, gA_sI, e_es123, gA_sA_ne (by decide), e_es121, gA_sA_ne (by decide), e_es119, gA_sA_ne (by decide), e_es117, gA_sA_ne (by decide), e_es115, gA_sA_ne (by decide), e_es113, gA_sA_ne (by decide), e_es111, gA_sA_ne (by decide), e_es109, gA_sA_ne (by decide), e_es107, gA_sA_ne (by decide), e_es74, gA_sA_ne (by decide), e_es41, gA_sA_ne (by decide), e_es8, gA_sI, e_es1, gA_sI]
    have t0 : (gI es137 79 0).toInt = 0 := by rw [e_es137, gI_sI_ne (Or.inr (by decide)), e_es136, gI_sI_ne (Or.inr (by decide)), e_es135, gI_sI_ne (Or.inr (by decide)), e_es134, gI_sI_ne (Or.inr (by decide)), e_es133, gI_sA, e_es132, gI_sA, e_es131, gI_sA, e_es130, gI_sA, e_es129, gI_sA, e_es128, gI_sA, e_es127, gI_sA, e_es126, gI_sA, e_es125, gI_sI_ne (Or.inr (by decide)), e_es123, gI_sA, e_es121, gI_sA, e_es119, gI_sA, e_es117, gI_sA, e_es115, gI_sA, e_es113, gI_sA, e_es111, gI_sA, e_es109, gI_sA, e_es107, gI_sA, e_es74, gI_sA, e_es41, gI_sA, e_es8, gI_sI_ne (Or.inr (by decide)), e_es1, gI_sI hs_es (p := 79) (b := 0) rfl (by decide)]; rfl
    have t27 : (gI es137 79 27).toInt = 0 := by rw [e_es137, gI_sI_ne (Or.inr (by decide)), e_es136, gI_sI_ne (Or.inr (by decide)), e_es135, gI_sI_ne (Or.inr (by decide)), e_es134, gI_sI hs_es133 (p := 79) (b := 27) rfl (by decide)]; rfl
    have t29 : (gI es137 79 29).toInt = 0 := by rw [e_es137, gI_sI_ne (Or.inr (by decide)), e_es136, gI_sI_ne (Or.inr (by decide)), e_es135, gI_sI hs_es134 (p := 79) (b := 29) rfl (by decide)]; rfl
    have t30 : (gI es137 79 30).toInt = 1 := by rw [e_es137, gI_sI_ne (Or.inr (by decide)), e_es136, gI_sI hs_es135 (p := 79) (b := 30) rfl (by decide)]; rfl
    have t18 : (gI es137 79 18).toInt = (zI 1 <<< (zI (b : Int) &&& 31)).toInt := by rw [e_es137, gI_sI_ne (Or.inr (by decide)), e_es136, gI_sI_ne (Or.inr (by decide)), e_es135, gI_sI_ne (Or.inr (by decide)), e_es134, gI_sI_ne (Or.inr (by decide)), e_es133, gI_sA, e_es132, gI_sA, e_es131, gI_sA, e_es130, gI_sA, e_es129, gI_sA, e_es128, gI_sA, e_es127, gI_sA, e_es126, gI_sA, e_es125, gI_sI hs_es123 (p := 79) (b := 18) rfl (by decide), zI_toInt (by rw [e_v124]; exact i32_rng _), e_v124]
    have r90 : gA es137 90 = upd (upd (upd (upd (upd (upd (upd (upd (gA es125 90) (Int.toNat 0) (zI 0)) (Int.toNat 1) (zI 0)) (Int.toNat 2) (zI 0)) (Int.toNat 3) (zI 0)) (Int.toNat 4) (zI 0)) (Int.toNat 5) (zI 0)) (Int.toNat 6) (zI 0)) (Int.toNat 7) (zI 0) := by rw [e_es137, gA_sI, e_es136, gA_sI, e_es135, gA_sI, e_es134, gA_sI, e_es133, gA_sA hs_es132 (p := 90) (t := 0) (n := 8) rfl (by decide), e_es132, gA_sA hs_es131 (p := 90) (t := 0) (n := 8) rfl (by decide), e_es131, gA_sA hs_es130 (p := 90) (t := 0) (n := 8) rfl (by decide), e_es130, gA_sA hs_es129 (p := 90) (t := 0) (n := 8) rfl (by decide), e_es129, gA_sA hs_es128 (p := 90) (t := 0) (n := 8) rfl (by decide), e_es128, gA_sA hs_es127 (p := 90) (t := 0) (n := 8) rfl (by decide), e_es127, gA_sA hs_es126 (p := 90) (t := 0) (n := 8) rfl (by decide), e_es126, gA_sA hs_es125 (p := 90) (t := 0) (n := 8) rfl (by decide)]
    have t90 : ∀ i, i < 8 → (gA es137 90 i).toInt = 0 := by
      intro i hi
      have h8 : i = 0 ∨ i = 1 ∨ i = 2 ∨ i = 3 ∨ i = 4 ∨ i = 5 ∨ i = 6 ∨ i = 7 := by omega
      rw [r90]
      rcases h8 with rfl | rfl | rfl | rfl | rfl | rfl | rfl | rfl
      · rw [updN (by decide)]
        rw [updN (by decide)]
        rw [updN (by decide)]
        rw [updN (by decide)]
        rw [updN (by decide)]
        rw [updN (by decide)]
        rw [updN (by decide)]
        unfold upd
        rw [if_pos (show (0 : Nat) = Int.toNat 0 by decide)]
        rfl
      · rw [updN (by decide)]
        rw [updN (by decide)]
        rw [updN (by decide)]
        rw [updN (by decide)]
        rw [updN (by decide)]
        rw [updN (by decide)]
        unfold upd
        rw [if_pos (show (1 : Nat) = Int.toNat 1 by decide)]
        rfl
      · rw [updN (by decide)]
        rw [updN (by decide)]
        rw [updN (by decide)]
        rw [updN (by decide)]
        rw [updN (by decide)]
        unfold upd
        rw [if_pos (show (2 : Nat) = Int.toNat 2 by decide)]
        rfl
      · rw [updN (by decide)]
        rw [updN (by decide)]
        rw [updN (by decide)]
        rw [updN (by decide)]
        unfold upd
        rw [if_pos (show (3 : Nat) = Int.toNat 3 by decide)]
        rfl
      · rw [updN (by decide)]
        rw [updN (by decide)]
        rw [updN (by decide)]
        unfold upd
        rw [if_pos (show (4 : Nat) = Int.toNat 4 by decide)]
        rfl
      · rw [updN (by decide)]
        rw [updN (by decide)]
        unfold upd
        rw [if_pos (show (5 : Nat) = Int.toNat 5 by decide)]
        rfl
      · rw [updN (by decide)]
        unfold upd
        rw [if_pos (show (6 : Nat) = Int.toNat 6 by decide)]
        rfl
      · unfold upd
        rw [if_pos (show (7 : Nat) = Int.toNat 7 by decide)]
        rfl
    have r89 : gA es137 89 = upd (upd (upd (gA es 89) (Int.toNat 0) (zI v40)) (Int.toNat 1) (zI v73)) (Int.toNat 2) (zI v106) := by rw [e_es137, gA_sI, e_es136, gA_sI, e_es135, gA_sI, e_es134, gA_sI, e_es133, gA_sA_ne (by decide), e_es132, gA_sA_ne (by decide), e_es131, gA_sA_ne (by decide), e_es130, gA_sA_ne (by decide), e_es129, gA_sA_ne (by decide), e_es128, gA_sA_ne (by decide), e_es127, gA_sA_ne (by decide), e_es126, gA_sA_ne (by decide), e_es125, gA_sI, e_es123, gA_sA_ne (by decide), e_es121, gA_sA_ne (by decide), e_es119, gA_sA_ne (by decide), e_es117, gA_sA_ne (by decide), e_es115, gA_sA_ne (by decide), e_es113, gA_sA_ne (by decide), e_es111, gA_sA_ne (by decide), e_es109, gA_sA_ne (by decide), e_es107, gA_sA hs_es74 (p := 89) (t := 0) (n := 3) rfl (by decide), e_es74, gA_sA hs_es41 (p := 89) (t := 0) (n := 3) rfl (by decide), e_es41, gA_sA hs_es8 (p := 89) (t := 0) (n := 3) rfl (by decide), e_es8, gA_sI, e_es1, gA_sI]
    have t89 : (gA es137 89 b).toInt = wy b := by
      have h8 : b = 0 ∨ b = 1 ∨ b = 2 := by omega
      rw [r89]
      rcases h8 with rfl | rfl | rfl
      · rw [updN (by decide)]
        rw [updN (by decide)]
        unfold upd
        rw [if_pos (show (0 : Nat) = Int.toNat 0 by decide), zI_toInt (by rw [e_v40]; exact i32_rng _), e_v40, e_es8, gA_sI, e_es1, gA_sI]
        exact w1
      · rw [updN (by decide)]
        unfold upd
        rw [if_pos (show (1 : Nat) = Int.toNat 1 by decide), zI_toInt (by rw [e_v73]; exact i32_rng _), e_v73, e_es41, gA_sA_ne (by decide), e_es8, gA_sI, e_es1, gA_sI]
        exact w1
      · unfold upd
        rw [if_pos (show (2 : Nat) = Int.toNat 2 by decide), zI_toInt (by rw [e_v106]; exact i32_rng _), e_v106, e_es74, gA_sA_ne (by decide), e_es41, gA_sA_ne (by decide), e_es8, gA_sI, e_es1, gA_sI]
        exact w1
    exact mbk_go (d := d) (b := b) h365 hT_es137 (gInv_keep f_es137 (by decide) hT hI) a80 hn hb3 hbn hR hK hBr t0 t18 t27 t29 t30 t89 t90 (fun es' v kc ks q1 q2 q3 q4 => ⟨q1, v, rfl, q2, Or.inr ⟨q3, b, rfl, hbn, q4⟩⟩)
