/-! SEGMENTS of methods by hand, printed by wip/ai2/hand5.py -/
theorem i_221_0 : iRow 221 0 = some (.aload_n 0, 0, 0, 0, none) := rfl
theorem i_221_1 : iRow 221 1 = some (.iload_n 1, 0, 0, 0, none) := rfl
theorem i_221_2 : iRow 221 2 = some (.iload_n 2, 0, 0, 0, none) := rfl
theorem i_221_3 : iRow 221 3 = some (.invokevirtual 279, 308, 219, 1, none) := rfl
theorem i_221_6 : iRow 221 6 = some (.istore_n 3, 0, 0, 0, none) := rfl
theorem i_221_7 : iRow 221 7 = some (.iload_n 3, 0, 0, 0, none) := rfl
theorem i_221_8 : iRow 221 8 = some (.invokestatic 282, 309, 220, 0, none) := rfl
theorem i_221_11 : iRow 221 11 = some (.ifCond .ne 7, 0, 0, 0, none) := rfl
theorem i_221_14 : iRow 221 14 = some (.iconst 1, 0, 0, 0, none) := rfl
theorem i_221_15 : iRow 221 15 = some (.goto 4, 0, 0, 0, none) := rfl
theorem i_221_18 : iRow 221 18 = some (.iconst (-1), 0, 0, 0, none) := rfl
theorem i_221_19 : iRow 221 19 = some (.istore 4, 0, 0, 0, none) := rfl
theorem i_221_21 : iRow 221 21 = some (.bipush 49, 0, 0, 0, none) := rfl
theorem i_221_23 : iRow 221 23 = some (.bipush 14, 0, 0, 0, none) := rfl
theorem i_221_25 : iRow 221 25 = some (.iload_n 3, 0, 0, 0, none) := rfl
theorem i_221_26 : iRow 221 26 = some (.iconst 2, 0, 0, 0, none) := rfl
theorem i_221_27 : iRow 221 27 = some (.idiv, 0, 0, 0, none) := rfl
theorem i_221_28 : iRow 221 28 = some (.imul, 0, 0, 0, none) := rfl
theorem i_221_29 : iRow 221 29 = some (.iadd, 0, 0, 0, none) := rfl
theorem i_221_30 : iRow 221 30 = some (.istore 5, 0, 0, 0, none) := rfl
theorem i_221_32 : iRow 221 32 = some (.iconst 0, 0, 0, 0, none) := rfl
theorem i_221_33 : iRow 221 33 = some (.istore 6, 0, 0, 0, none) := rfl
theorem i_221_35 : iRow 221 35 = some (.iload 6, 0, 0, 0, none) := rfl
theorem i_221_37 : iRow 221 37 = some (.aload_n 0, 0, 0, 0, none) := rfl
theorem i_221_38 : iRow 221 38 = some (.getfield 13, 165, 12, 1, none) := rfl
theorem i_221_41 : iRow 221 41 = some (.iload 5, 0, 0, 0, none) := rfl
theorem i_221_43 : iRow 221 43 = some (.iconst 1, 0, 0, 0, none) := rfl
theorem i_221_44 : iRow 221 44 = some (.iadd, 0, 0, 0, none) := rfl
theorem i_221_45 : iRow 221 45 = some (.iaload, 0, 0, 0, none) := rfl
theorem i_221_46 : iRow 221 46 = some (.if_icmp .ge 178, 0, 0, 0, none) := rfl
theorem i_221_49 : iRow 221 49 = some (.aload_n 0, 0, 0, 0, none) := rfl
theorem i_221_50 : iRow 221 50 = some (.getfield 13, 165, 12, 1, none) := rfl
theorem i_221_53 : iRow 221 53 = some (.iload 5, 0, 0, 0, none) := rfl
theorem i_221_55 : iRow 221 55 = some (.iconst 2, 0, 0, 0, none) := rfl
theorem i_221_56 : iRow 221 56 = some (.iadd, 0, 0, 0, none) := rfl
theorem i_221_57 : iRow 221 57 = some (.iconst 2, 0, 0, 0, none) := rfl
theorem i_221_58 : iRow 221 58 = some (.iload 6, 0, 0, 0, none) := rfl
theorem i_221_60 : iRow 221 60 = some (.imul, 0, 0, 0, none) := rfl
theorem i_221_61 : iRow 221 61 = some (.iadd, 0, 0, 0, none) := rfl
theorem i_221_62 : iRow 221 62 = some (.iaload, 0, 0, 0, none) := rfl
theorem i_221_63 : iRow 221 63 = some (.istore 7, 0, 0, 0, none) := rfl
theorem i_221_65 : iRow 221 65 = some (.aload_n 0, 0, 0, 0, none) := rfl
theorem i_221_66 : iRow 221 66 = some (.getfield 13, 165, 12, 1, none) := rfl
theorem i_221_69 : iRow 221 69 = some (.iload 5, 0, 0, 0, none) := rfl
theorem i_221_71 : iRow 221 71 = some (.iconst 3, 0, 0, 0, none) := rfl
theorem i_221_72 : iRow 221 72 = some (.iadd, 0, 0, 0, none) := rfl
theorem i_221_73 : iRow 221 73 = some (.iconst 2, 0, 0, 0, none) := rfl
theorem i_221_74 : iRow 221 74 = some (.iload 6, 0, 0, 0, none) := rfl
theorem i_221_76 : iRow 221 76 = some (.imul, 0, 0, 0, none) := rfl
theorem i_221_77 : iRow 221 77 = some (.iadd, 0, 0, 0, none) := rfl
theorem i_221_78 : iRow 221 78 = some (.iaload, 0, 0, 0, none) := rfl
theorem i_221_79 : iRow 221 79 = some (.istore 8, 0, 0, 0, none) := rfl
theorem i_221_81 : iRow 221 81 = some (.iload 7, 0, 0, 0, none) := rfl
theorem i_221_83 : iRow 221 83 = some (.iconst 2, 0, 0, 0, none) := rfl
theorem i_221_84 : iRow 221 84 = some (.if_icmp .ne 15, 0, 0, 0, none) := rfl
theorem i_221_87 : iRow 221 87 = some (.aload_n 0, 0, 0, 0, none) := rfl
theorem i_221_88 : iRow 221 88 = some (.iload_n 1, 0, 0, 0, none) := rfl
theorem i_221_89 : iRow 221 89 = some (.iload_n 2, 0, 0, 0, none) := rfl
theorem i_221_90 : iRow 221 90 = some (.iconst 0, 0, 0, 0, none) := rfl
theorem i_221_91 : iRow 221 91 = some (.iload 4, 0, 0, 0, none) := rfl
theorem i_221_93 : iRow 221 93 = some (.iload 8, 0, 0, 0, none) := rfl
theorem i_221_95 : iRow 221 95 = some (.iconst 1, 0, 0, 0, none) := rfl
theorem i_221_96 : iRow 221 96 = some (.invokevirtual 289, 311, 222, 1, none) := rfl
theorem i_221_99 : iRow 221 99 = some (.iload 7, 0, 0, 0, none) := rfl
theorem i_221_101 : iRow 221 101 = some (.iconst 3, 0, 0, 0, none) := rfl
theorem i_221_102 : iRow 221 102 = some (.if_icmp .ne 9, 0, 0, 0, none) := rfl
theorem i_221_105 : iRow 221 105 = some (.aload_n 0, 0, 0, 0, none) := rfl
theorem i_221_106 : iRow 221 106 = some (.iload_n 1, 0, 0, 0, none) := rfl
theorem i_221_107 : iRow 221 107 = some (.iload_n 2, 0, 0, 0, none) := rfl
theorem i_221_108 : iRow 221 108 = some (.invokevirtual 293, 314, 225, 1, none) := rfl
theorem i_221_111 : iRow 221 111 = some (.iload 7, 0, 0, 0, none) := rfl
theorem i_221_113 : iRow 221 113 = some (.iconst 4, 0, 0, 0, none) := rfl
theorem i_221_114 : iRow 221 114 = some (.if_icmp .ne 11, 0, 0, 0, none) := rfl
theorem i_221_117 : iRow 221 117 = some (.aload_n 0, 0, 0, 0, none) := rfl
theorem i_221_118 : iRow 221 118 = some (.iload_n 1, 0, 0, 0, none) := rfl
theorem i_221_119 : iRow 221 119 = some (.iload_n 2, 0, 0, 0, none) := rfl
theorem i_221_120 : iRow 221 120 = some (.iload 4, 0, 0, 0, none) := rfl
theorem i_221_122 : iRow 221 122 = some (.invokevirtual 296, 315, 226, 1, none) := rfl
theorem i_221_125 : iRow 221 125 = some (.iconst (-1), 0, 0, 0, none) := rfl
theorem i_221_126 : iRow 221 126 = some (.istore 9, 0, 0, 0, none) := rfl
theorem i_221_128 : iRow 221 128 = some (.iload 9, 0, 0, 0, none) := rfl
theorem i_221_130 : iRow 221 130 = some (.iconst 1, 0, 0, 0, none) := rfl
theorem i_221_131 : iRow 221 131 = some (.if_icmp .gt 38, 0, 0, 0, none) := rfl
theorem i_221_134 : iRow 221 134 = some (.iload 7, 0, 0, 0, none) := rfl
theorem i_221_136 : iRow 221 136 = some (.ifCond .ne 33, 0, 0, 0, none) := rfl
theorem i_221_139 : iRow 221 139 = some (.aload_n 0, 0, 0, 0, none) := rfl
theorem i_221_140 : iRow 221 140 = some (.iload_n 1, 0, 0, 0, none) := rfl
theorem i_221_141 : iRow 221 141 = some (.iload_n 2, 0, 0, 0, none) := rfl
theorem i_221_142 : iRow 221 142 = some (.iload 9, 0, 0, 0, none) := rfl
theorem i_221_144 : iRow 221 144 = some (.iconst 0, 0, 0, 0, none) := rfl
theorem i_221_145 : iRow 221 145 = some (.iload 8, 0, 0, 0, none) := rfl
theorem i_221_147 : iRow 221 147 = some (.iconst 0, 0, 0, 0, none) := rfl
theorem i_221_148 : iRow 221 148 = some (.invokevirtual 289, 311, 222, 1, none) := rfl
theorem i_221_151 : iRow 221 151 = some (.aload_n 0, 0, 0, 0, none) := rfl
theorem i_221_152 : iRow 221 152 = some (.iload_n 1, 0, 0, 0, none) := rfl
theorem i_221_153 : iRow 221 153 = some (.iload_n 2, 0, 0, 0, none) := rfl
theorem i_221_154 : iRow 221 154 = some (.iconst 0, 0, 0, 0, none) := rfl
theorem i_221_155 : iRow 221 155 = some (.iload 9, 0, 0, 0, none) := rfl
theorem i_221_157 : iRow 221 157 = some (.iload 8, 0, 0, 0, none) := rfl
theorem i_221_159 : iRow 221 159 = some (.iconst 0, 0, 0, 0, none) := rfl
theorem i_221_160 : iRow 221 160 = some (.invokevirtual 289, 311, 222, 1, none) := rfl
theorem i_221_163 : iRow 221 163 = some (.iinc 9 2, 0, 0, 0, none) := rfl
theorem i_221_166 : iRow 221 166 = some (.goto (-38), 0, 0, 0, none) := rfl
theorem i_221_169 : iRow 221 169 = some (.iconst (-1), 0, 0, 0, none) := rfl
theorem i_221_170 : iRow 221 170 = some (.istore 9, 0, 0, 0, none) := rfl
theorem i_221_172 : iRow 221 172 = some (.iload 9, 0, 0, 0, none) := rfl
theorem i_221_174 : iRow 221 174 = some (.iconst 1, 0, 0, 0, none) := rfl
theorem i_221_175 : iRow 221 175 = some (.if_icmp .gt 43, 0, 0, 0, none) := rfl
theorem i_221_178 : iRow 221 178 = some (.iload 7, 0, 0, 0, none) := rfl
theorem i_221_180 : iRow 221 180 = some (.iconst 1, 0, 0, 0, none) := rfl
theorem i_221_181 : iRow 221 181 = some (.if_icmp .ne 37, 0, 0, 0, none) := rfl
theorem i_221_184 : iRow 221 184 = some (.iconst (-1), 0, 0, 0, none) := rfl
theorem i_221_185 : iRow 221 185 = some (.istore 10, 0, 0, 0, none) := rfl
theorem i_221_187 : iRow 221 187 = some (.iload 10, 0, 0, 0, none) := rfl
theorem i_221_189 : iRow 221 189 = some (.iconst 1, 0, 0, 0, none) := rfl
theorem i_221_190 : iRow 221 190 = some (.if_icmp .gt 22, 0, 0, 0, none) := rfl
theorem i_221_193 : iRow 221 193 = some (.aload_n 0, 0, 0, 0, none) := rfl
theorem i_221_194 : iRow 221 194 = some (.iload_n 1, 0, 0, 0, none) := rfl
theorem i_221_195 : iRow 221 195 = some (.iload_n 2, 0, 0, 0, none) := rfl
theorem i_221_196 : iRow 221 196 = some (.iload 9, 0, 0, 0, none) := rfl
theorem i_221_198 : iRow 221 198 = some (.iload 10, 0, 0, 0, none) := rfl
theorem i_221_200 : iRow 221 200 = some (.iload 8, 0, 0, 0, none) := rfl
theorem i_221_202 : iRow 221 202 = some (.iconst 0, 0, 0, 0, none) := rfl
theorem i_221_203 : iRow 221 203 = some (.invokevirtual 289, 311, 222, 1, none) := rfl
theorem i_221_206 : iRow 221 206 = some (.iinc 10 2, 0, 0, 0, none) := rfl
theorem i_221_209 : iRow 221 209 = some (.goto (-22), 0, 0, 0, none) := rfl
theorem i_221_212 : iRow 221 212 = some (.iinc 9 2, 0, 0, 0, none) := rfl
theorem i_221_215 : iRow 221 215 = some (.goto (-43), 0, 0, 0, none) := rfl
theorem i_221_218 : iRow 221 218 = some (.iinc 6 1, 0, 0, 0, none) := rfl
theorem i_221_221 : iRow 221 221 = some (.goto (-186), 0, 0, 0, none) := rfl
theorem i_221_224 : iRow 221 224 = some (.return_, 0, 0, 0, none) := rfl
theorem s_goes0 {O : pOut} {d kc ks : Nat} {Q : pRes → Prop} {es : PH} {dp fm : Int} (hs_es : sh es) (hd : 0 ≤ dp ∧ dp ≤ 30) (hf : 0 ≤ fm ∧ fm ≤ 35) (hT_es : hOK tT es) (h9 : 0 ≤ (gA es 87 ((36 * dp) + fm).toNat).toInt)
    (K1 : ∀ v1 : Int, v1 = (gA es 87 ((36 * dp) + fm).toNat).toInt → ∀ v2 : Int, v2 = (zI v1 &&& zI 1).toInt → v2 ≠ 0 → aW O (d + 1) 221 kc ks Q (35, [some (.ref 143), some (.int (zI dp)), some (.int (zI fm)), some (.int (zI v1)), some (.int (zI (-1))), some (.int (zI (49 + (14 * (v1 / 2))))), some (.int (zI 0)), none, none, none, none], [], es))
    (K2 : ∀ v1 : Int, v1 = (gA es 87 ((36 * dp) + fm).toNat).toInt → ∀ v2 : Int, v2 = (zI v1 &&& zI 1).toInt → ¬ (v2 ≠ 0) → aW O (d + 1) 221 kc ks Q (35, [some (.ref 143), some (.int (zI dp)), some (.int (zI fm)), some (.int (zI v1)), some (.int (zI 1)), some (.int (zI (49 + (14 * (v1 / 2))))), some (.int (zI 0)), none, none, none, none], [], es)) :
    aW O (d + 1) 221 kc ks Q (0, [some (.ref 143), some (.int (zI dp)), some (.int (zI fm)), none, none, none, none, none, none, none, none], [], es) := by
  refine x0 (r := (1, [some (.ref 143), some (.int (zI dp)), some (.int (zI fm)), none, none, none, none, none, none, none, none], [.ref 143], es)) i_221_0 rfl ?_
  refine x0 (r := (2, [some (.ref 143), some (.int (zI dp)), some (.int (zI fm)), none, none, none, none, none, none, none, none], [.int (zI dp), .ref 143], es)) i_221_1 rfl ?_
  refine x0 (r := (3, [some (.ref 143), some (.int (zI dp)), some (.int (zI fm)), none, none, none, none, none, none, none, none], [.int (zI fm), .int (zI dp), .ref 143], es)) i_221_2 rfl ?_
  refine x_call (vs := [.ref 143, .int (zI dp), .int (zI fm)]) (rs := []) i_221_3 rfl (fun _ => rfl) rfl rfl rfl rfl rfl (pCall_v (p := 79) hs_es rfl rfl rfl rfl rfl (by decide) rfl rfl rfl rfl rfl) ?_
  show aW _ _ _ _ _ _ (0, [some (.ref 143), some (.int (zI dp)), some (.int (zI fm))], [], es)
  refine x0 (r := (1, [some (.ref 143), some (.int (zI dp)), some (.int (zI fm))], [.ref 143], es)) i_219_0 rfl ?_
  refine x_getr (p := 79) (k := 151) i_219_1 hs_es rfl rfl ?_
  show aW _ _ _ _ _ _ (4, [some (.ref 143), some (.int (zI dp)), some (.int (zI fm))], [.ref 151], es)
  refine x0 (r := (6, [some (.ref 143), some (.int (zI dp)), some (.int (zI fm))], [.int (zI 36), .ref 151], es)) i_219_4 (by rfl) ?_
  refine x0 (r := (7, [some (.ref 143), some (.int (zI dp)), some (.int (zI fm))], [.int (zI dp), .int (zI 36), .ref 151], es)) i_219_6 rfl ?_
  refine x_imul i_219_7 ?_
  refine x0 (r := (9, [some (.ref 143), some (.int (zI dp)), some (.int (zI fm))], [.int (zI fm), .int (zI (36 * dp)), .ref 151], es)) i_219_8 rfl ?_
  refine x_iadd i_219_9 ?_
  refine x_iald (p := 87) i_219_10 hs_es rfl (by unfold i32 iLO iHI; omega) (by omega) (by omega) ?_
  obtain ⟨v1, e_v1⟩ : ∃ z : Int, z = (gA es 87 ((36 * dp) + fm).toNat).toInt := ⟨_, rfl⟩
  rw [← e_v1]
  have r_v1 : iLO ≤ v1 ∧ v1 ≤ iHI := by rw [e_v1]; exact i32_rng _
  unfold iLO iHI at r_v1
  have b_v1 : (-1 : Int) ≤ v1 ∧ v1 ≤ (9 : Int) := by rw [e_v1]; exact gA_bd hT_es (p := 87) (k := ((36 * dp) + fm).toNat) rfl (by omega) (by decide)
  refine x_ret (v := some (.int (zI v1))) i_219_11 rfl (fun _ => rfl) rfl rfl rfl ?_
  show aW _ _ _ _ _ _ (6, [some (.ref 143), some (.int (zI dp)), some (.int (zI fm)), none, none, none, none, none, none, none, none], [.int (zI v1)], es)
  refine x0 (r := (7, [some (.ref 143), some (.int (zI dp)), some (.int (zI fm)), some (.int (zI v1)), none, none, none, none, none, none, none], [], es)) i_221_6 rfl ?_
  refine x0 (r := (8, [some (.ref 143), some (.int (zI dp)), some (.int (zI fm)), some (.int (zI v1)), none, none, none, none, none, none, none], [.int (zI v1)], es)) i_221_7 rfl ?_
  refine x_call (vs := [.int (zI v1)]) (rs := []) i_221_8 rfl (fun _ => rfl) rfl rfl rfl rfl rfl rfl ?_
  show aW _ _ _ _ _ _ (0, [some (.int (zI v1))], [], es)
  refine x0 (r := (1, [some (.int (zI v1))], [.int (zI v1)], es)) i_220_0 rfl ?_
  refine x0 (r := (2, [some (.int (zI v1))], [.int (zI 1), .int (zI v1)], es)) i_220_1 (by rfl) ?_
  refine x_op i_220_2 (w := (zI v1 &&& zI 1)) rfl rfl ?_
  obtain ⟨v2, e_v2⟩ : ∃ z : Int, z = (zI v1 &&& zI 1).toInt := ⟨_, rfl⟩
  rw [← e_v2]
  have r_v2 : iLO ≤ v2 ∧ v2 ≤ iHI := by rw [e_v2]; exact i32_rng _
  unfold iLO iHI at r_v2
  refine x_ret (v := some (.int (zI v2))) i_220_3 rfl (fun _ => rfl) rfl rfl rfl ?_
  show aW _ _ _ _ _ _ (11, [some (.ref 143), some (.int (zI dp)), some (.int (zI fm)), some (.int (zI v1)), none, none, none, none, none, none, none], [.int (zI v2)], es)
  by_cases c3 : v2 ≠ 0
  · refine x_ifT i_221_11 (by unfold i32 iLO iHI; omega) rfl (by simp only [zC, cR]; omega) ?_
    refine x0 (r := (19, [some (.ref 143), some (.int (zI dp)), some (.int (zI fm)), some (.int (zI v1)), none, none, none, none, none, none, none], [.int (zI (-1))], es)) i_221_18 (by rfl) ?_
    refine x0 (r := (21, [some (.ref 143), some (.int (zI dp)), some (.int (zI fm)), some (.int (zI v1)), some (.int (zI (-1))), none, none, none, none, none, none], [], es)) i_221_19 rfl ?_
    refine x0 (r := (23, [some (.ref 143), some (.int (zI dp)), some (.int (zI fm)), some (.int (zI v1)), some (.int (zI (-1))), none, none, none, none, none, none], [.int (zI 49)], es)) i_221_21 (by rfl) ?_
    refine x0 (r := (25, [some (.ref 143), some (.int (zI dp)), some (.int (zI fm)), some (.int (zI v1)), some (.int (zI (-1))), none, none, none, none, none, none], [.int (zI 14), .int (zI 49)], es)) i_221_23 (by rfl) ?_
    refine x0 (r := (26, [some (.ref 143), some (.int (zI dp)), some (.int (zI fm)), some (.int (zI v1)), some (.int (zI (-1))), none, none, none, none, none, none], [.int (zI v1), .int (zI 14), .int (zI 49)], es)) i_221_25 rfl ?_
    refine x0 (r := (27, [some (.ref 143), some (.int (zI dp)), some (.int (zI fm)), some (.int (zI v1)), some (.int (zI (-1))), none, none, none, none, none, none], [.int (zI 2), .int (zI v1), .int (zI 14), .int (zI 49)], es)) i_221_26 (by rfl) ?_
    refine x_idivn i_221_27 (by omega) (by unfold i32 iLO iHI; omega) (by unfold i32 iLO iHI; omega) (by omega) ?_
    refine x_imul i_221_28 ?_
    refine x_iadd i_221_29 ?_
    refine x0 (r := (32, [some (.ref 143), some (.int (zI dp)), some (.int (zI fm)), some (.int (zI v1)), some (.int (zI (-1))), some (.int (zI (49 + (14 * (v1 / 2))))), none, none, none, none, none], [], es)) i_221_30 rfl ?_
    refine x0 (r := (33, [some (.ref 143), some (.int (zI dp)), some (.int (zI fm)), some (.int (zI v1)), some (.int (zI (-1))), some (.int (zI (49 + (14 * (v1 / 2))))), none, none, none, none, none], [.int (zI 0)], es)) i_221_32 (by rfl) ?_
    refine x0 (r := (35, [some (.ref 143), some (.int (zI dp)), some (.int (zI fm)), some (.int (zI v1)), some (.int (zI (-1))), some (.int (zI (49 + (14 * (v1 / 2))))), some (.int (zI 0)), none, none, none, none], [], es)) i_221_33 rfl ?_
    exact K1 v1 e_v1 v2 e_v2 c3
  · refine x_ifF i_221_11 (by unfold i32 iLO iHI; omega) rfl (by simp only [zC, cR]; omega) ?_
    refine x0 (r := (15, [some (.ref 143), some (.int (zI dp)), some (.int (zI fm)), some (.int (zI v1)), none, none, none, none, none, none, none], [.int (zI 1)], es)) i_221_14 (by rfl) ?_
    refine x0 (r := (19, [some (.ref 143), some (.int (zI dp)), some (.int (zI fm)), some (.int (zI v1)), none, none, none, none, none, none, none], [.int (zI 1)], es)) i_221_15 rfl ?_
    refine x0 (r := (21, [some (.ref 143), some (.int (zI dp)), some (.int (zI fm)), some (.int (zI v1)), some (.int (zI 1)), none, none, none, none, none, none], [], es)) i_221_19 rfl ?_
    refine x0 (r := (23, [some (.ref 143), some (.int (zI dp)), some (.int (zI fm)), some (.int (zI v1)), some (.int (zI 1)), none, none, none, none, none, none], [.int (zI 49)], es)) i_221_21 (by rfl) ?_
    refine x0 (r := (25, [some (.ref 143), some (.int (zI dp)), some (.int (zI fm)), some (.int (zI v1)), some (.int (zI 1)), none, none, none, none, none, none], [.int (zI 14), .int (zI 49)], es)) i_221_23 (by rfl) ?_
    refine x0 (r := (26, [some (.ref 143), some (.int (zI dp)), some (.int (zI fm)), some (.int (zI v1)), some (.int (zI 1)), none, none, none, none, none, none], [.int (zI v1), .int (zI 14), .int (zI 49)], es)) i_221_25 rfl ?_
    refine x0 (r := (27, [some (.ref 143), some (.int (zI dp)), some (.int (zI fm)), some (.int (zI v1)), some (.int (zI 1)), none, none, none, none, none, none], [.int (zI 2), .int (zI v1), .int (zI 14), .int (zI 49)], es)) i_221_26 (by rfl) ?_
    refine x_idivn i_221_27 (by omega) (by unfold i32 iLO iHI; omega) (by unfold i32 iLO iHI; omega) (by omega) ?_
    refine x_imul i_221_28 ?_
    refine x_iadd i_221_29 ?_
    refine x0 (r := (32, [some (.ref 143), some (.int (zI dp)), some (.int (zI fm)), some (.int (zI v1)), some (.int (zI 1)), some (.int (zI (49 + (14 * (v1 / 2))))), none, none, none, none, none], [], es)) i_221_30 rfl ?_
    refine x0 (r := (33, [some (.ref 143), some (.int (zI dp)), some (.int (zI fm)), some (.int (zI v1)), some (.int (zI 1)), some (.int (zI (49 + (14 * (v1 / 2))))), none, none, none, none, none], [.int (zI 0)], es)) i_221_32 (by rfl) ?_
    refine x0 (r := (35, [some (.ref 143), some (.int (zI dp)), some (.int (zI fm)), some (.int (zI v1)), some (.int (zI 1)), some (.int (zI (49 + (14 * (v1 / 2))))), some (.int (zI 0)), none, none, none, none], [], es)) i_221_33 rfl ?_
    exact K2 v1 e_v1 v2 e_v2 c3

theorem s_goes35 {O : pOut} {d kc ks : Nat} {Q : pRes → Prop} {es : PH} {dp fm mn ah k n : Int} {x7 x8 x9 x10 : Option Value} (hs_es : sh es) (hd : 0 ≤ dp ∧ dp ≤ 30) (hf : 0 ≤ fm ∧ fm ≤ 35) (h1 : -1 ≤ ah ∧ ah ≤ 1) (h2 : 49 ≤ k ∧ k ≤ 105) (h3 : 0 ≤ n ∧ n ≤ 6) (h4 : (gA es 80 (k + 1).toNat).toInt ≤ 6)
    (K1 : ∀ v1 : Int, v1 = (gA es 80 (k + 1).toNat).toInt → v1 ≤ n → Q (.inl (none), es, kc, ks))
    (K2 : ∀ v1 : Int, v1 = (gA es 80 (k + 1).toNat).toInt → ¬ (v1 ≤ n) → ∀ v3 : Int, v3 = (gA es 80 ((k + 2) + (2 * n)).toNat).toInt → ∀ v4 : Int, v4 = (gA es 80 ((k + 3) + (2 * n)).toNat).toInt → v3 ≠ 2 → v3 ≠ 3 → v3 ≠ 4 → v3 ≠ 0 → v3 ≠ 1 → aW O (d + 4) 221 kc ks Q (35, [some (.ref 143), some (.int (zI dp)), some (.int (zI fm)), some (.int (zI mn)), some (.int (zI ah)), some (.int (zI k)), some (.int (zI (n + 1))), some (.int (zI v3)), some (.int (zI v4)), some (.int (zI (-1))), x10], [], es))
    (K3 : ∀ v1 : Int, v1 = (gA es 80 (k + 1).toNat).toInt → ¬ (v1 ≤ n) → ∀ v3 : Int, v3 = (gA es 80 ((k + 2) + (2 * n)).toNat).toInt → ∀ v4 : Int, v4 = (gA es 80 ((k + 3) + (2 * n)).toNat).toInt → v3 ≠ 2 → v3 ≠ 3 → v3 ≠ 4 → v3 ≠ 0 → ¬ (v3 ≠ 1) → ∀ es10 : PH, alongP dp fm (-1) (-1) v4 0 es es10 → ∀ es11 : PH, alongP dp fm (-1) 1 v4 0 es10 es11 → ∀ es12 : PH, alongP dp fm 1 (-1) v4 0 es11 es12 → ∀ es13 : PH, alongP dp fm 1 1 v4 0 es12 es13 → aW O (d + 4) 221 kc ks Q (35, [some (.ref 143), some (.int (zI dp)), some (.int (zI fm)), some (.int (zI mn)), some (.int (zI ah)), some (.int (zI k)), some (.int (zI (n + 1))), some (.int (zI v3)), some (.int (zI v4)), some (.int (zI 3)), some (.int (zI 3))], [], es13))
    (K4 : ∀ v1 : Int, v1 = (gA es 80 (k + 1).toNat).toInt → ¬ (v1 ≤ n) → ∀ v3 : Int, v3 = (gA es 80 ((k + 2) + (2 * n)).toNat).toInt → ∀ v4 : Int, v4 = (gA es 80 ((k + 3) + (2 * n)).toNat).toInt → v3 ≠ 2 → v3 ≠ 3 → v3 ≠ 4 → ¬ (v3 ≠ 0) → ∀ es14 : PH, alongP dp fm (-1) 0 v4 0 es es14 → ∀ es15 : PH, alongP dp fm 0 (-1) v4 0 es14 es15 → ∀ es16 : PH, alongP dp fm 1 0 v4 0 es15 es16 → ∀ es17 : PH, alongP dp fm 0 1 v4 0 es16 es17 → aW O (d + 4) 221 kc ks Q (35, [some (.ref 143), some (.int (zI dp)), some (.int (zI fm)), some (.int (zI mn)), some (.int (zI ah)), some (.int (zI k)), some (.int (zI (n + 1))), some (.int (zI v3)), some (.int (zI v4)), some (.int (zI (-1))), x10], [], es17))
    (K5 : ∀ v1 : Int, v1 = (gA es 80 (k + 1).toNat).toInt → ¬ (v1 ≤ n) → ∀ v3 : Int, v3 = (gA es 80 ((k + 2) + (2 * n)).toNat).toInt → ∀ v4 : Int, v4 = (gA es 80 ((k + 3) + (2 * n)).toNat).toInt → v3 ≠ 2 → v3 ≠ 3 → ¬ (v3 ≠ 4) → ∀ es18 : PH, bitesP dp fm ah es es18 → aW O (d + 4) 221 kc ks Q (35, [some (.ref 143), some (.int (zI dp)), some (.int (zI fm)), some (.int (zI mn)), some (.int (zI ah)), some (.int (zI k)), some (.int (zI (n + 1))), some (.int (zI v3)), some (.int (zI v4)), some (.int (zI (-1))), x10], [], es18))
    (K6 : ∀ v1 : Int, v1 = (gA es 80 (k + 1).toNat).toInt → ¬ (v1 ≤ n) → ∀ v3 : Int, v3 = (gA es 80 ((k + 2) + (2 * n)).toNat).toInt → ∀ v4 : Int, v4 = (gA es 80 ((k + 3) + (2 * n)).toNat).toInt → v3 ≠ 2 → ¬ (v3 ≠ 3) → ∀ es19 : PH, leapsP dp fm es es19 → aW O (d + 4) 221 kc ks Q (35, [some (.ref 143), some (.int (zI dp)), some (.int (zI fm)), some (.int (zI mn)), some (.int (zI ah)), some (.int (zI k)), some (.int (zI (n + 1))), some (.int (zI v3)), some (.int (zI v4)), some (.int (zI (-1))), x10], [], es19))
    (K7 : ∀ v1 : Int, v1 = (gA es 80 (k + 1).toNat).toInt → ¬ (v1 ≤ n) → ∀ v3 : Int, v3 = (gA es 80 ((k + 2) + (2 * n)).toNat).toInt → ∀ v4 : Int, v4 = (gA es 80 ((k + 3) + (2 * n)).toNat).toInt → ¬ (v3 ≠ 2) → ∀ es20 : PH, alongP dp fm 0 ah v4 1 es es20 → aW O (d + 4) 221 kc ks Q (35, [some (.ref 143), some (.int (zI dp)), some (.int (zI fm)), some (.int (zI mn)), some (.int (zI ah)), some (.int (zI k)), some (.int (zI (n + 1))), some (.int (zI v3)), some (.int (zI v4)), some (.int (zI (-1))), x10], [], es20)) :
    aW O (d + 4) 221 kc ks Q (35, [some (.ref 143), some (.int (zI dp)), some (.int (zI fm)), some (.int (zI mn)), some (.int (zI ah)), some (.int (zI k)), some (.int (zI n)), x7, x8, x9, x10], [], es) := by
  refine x0 (r := (37, [some (.ref 143), some (.int (zI dp)), some (.int (zI fm)), some (.int (zI mn)), some (.int (zI ah)), some (.int (zI k)), some (.int (zI n)), x7, x8, x9, x10], [.int (zI n)], es)) i_221_35 rfl ?_
  refine x0 (r := (38, [some (.ref 143), some (.int (zI dp)), some (.int (zI fm)), some (.int (zI mn)), some (.int (zI ah)), some (.int (zI k)), some (.int (zI n)), x7, x8, x9, x10], [.ref 143, .int (zI n)], es)) i_221_37 rfl ?_
  refine x_getr (p := 79) (k := 144) i_221_38 hs_es rfl rfl ?_
  show aW _ _ _ _ _ _ (41, [some (.ref 143), some (.int (zI dp)), some (.int (zI fm)), some (.int (zI mn)), some (.int (zI ah)), some (.int (zI k)), some (.int (zI n)), x7, x8, x9, x10], [.ref 144, .int (zI n)], es)
  refine x0 (r := (43, [some (.ref 143), some (.int (zI dp)), some (.int (zI fm)), some (.int (zI mn)), some (.int (zI ah)), some (.int (zI k)), some (.int (zI n)), x7, x8, x9, x10], [.int (zI k), .ref 144, .int (zI n)], es)) i_221_41 rfl ?_
  refine x0 (r := (44, [some (.ref 143), some (.int (zI dp)), some (.int (zI fm)), some (.int (zI mn)), some (.int (zI ah)), some (.int (zI k)), some (.int (zI n)), x7, x8, x9, x10], [.int (zI 1), .int (zI k), .ref 144, .int (zI n)], es)) i_221_43 (by rfl) ?_
  refine x_iadd i_221_44 ?_
  refine x_iald (p := 80) i_221_45 hs_es rfl (by unfold i32 iLO iHI; omega) (by omega) (by omega) ?_
  obtain ⟨v1, e_v1⟩ : ∃ z : Int, z = (gA es 80 (k + 1).toNat).toInt := ⟨_, rfl⟩
  rw [← e_v1]
  have r_v1 : iLO ≤ v1 ∧ v1 ≤ iHI := by rw [e_v1]; exact i32_rng _
  unfold iLO iHI at r_v1
  by_cases c2 : v1 ≤ n
  · refine x_cmpT i_221_46 (by unfold i32 iLO iHI; omega) (by unfold i32 iLO iHI; omega) rfl (by simp only [zC, cR]; omega) ?_
    refine x_ret (v := none) i_221_224 rfl (fun _ => rfl) rfl rfl rfl ?_
    exact K1 v1 e_v1 c2
  · refine x_cmpF i_221_46 (by unfold i32 iLO iHI; omega) (by unfold i32 iLO iHI; omega) rfl (by simp only [zC, cR]; omega) ?_
    refine x0 (r := (50, [some (.ref 143), some (.int (zI dp)), some (.int (zI fm)), some (.int (zI mn)), some (.int (zI ah)), some (.int (zI k)), some (.int (zI n)), x7, x8, x9, x10], [.ref 143], es)) i_221_49 rfl ?_
    refine x_getr (p := 79) (k := 144) i_221_50 hs_es rfl rfl ?_
    show aW _ _ _ _ _ _ (53, [some (.ref 143), some (.int (zI dp)), some (.int (zI fm)), some (.int (zI mn)), some (.int (zI ah)), some (.int (zI k)), some (.int (zI n)), x7, x8, x9, x10], [.ref 144], es)
    refine x0 (r := (55, [some (.ref 143), some (.int (zI dp)), some (.int (zI fm)), some (.int (zI mn)), some (.int (zI ah)), some (.int (zI k)), some (.int (zI n)), x7, x8, x9, x10], [.int (zI k), .ref 144], es)) i_221_53 rfl ?_
    refine x0 (r := (56, [some (.ref 143), some (.int (zI dp)), some (.int (zI fm)), some (.int (zI mn)), some (.int (zI ah)), some (.int (zI k)), some (.int (zI n)), x7, x8, x9, x10], [.int (zI 2), .int (zI k), .ref 144], es)) i_221_55 (by rfl) ?_
    refine x_iadd i_221_56 ?_
    refine x0 (r := (58, [some (.ref 143), some (.int (zI dp)), some (.int (zI fm)), some (.int (zI mn)), some (.int (zI ah)), some (.int (zI k)), some (.int (zI n)), x7, x8, x9, x10], [.int (zI 2), .int (zI (k + 2)), .ref 144], es)) i_221_57 (by rfl) ?_
    refine x0 (r := (60, [some (.ref 143), some (.int (zI dp)), some (.int (zI fm)), some (.int (zI mn)), some (.int (zI ah)), some (.int (zI k)), some (.int (zI n)), x7, x8, x9, x10], [.int (zI n), .int (zI 2), .int (zI (k + 2)), .ref 144], es)) i_221_58 rfl ?_
    refine x_imul i_221_60 ?_
    refine x_iadd i_221_61 ?_
    refine x_iald (p := 80) i_221_62 hs_es rfl (by unfold i32 iLO iHI; omega) (by omega) (by omega) ?_
    obtain ⟨v3, e_v3⟩ : ∃ z : Int, z = (gA es 80 ((k + 2) + (2 * n)).toNat).toInt := ⟨_, rfl⟩
    rw [← e_v3]
    have r_v3 : iLO ≤ v3 ∧ v3 ≤ iHI := by rw [e_v3]; exact i32_rng _
    unfold iLO iHI at r_v3
    refine x0 (r := (65, [some (.ref 143), some (.int (zI dp)), some (.int (zI fm)), some (.int (zI mn)), some (.int (zI ah)), some (.int (zI k)), some (.int (zI n)), some (.int (zI v3)), x8, x9, x10], [], es)) i_221_63 rfl ?_
    refine x0 (r := (66, [some (.ref 143), some (.int (zI dp)), some (.int (zI fm)), some (.int (zI mn)), some (.int (zI ah)), some (.int (zI k)), some (.int (zI n)), some (.int (zI v3)), x8, x9, x10], [.ref 143], es)) i_221_65 rfl ?_
    refine x_getr (p := 79) (k := 144) i_221_66 hs_es rfl rfl ?_
    show aW _ _ _ _ _ _ (69, [some (.ref 143), some (.int (zI dp)), some (.int (zI fm)), some (.int (zI mn)), some (.int (zI ah)), some (.int (zI k)), some (.int (zI n)), some (.int (zI v3)), x8, x9, x10], [.ref 144], es)
    refine x0 (r := (71, [some (.ref 143), some (.int (zI dp)), some (.int (zI fm)), some (.int (zI mn)), some (.int (zI ah)), some (.int (zI k)), some (.int (zI n)), some (.int (zI v3)), x8, x9, x10], [.int (zI k), .ref 144], es)) i_221_69 rfl ?_
    refine x0 (r := (72, [some (.ref 143), some (.int (zI dp)), some (.int (zI fm)), some (.int (zI mn)), some (.int (zI ah)), some (.int (zI k)), some (.int (zI n)), some (.int (zI v3)), x8, x9, x10], [.int (zI 3), .int (zI k), .ref 144], es)) i_221_71 (by rfl) ?_
    refine x_iadd i_221_72 ?_
    refine x0 (r := (74, [some (.ref 143), some (.int (zI dp)), some (.int (zI fm)), some (.int (zI mn)), some (.int (zI ah)), some (.int (zI k)), some (.int (zI n)), some (.int (zI v3)), x8, x9, x10], [.int (zI 2), .int (zI (k + 3)), .ref 144], es)) i_221_73 (by rfl) ?_
    refine x0 (r := (76, [some (.ref 143), some (.int (zI dp)), some (.int (zI fm)), some (.int (zI mn)), some (.int (zI ah)), some (.int (zI k)), some (.int (zI n)), some (.int (zI v3)), x8, x9, x10], [.int (zI n), .int (zI 2), .int (zI (k + 3)), .ref 144], es)) i_221_74 rfl ?_
    refine x_imul i_221_76 ?_
    refine x_iadd i_221_77 ?_
    refine x_iald (p := 80) i_221_78 hs_es rfl (by unfold i32 iLO iHI; omega) (by omega) (by omega) ?_
    obtain ⟨v4, e_v4⟩ : ∃ z : Int, z = (gA es 80 ((k + 3) + (2 * n)).toNat).toInt := ⟨_, rfl⟩
    rw [← e_v4]
    have r_v4 : iLO ≤ v4 ∧ v4 ≤ iHI := by rw [e_v4]; exact i32_rng _
    unfold iLO iHI at r_v4
    refine x0 (r := (81, [some (.ref 143), some (.int (zI dp)), some (.int (zI fm)), some (.int (zI mn)), some (.int (zI ah)), some (.int (zI k)), some (.int (zI n)), some (.int (zI v3)), some (.int (zI v4)), x9, x10], [], es)) i_221_79 rfl ?_
    refine x0 (r := (83, [some (.ref 143), some (.int (zI dp)), some (.int (zI fm)), some (.int (zI mn)), some (.int (zI ah)), some (.int (zI k)), some (.int (zI n)), some (.int (zI v3)), some (.int (zI v4)), x9, x10], [.int (zI v3)], es)) i_221_81 rfl ?_
    refine x0 (r := (84, [some (.ref 143), some (.int (zI dp)), some (.int (zI fm)), some (.int (zI mn)), some (.int (zI ah)), some (.int (zI k)), some (.int (zI n)), some (.int (zI v3)), some (.int (zI v4)), x9, x10], [.int (zI 2), .int (zI v3)], es)) i_221_83 (by rfl) ?_
    by_cases c5 : v3 ≠ 2
    · refine x_cmpT i_221_84 (by unfold i32 iLO iHI; omega) (by unfold i32 iLO iHI; omega) rfl (by simp only [zC, cR]; omega) ?_
      refine x0 (r := (101, [some (.ref 143), some (.int (zI dp)), some (.int (zI fm)), some (.int (zI mn)), some (.int (zI ah)), some (.int (zI k)), some (.int (zI n)), some (.int (zI v3)), some (.int (zI v4)), x9, x10], [.int (zI v3)], es)) i_221_99 rfl ?_
      refine x0 (r := (102, [some (.ref 143), some (.int (zI dp)), some (.int (zI fm)), some (.int (zI mn)), some (.int (zI ah)), some (.int (zI k)), some (.int (zI n)), some (.int (zI v3)), some (.int (zI v4)), x9, x10], [.int (zI 3), .int (zI v3)], es)) i_221_101 (by rfl) ?_
      by_cases c6 : v3 ≠ 3
      · refine x_cmpT i_221_102 (by unfold i32 iLO iHI; omega) (by unfold i32 iLO iHI; omega) rfl (by simp only [zC, cR]; omega) ?_
        refine x0 (r := (113, [some (.ref 143), some (.int (zI dp)), some (.int (zI fm)), some (.int (zI mn)), some (.int (zI ah)), some (.int (zI k)), some (.int (zI n)), some (.int (zI v3)), some (.int (zI v4)), x9, x10], [.int (zI v3)], es)) i_221_111 rfl ?_
        refine x0 (r := (114, [some (.ref 143), some (.int (zI dp)), some (.int (zI fm)), some (.int (zI mn)), some (.int (zI ah)), some (.int (zI k)), some (.int (zI n)), some (.int (zI v3)), some (.int (zI v4)), x9, x10], [.int (zI 4), .int (zI v3)], es)) i_221_113 (by rfl) ?_
        by_cases c7 : v3 ≠ 4
        · refine x_cmpT i_221_114 (by unfold i32 iLO iHI; omega) (by unfold i32 iLO iHI; omega) rfl (by simp only [zC, cR]; omega) ?_
          refine x0 (r := (126, [some (.ref 143), some (.int (zI dp)), some (.int (zI fm)), some (.int (zI mn)), some (.int (zI ah)), some (.int (zI k)), some (.int (zI n)), some (.int (zI v3)), some (.int (zI v4)), x9, x10], [.int (zI (-1))], es)) i_221_125 (by rfl) ?_
          refine x0 (r := (128, [some (.ref 143), some (.int (zI dp)), some (.int (zI fm)), some (.int (zI mn)), some (.int (zI ah)), some (.int (zI k)), some (.int (zI n)), some (.int (zI v3)), some (.int (zI v4)), some (.int (zI (-1))), x10], [], es)) i_221_126 rfl ?_
          refine x0 (r := (130, [some (.ref 143), some (.int (zI dp)), some (.int (zI fm)), some (.int (zI mn)), some (.int (zI ah)), some (.int (zI k)), some (.int (zI n)), some (.int (zI v3)), some (.int (zI v4)), some (.int (zI (-1))), x10], [.int (zI (-1))], es)) i_221_128 rfl ?_
          refine x0 (r := (131, [some (.ref 143), some (.int (zI dp)), some (.int (zI fm)), some (.int (zI mn)), some (.int (zI ah)), some (.int (zI k)), some (.int (zI n)), some (.int (zI v3)), some (.int (zI v4)), some (.int (zI (-1))), x10], [.int (zI 1), .int (zI (-1))], es)) i_221_130 (by rfl) ?_
          refine x_cmpF i_221_131 (by unfold i32 iLO iHI; omega) (by unfold i32 iLO iHI; omega) rfl (by simp only [zC, cR]; omega) ?_
          refine x0 (r := (136, [some (.ref 143), some (.int (zI dp)), some (.int (zI fm)), some (.int (zI mn)), some (.int (zI ah)), some (.int (zI k)), some (.int (zI n)), some (.int (zI v3)), some (.int (zI v4)), some (.int (zI (-1))), x10], [.int (zI v3)], es)) i_221_134 rfl ?_
          by_cases c8 : v3 ≠ 0
          · refine x_ifT i_221_136 (by unfold i32 iLO iHI; omega) rfl (by simp only [zC, cR]; omega) ?_
            refine x0 (r := (170, [some (.ref 143), some (.int (zI dp)), some (.int (zI fm)), some (.int (zI mn)), some (.int (zI ah)), some (.int (zI k)), some (.int (zI n)), some (.int (zI v3)), some (.int (zI v4)), some (.int (zI (-1))), x10], [.int (zI (-1))], es)) i_221_169 (by rfl) ?_
            refine x0 (r := (172, [some (.ref 143), some (.int (zI dp)), some (.int (zI fm)), some (.int (zI mn)), some (.int (zI ah)), some (.int (zI k)), some (.int (zI n)), some (.int (zI v3)), some (.int (zI v4)), some (.int (zI (-1))), x10], [], es)) i_221_170 rfl ?_
            refine x0 (r := (174, [some (.ref 143), some (.int (zI dp)), some (.int (zI fm)), some (.int (zI mn)), some (.int (zI ah)), some (.int (zI k)), some (.int (zI n)), some (.int (zI v3)), some (.int (zI v4)), some (.int (zI (-1))), x10], [.int (zI (-1))], es)) i_221_172 rfl ?_
            refine x0 (r := (175, [some (.ref 143), some (.int (zI dp)), some (.int (zI fm)), some (.int (zI mn)), some (.int (zI ah)), some (.int (zI k)), some (.int (zI n)), some (.int (zI v3)), some (.int (zI v4)), some (.int (zI (-1))), x10], [.int (zI 1), .int (zI (-1))], es)) i_221_174 (by rfl) ?_
            refine x_cmpF i_221_175 (by unfold i32 iLO iHI; omega) (by unfold i32 iLO iHI; omega) rfl (by simp only [zC, cR]; omega) ?_
            refine x0 (r := (180, [some (.ref 143), some (.int (zI dp)), some (.int (zI fm)), some (.int (zI mn)), some (.int (zI ah)), some (.int (zI k)), some (.int (zI n)), some (.int (zI v3)), some (.int (zI v4)), some (.int (zI (-1))), x10], [.int (zI v3)], es)) i_221_178 rfl ?_
            refine x0 (r := (181, [some (.ref 143), some (.int (zI dp)), some (.int (zI fm)), some (.int (zI mn)), some (.int (zI ah)), some (.int (zI k)), some (.int (zI n)), some (.int (zI v3)), some (.int (zI v4)), some (.int (zI (-1))), x10], [.int (zI 1), .int (zI v3)], es)) i_221_180 (by rfl) ?_
            by_cases c9 : v3 ≠ 1
            · refine x_cmpT i_221_181 (by unfold i32 iLO iHI; omega) (by unfold i32 iLO iHI; omega) rfl (by simp only [zC, cR]; omega) ?_
              refine x_iinc (x := n) i_221_218 rfl (by show 6 < 11; decide) ?_
              show aW _ _ _ _ _ _ (221, [some (.ref 143), some (.int (zI dp)), some (.int (zI fm)), some (.int (zI mn)), some (.int (zI ah)), some (.int (zI k)), some (.int (zI (n + 1))), some (.int (zI v3)), some (.int (zI v4)), some (.int (zI (-1))), x10], [], es)
              refine x0 (r := (35, [some (.ref 143), some (.int (zI dp)), some (.int (zI fm)), some (.int (zI mn)), some (.int (zI ah)), some (.int (zI k)), some (.int (zI (n + 1))), some (.int (zI v3)), some (.int (zI v4)), some (.int (zI (-1))), x10], [], es)) i_221_221 rfl ?_
              exact K2 v1 e_v1 c2 v3 e_v3 v4 e_v4 c5 c6 c7 c8 c9
            · refine x_cmpF i_221_181 (by unfold i32 iLO iHI; omega) (by unfold i32 iLO iHI; omega) rfl (by simp only [zC, cR]; omega) ?_
              refine x0 (r := (185, [some (.ref 143), some (.int (zI dp)), some (.int (zI fm)), some (.int (zI mn)), some (.int (zI ah)), some (.int (zI k)), some (.int (zI n)), some (.int (zI v3)), some (.int (zI v4)), some (.int (zI (-1))), x10], [.int (zI (-1))], es)) i_221_184 (by rfl) ?_
              refine x0 (r := (187, [some (.ref 143), some (.int (zI dp)), some (.int (zI fm)), some (.int (zI mn)), some (.int (zI ah)), some (.int (zI k)), some (.int (zI n)), some (.int (zI v3)), some (.int (zI v4)), some (.int (zI (-1))), some (.int (zI (-1)))], [], es)) i_221_185 rfl ?_
              refine x0 (r := (189, [some (.ref 143), some (.int (zI dp)), some (.int (zI fm)), some (.int (zI mn)), some (.int (zI ah)), some (.int (zI k)), some (.int (zI n)), some (.int (zI v3)), some (.int (zI v4)), some (.int (zI (-1))), some (.int (zI (-1)))], [.int (zI (-1))], es)) i_221_187 rfl ?_
              refine x0 (r := (190, [some (.ref 143), some (.int (zI dp)), some (.int (zI fm)), some (.int (zI mn)), some (.int (zI ah)), some (.int (zI k)), some (.int (zI n)), some (.int (zI v3)), some (.int (zI v4)), some (.int (zI (-1))), some (.int (zI (-1)))], [.int (zI 1), .int (zI (-1))], es)) i_221_189 (by rfl) ?_
              refine x_cmpF i_221_190 (by unfold i32 iLO iHI; omega) (by unfold i32 iLO iHI; omega) rfl (by simp only [zC, cR]; omega) ?_
              refine x0 (r := (194, [some (.ref 143), some (.int (zI dp)), some (.int (zI fm)), some (.int (zI mn)), some (.int (zI ah)), some (.int (zI k)), some (.int (zI n)), some (.int (zI v3)), some (.int (zI v4)), some (.int (zI (-1))), some (.int (zI (-1)))], [.ref 143], es)) i_221_193 rfl ?_
              refine x0 (r := (195, [some (.ref 143), some (.int (zI dp)), some (.int (zI fm)), some (.int (zI mn)), some (.int (zI ah)), some (.int (zI k)), some (.int (zI n)), some (.int (zI v3)), some (.int (zI v4)), some (.int (zI (-1))), some (.int (zI (-1)))], [.int (zI dp), .ref 143], es)) i_221_194 rfl ?_
              refine x0 (r := (196, [some (.ref 143), some (.int (zI dp)), some (.int (zI fm)), some (.int (zI mn)), some (.int (zI ah)), some (.int (zI k)), some (.int (zI n)), some (.int (zI v3)), some (.int (zI v4)), some (.int (zI (-1))), some (.int (zI (-1)))], [.int (zI fm), .int (zI dp), .ref 143], es)) i_221_195 rfl ?_
              refine x0 (r := (198, [some (.ref 143), some (.int (zI dp)), some (.int (zI fm)), some (.int (zI mn)), some (.int (zI ah)), some (.int (zI k)), some (.int (zI n)), some (.int (zI v3)), some (.int (zI v4)), some (.int (zI (-1))), some (.int (zI (-1)))], [.int (zI (-1)), .int (zI fm), .int (zI dp), .ref 143], es)) i_221_196 rfl ?_
              refine x0 (r := (200, [some (.ref 143), some (.int (zI dp)), some (.int (zI fm)), some (.int (zI mn)), some (.int (zI ah)), some (.int (zI k)), some (.int (zI n)), some (.int (zI v3)), some (.int (zI v4)), some (.int (zI (-1))), some (.int (zI (-1)))], [.int (zI (-1)), .int (zI (-1)), .int (zI fm), .int (zI dp), .ref 143], es)) i_221_198 rfl ?_
              refine x0 (r := (202, [some (.ref 143), some (.int (zI dp)), some (.int (zI fm)), some (.int (zI mn)), some (.int (zI ah)), some (.int (zI k)), some (.int (zI n)), some (.int (zI v3)), some (.int (zI v4)), some (.int (zI (-1))), some (.int (zI (-1)))], [.int (zI v4), .int (zI (-1)), .int (zI (-1)), .int (zI fm), .int (zI dp), .ref 143], es)) i_221_200 rfl ?_
              refine x0 (r := (203, [some (.ref 143), some (.int (zI dp)), some (.int (zI fm)), some (.int (zI mn)), some (.int (zI ah)), some (.int (zI k)), some (.int (zI n)), some (.int (zI v3)), some (.int (zI v4)), some (.int (zI (-1))), some (.int (zI (-1)))], [.int (zI 0), .int (zI v4), .int (zI (-1)), .int (zI (-1)), .int (zI fm), .int (zI dp), .ref 143], es)) i_221_202 (by rfl) ?_
              refine x_call (vs := [.ref 143, .int (zI dp), .int (zI fm), .int (zI (-1)), .int (zI (-1)), .int (zI v4), .int (zI 0)]) (rs := []) i_221_203 rfl (fun _ => rfl) rfl rfl rfl rfl rfl (pCall_v (p := 79) hs_es rfl rfl rfl rfl rfl (by decide) rfl rfl rfl rfl rfl) ?_
              show aW _ _ _ _ _ _ (0, [some (.ref 143), some (.int (zI dp)), some (.int (zI fm)), some (.int (zI (-1))), some (.int (zI (-1))), some (.int (zI v4)), some (.int (zI 0)), none, none, none], [], es)
              refine along_spec hs_es (by omega) (by omega) (by omega) (by omega) (by omega) (by omega) (fun es10 p_es10 => ?_)
              have hs_es10 : sh es10 := p_es10.1
              show aW _ _ _ _ _ _ (206, [some (.ref 143), some (.int (zI dp)), some (.int (zI fm)), some (.int (zI mn)), some (.int (zI ah)), some (.int (zI k)), some (.int (zI n)), some (.int (zI v3)), some (.int (zI v4)), some (.int (zI (-1))), some (.int (zI (-1)))], [], es10)
              refine x_iinc (x := (-1)) i_221_206 rfl (by show 10 < 11; decide) ?_
              show aW _ _ _ _ _ _ (209, [some (.ref 143), some (.int (zI dp)), some (.int (zI fm)), some (.int (zI mn)), some (.int (zI ah)), some (.int (zI k)), some (.int (zI n)), some (.int (zI v3)), some (.int (zI v4)), some (.int (zI (-1))), some (.int (zI 1))], [], es10)
              refine x0 (r := (187, [some (.ref 143), some (.int (zI dp)), some (.int (zI fm)), some (.int (zI mn)), some (.int (zI ah)), some (.int (zI k)), some (.int (zI n)), some (.int (zI v3)), some (.int (zI v4)), some (.int (zI (-1))), some (.int (zI 1))], [], es10)) i_221_209 rfl ?_
              refine x0 (r := (189, [some (.ref 143), some (.int (zI dp)), some (.int (zI fm)), some (.int (zI mn)), some (.int (zI ah)), some (.int (zI k)), some (.int (zI n)), some (.int (zI v3)), some (.int (zI v4)), some (.int (zI (-1))), some (.int (zI 1))], [.int (zI 1)], es10)) i_221_187 rfl ?_
              refine x0 (r := (190, [some (.ref 143), some (.int (zI dp)), some (.int (zI fm)), some (.int (zI mn)), some (.int (zI ah)), some (.int (zI k)), some (.int (zI n)), some (.int (zI v3)), some (.int (zI v4)), some (.int (zI (-1))), some (.int (zI 1))], [.int (zI 1), .int (zI 1)], es10)) i_221_189 (by rfl) ?_
              refine x_cmpF i_221_190 (by unfold i32 iLO iHI; omega) (by unfold i32 iLO iHI; omega) rfl (by simp only [zC, cR]; omega) ?_
              refine x0 (r := (194, [some (.ref 143), some (.int (zI dp)), some (.int (zI fm)), some (.int (zI mn)), some (.int (zI ah)), some (.int (zI k)), some (.int (zI n)), some (.int (zI v3)), some (.int (zI v4)), some (.int (zI (-1))), some (.int (zI 1))], [.ref 143], es10)) i_221_193 rfl ?_
              refine x0 (r := (195, [some (.ref 143), some (.int (zI dp)), some (.int (zI fm)), some (.int (zI mn)), some (.int (zI ah)), some (.int (zI k)), some (.int (zI n)), some (.int (zI v3)), some (.int (zI v4)), some (.int (zI (-1))), some (.int (zI 1))], [.int (zI dp), .ref 143], es10)) i_221_194 rfl ?_
              refine x0 (r := (196, [some (.ref 143), some (.int (zI dp)), some (.int (zI fm)), some (.int (zI mn)), some (.int (zI ah)), some (.int (zI k)), some (.int (zI n)), some (.int (zI v3)), some (.int (zI v4)), some (.int (zI (-1))), some (.int (zI 1))], [.int (zI fm), .int (zI dp), .ref 143], es10)) i_221_195 rfl ?_
              refine x0 (r := (198, [some (.ref 143), some (.int (zI dp)), some (.int (zI fm)), some (.int (zI mn)), some (.int (zI ah)), some (.int (zI k)), some (.int (zI n)), some (.int (zI v3)), some (.int (zI v4)), some (.int (zI (-1))), some (.int (zI 1))], [.int (zI (-1)), .int (zI fm), .int (zI dp), .ref 143], es10)) i_221_196 rfl ?_
              refine x0 (r := (200, [some (.ref 143), some (.int (zI dp)), some (.int (zI fm)), some (.int (zI mn)), some (.int (zI ah)), some (.int (zI k)), some (.int (zI n)), some (.int (zI v3)), some (.int (zI v4)), some (.int (zI (-1))), some (.int (zI 1))], [.int (zI 1), .int (zI (-1)), .int (zI fm), .int (zI dp), .ref 143], es10)) i_221_198 rfl ?_
              refine x0 (r := (202, [some (.ref 143), some (.int (zI dp)), some (.int (zI fm)), some (.int (zI mn)), some (.int (zI ah)), some (.int (zI k)), some (.int (zI n)), some (.int (zI v3)), some (.int (zI v4)), some (.int (zI (-1))), some (.int (zI 1))], [.int (zI v4), .int (zI 1), .int (zI (-1)), .int (zI fm), .int (zI dp), .ref 143], es10)) i_221_200 rfl ?_
              refine x0 (r := (203, [some (.ref 143), some (.int (zI dp)), some (.int (zI fm)), some (.int (zI mn)), some (.int (zI ah)), some (.int (zI k)), some (.int (zI n)), some (.int (zI v3)), some (.int (zI v4)), some (.int (zI (-1))), some (.int (zI 1))], [.int (zI 0), .int (zI v4), .int (zI 1), .int (zI (-1)), .int (zI fm), .int (zI dp), .ref 143], es10)) i_221_202 (by rfl) ?_
              refine x_call (vs := [.ref 143, .int (zI dp), .int (zI fm), .int (zI (-1)), .int (zI 1), .int (zI v4), .int (zI 0)]) (rs := []) i_221_203 rfl (fun _ => rfl) rfl rfl rfl rfl rfl (pCall_v (p := 79) hs_es10 rfl rfl rfl rfl rfl (by decide) rfl rfl rfl rfl rfl) ?_
              show aW _ _ _ _ _ _ (0, [some (.ref 143), some (.int (zI dp)), some (.int (zI fm)), some (.int (zI (-1))), some (.int (zI 1)), some (.int (zI v4)), some (.int (zI 0)), none, none, none], [], es10)
              refine along_spec hs_es10 (by omega) (by omega) (by omega) (by omega) (by omega) (by omega) (fun es11 p_es11 => ?_)
              have hs_es11 : sh es11 := p_es11.1
              show aW _ _ _ _ _ _ (206, [some (.ref 143), some (.int (zI dp)), some (.int (zI fm)), some (.int (zI mn)), some (.int (zI ah)), some (.int (zI k)), some (.int (zI n)), some (.int (zI v3)), some (.int (zI v4)), some (.int (zI (-1))), some (.int (zI 1))], [], es11)
              refine x_iinc (x := 1) i_221_206 rfl (by show 10 < 11; decide) ?_
              show aW _ _ _ _ _ _ (209, [some (.ref 143), some (.int (zI dp)), some (.int (zI fm)), some (.int (zI mn)), some (.int (zI ah)), some (.int (zI k)), some (.int (zI n)), some (.int (zI v3)), some (.int (zI v4)), some (.int (zI (-1))), some (.int (zI 3))], [], es11)
              refine x0 (r := (187, [some (.ref 143), some (.int (zI dp)), some (.int (zI fm)), some (.int (zI mn)), some (.int (zI ah)), some (.int (zI k)), some (.int (zI n)), some (.int (zI v3)), some (.int (zI v4)), some (.int (zI (-1))), some (.int (zI 3))], [], es11)) i_221_209 rfl ?_
              refine x0 (r := (189, [some (.ref 143), some (.int (zI dp)), some (.int (zI fm)), some (.int (zI mn)), some (.int (zI ah)), some (.int (zI k)), some (.int (zI n)), some (.int (zI v3)), some (.int (zI v4)), some (.int (zI (-1))), some (.int (zI 3))], [.int (zI 3)], es11)) i_221_187 rfl ?_
              refine x0 (r := (190, [some (.ref 143), some (.int (zI dp)), some (.int (zI fm)), some (.int (zI mn)), some (.int (zI ah)), some (.int (zI k)), some (.int (zI n)), some (.int (zI v3)), some (.int (zI v4)), some (.int (zI (-1))), some (.int (zI 3))], [.int (zI 1), .int (zI 3)], es11)) i_221_189 (by rfl) ?_
              refine x_cmpT i_221_190 (by unfold i32 iLO iHI; omega) (by unfold i32 iLO iHI; omega) rfl (by simp only [zC, cR]; omega) ?_
              refine x_iinc (x := (-1)) i_221_212 rfl (by show 9 < 11; decide) ?_
              show aW _ _ _ _ _ _ (215, [some (.ref 143), some (.int (zI dp)), some (.int (zI fm)), some (.int (zI mn)), some (.int (zI ah)), some (.int (zI k)), some (.int (zI n)), some (.int (zI v3)), some (.int (zI v4)), some (.int (zI 1)), some (.int (zI 3))], [], es11)
              refine x0 (r := (172, [some (.ref 143), some (.int (zI dp)), some (.int (zI fm)), some (.int (zI mn)), some (.int (zI ah)), some (.int (zI k)), some (.int (zI n)), some (.int (zI v3)), some (.int (zI v4)), some (.int (zI 1)), some (.int (zI 3))], [], es11)) i_221_215 rfl ?_
              refine x0 (r := (174, [some (.ref 143), some (.int (zI dp)), some (.int (zI fm)), some (.int (zI mn)), some (.int (zI ah)), some (.int (zI k)), some (.int (zI n)), some (.int (zI v3)), some (.int (zI v4)), some (.int (zI 1)), some (.int (zI 3))], [.int (zI 1)], es11)) i_221_172 rfl ?_
              refine x0 (r := (175, [some (.ref 143), some (.int (zI dp)), some (.int (zI fm)), some (.int (zI mn)), some (.int (zI ah)), some (.int (zI k)), some (.int (zI n)), some (.int (zI v3)), some (.int (zI v4)), some (.int (zI 1)), some (.int (zI 3))], [.int (zI 1), .int (zI 1)], es11)) i_221_174 (by rfl) ?_
              refine x_cmpF i_221_175 (by unfold i32 iLO iHI; omega) (by unfold i32 iLO iHI; omega) rfl (by simp only [zC, cR]; omega) ?_
              refine x0 (r := (180, [some (.ref 143), some (.int (zI dp)), some (.int (zI fm)), some (.int (zI mn)), some (.int (zI ah)), some (.int (zI k)), some (.int (zI n)), some (.int (zI v3)), some (.int (zI v4)), some (.int (zI 1)), some (.int (zI 3))], [.int (zI v3)], es11)) i_221_178 rfl ?_
              refine x0 (r := (181, [some (.ref 143), some (.int (zI dp)), some (.int (zI fm)), some (.int (zI mn)), some (.int (zI ah)), some (.int (zI k)), some (.int (zI n)), some (.int (zI v3)), some (.int (zI v4)), some (.int (zI 1)), some (.int (zI 3))], [.int (zI 1), .int (zI v3)], es11)) i_221_180 (by rfl) ?_
              refine x_cmpF i_221_181 (by unfold i32 iLO iHI; omega) (by unfold i32 iLO iHI; omega) rfl (by simp only [zC, cR]; omega) ?_
              refine x0 (r := (185, [some (.ref 143), some (.int (zI dp)), some (.int (zI fm)), some (.int (zI mn)), some (.int (zI ah)), some (.int (zI k)), some (.int (zI n)), some (.int (zI v3)), some (.int (zI v4)), some (.int (zI 1)), some (.int (zI 3))], [.int (zI (-1))], es11)) i_221_184 (by rfl) ?_
              refine x0 (r := (187, [some (.ref 143), some (.int (zI dp)), some (.int (zI fm)), some (.int (zI mn)), some (.int (zI ah)), some (.int (zI k)), some (.int (zI n)), some (.int (zI v3)), some (.int (zI v4)), some (.int (zI 1)), some (.int (zI (-1)))], [], es11)) i_221_185 rfl ?_
              refine x0 (r := (189, [some (.ref 143), some (.int (zI dp)), some (.int (zI fm)), some (.int (zI mn)), some (.int (zI ah)), some (.int (zI k)), some (.int (zI n)), some (.int (zI v3)), some (.int (zI v4)), some (.int (zI 1)), some (.int (zI (-1)))], [.int (zI (-1))], es11)) i_221_187 rfl ?_
              refine x0 (r := (190, [some (.ref 143), some (.int (zI dp)), some (.int (zI fm)), some (.int (zI mn)), some (.int (zI ah)), some (.int (zI k)), some (.int (zI n)), some (.int (zI v3)), some (.int (zI v4)), some (.int (zI 1)), some (.int (zI (-1)))], [.int (zI 1), .int (zI (-1))], es11)) i_221_189 (by rfl) ?_
              refine x_cmpF i_221_190 (by unfold i32 iLO iHI; omega) (by unfold i32 iLO iHI; omega) rfl (by simp only [zC, cR]; omega) ?_
              refine x0 (r := (194, [some (.ref 143), some (.int (zI dp)), some (.int (zI fm)), some (.int (zI mn)), some (.int (zI ah)), some (.int (zI k)), some (.int (zI n)), some (.int (zI v3)), some (.int (zI v4)), some (.int (zI 1)), some (.int (zI (-1)))], [.ref 143], es11)) i_221_193 rfl ?_
              refine x0 (r := (195, [some (.ref 143), some (.int (zI dp)), some (.int (zI fm)), some (.int (zI mn)), some (.int (zI ah)), some (.int (zI k)), some (.int (zI n)), some (.int (zI v3)), some (.int (zI v4)), some (.int (zI 1)), some (.int (zI (-1)))], [.int (zI dp), .ref 143], es11)) i_221_194 rfl ?_
              refine x0 (r := (196, [some (.ref 143), some (.int (zI dp)), some (.int (zI fm)), some (.int (zI mn)), some (.int (zI ah)), some (.int (zI k)), some (.int (zI n)), some (.int (zI v3)), some (.int (zI v4)), some (.int (zI 1)), some (.int (zI (-1)))], [.int (zI fm), .int (zI dp), .ref 143], es11)) i_221_195 rfl ?_
              refine x0 (r := (198, [some (.ref 143), some (.int (zI dp)), some (.int (zI fm)), some (.int (zI mn)), some (.int (zI ah)), some (.int (zI k)), some (.int (zI n)), some (.int (zI v3)), some (.int (zI v4)), some (.int (zI 1)), some (.int (zI (-1)))], [.int (zI 1), .int (zI fm), .int (zI dp), .ref 143], es11)) i_221_196 rfl ?_
              refine x0 (r := (200, [some (.ref 143), some (.int (zI dp)), some (.int (zI fm)), some (.int (zI mn)), some (.int (zI ah)), some (.int (zI k)), some (.int (zI n)), some (.int (zI v3)), some (.int (zI v4)), some (.int (zI 1)), some (.int (zI (-1)))], [.int (zI (-1)), .int (zI 1), .int (zI fm), .int (zI dp), .ref 143], es11)) i_221_198 rfl ?_
              refine x0 (r := (202, [some (.ref 143), some (.int (zI dp)), some (.int (zI fm)), some (.int (zI mn)), some (.int (zI ah)), some (.int (zI k)), some (.int (zI n)), some (.int (zI v3)), some (.int (zI v4)), some (.int (zI 1)), some (.int (zI (-1)))], [.int (zI v4), .int (zI (-1)), .int (zI 1), .int (zI fm), .int (zI dp), .ref 143], es11)) i_221_200 rfl ?_
              refine x0 (r := (203, [some (.ref 143), some (.int (zI dp)), some (.int (zI fm)), some (.int (zI mn)), some (.int (zI ah)), some (.int (zI k)), some (.int (zI n)), some (.int (zI v3)), some (.int (zI v4)), some (.int (zI 1)), some (.int (zI (-1)))], [.int (zI 0), .int (zI v4), .int (zI (-1)), .int (zI 1), .int (zI fm), .int (zI dp), .ref 143], es11)) i_221_202 (by rfl) ?_
              refine x_call (vs := [.ref 143, .int (zI dp), .int (zI fm), .int (zI 1), .int (zI (-1)), .int (zI v4), .int (zI 0)]) (rs := []) i_221_203 rfl (fun _ => rfl) rfl rfl rfl rfl rfl (pCall_v (p := 79) hs_es11 rfl rfl rfl rfl rfl (by decide) rfl rfl rfl rfl rfl) ?_
              show aW _ _ _ _ _ _ (0, [some (.ref 143), some (.int (zI dp)), some (.int (zI fm)), some (.int (zI 1)), some (.int (zI (-1))), some (.int (zI v4)), some (.int (zI 0)), none, none, none], [], es11)
              refine along_spec hs_es11 (by omega) (by omega) (by omega) (by omega) (by omega) (by omega) (fun es12 p_es12 => ?_)
              have hs_es12 : sh es12 := p_es12.1
              show aW _ _ _ _ _ _ (206, [some (.ref 143), some (.int (zI dp)), some (.int (zI fm)), some (.int (zI mn)), some (.int (zI ah)), some (.int (zI k)), some (.int (zI n)), some (.int (zI v3)), some (.int (zI v4)), some (.int (zI 1)), some (.int (zI (-1)))], [], es12)
              refine x_iinc (x := (-1)) i_221_206 rfl (by show 10 < 11; decide) ?_
              show aW _ _ _ _ _ _ (209, [some (.ref 143), some (.int (zI dp)), some (.int (zI fm)), some (.int (zI mn)), some (.int (zI ah)), some (.int (zI k)), some (.int (zI n)), some (.int (zI v3)), some (.int (zI v4)), some (.int (zI 1)), some (.int (zI 1))], [], es12)
              refine x0 (r := (187, [some (.ref 143), some (.int (zI dp)), some (.int (zI fm)), some (.int (zI mn)), some (.int (zI ah)), some (.int (zI k)), some (.int (zI n)), some (.int (zI v3)), some (.int (zI v4)), some (.int (zI 1)), some (.int (zI 1))], [], es12)) i_221_209 rfl ?_
              refine x0 (r := (189, [some (.ref 143), some (.int (zI dp)), some (.int (zI fm)), some (.int (zI mn)), some (.int (zI ah)), some (.int (zI k)), some (.int (zI n)), some (.int (zI v3)), some (.int (zI v4)), some (.int (zI 1)), some (.int (zI 1))], [.int (zI 1)], es12)) i_221_187 rfl ?_
              refine x0 (r := (190, [some (.ref 143), some (.int (zI dp)), some (.int (zI fm)), some (.int (zI mn)), some (.int (zI ah)), some (.int (zI k)), some (.int (zI n)), some (.int (zI v3)), some (.int (zI v4)), some (.int (zI 1)), some (.int (zI 1))], [.int (zI 1), .int (zI 1)], es12)) i_221_189 (by rfl) ?_
              refine x_cmpF i_221_190 (by unfold i32 iLO iHI; omega) (by unfold i32 iLO iHI; omega) rfl (by simp only [zC, cR]; omega) ?_
              refine x0 (r := (194, [some (.ref 143), some (.int (zI dp)), some (.int (zI fm)), some (.int (zI mn)), some (.int (zI ah)), some (.int (zI k)), some (.int (zI n)), some (.int (zI v3)), some (.int (zI v4)), some (.int (zI 1)), some (.int (zI 1))], [.ref 143], es12)) i_221_193 rfl ?_
              refine x0 (r := (195, [some (.ref 143), some (.int (zI dp)), some (.int (zI fm)), some (.int (zI mn)), some (.int (zI ah)), some (.int (zI k)), some (.int (zI n)), some (.int (zI v3)), some (.int (zI v4)), some (.int (zI 1)), some (.int (zI 1))], [.int (zI dp), .ref 143], es12)) i_221_194 rfl ?_
              refine x0 (r := (196, [some (.ref 143), some (.int (zI dp)), some (.int (zI fm)), some (.int (zI mn)), some (.int (zI ah)), some (.int (zI k)), some (.int (zI n)), some (.int (zI v3)), some (.int (zI v4)), some (.int (zI 1)), some (.int (zI 1))], [.int (zI fm), .int (zI dp), .ref 143], es12)) i_221_195 rfl ?_
              refine x0 (r := (198, [some (.ref 143), some (.int (zI dp)), some (.int (zI fm)), some (.int (zI mn)), some (.int (zI ah)), some (.int (zI k)), some (.int (zI n)), some (.int (zI v3)), some (.int (zI v4)), some (.int (zI 1)), some (.int (zI 1))], [.int (zI 1), .int (zI fm), .int (zI dp), .ref 143], es12)) i_221_196 rfl ?_
              refine x0 (r := (200, [some (.ref 143), some (.int (zI dp)), some (.int (zI fm)), some (.int (zI mn)), some (.int (zI ah)), some (.int (zI k)), some (.int (zI n)), some (.int (zI v3)), some (.int (zI v4)), some (.int (zI 1)), some (.int (zI 1))], [.int (zI 1), .int (zI 1), .int (zI fm), .int (zI dp), .ref 143], es12)) i_221_198 rfl ?_
              refine x0 (r := (202, [some (.ref 143), some (.int (zI dp)), some (.int (zI fm)), some (.int (zI mn)), some (.int (zI ah)), some (.int (zI k)), some (.int (zI n)), some (.int (zI v3)), some (.int (zI v4)), some (.int (zI 1)), some (.int (zI 1))], [.int (zI v4), .int (zI 1), .int (zI 1), .int (zI fm), .int (zI dp), .ref 143], es12)) i_221_200 rfl ?_
              refine x0 (r := (203, [some (.ref 143), some (.int (zI dp)), some (.int (zI fm)), some (.int (zI mn)), some (.int (zI ah)), some (.int (zI k)), some (.int (zI n)), some (.int (zI v3)), some (.int (zI v4)), some (.int (zI 1)), some (.int (zI 1))], [.int (zI 0), .int (zI v4), .int (zI 1), .int (zI 1), .int (zI fm), .int (zI dp), .ref 143], es12)) i_221_202 (by rfl) ?_
              refine x_call (vs := [.ref 143, .int (zI dp), .int (zI fm), .int (zI 1), .int (zI 1), .int (zI v4), .int (zI 0)]) (rs := []) i_221_203 rfl (fun _ => rfl) rfl rfl rfl rfl rfl (pCall_v (p := 79) hs_es12 rfl rfl rfl rfl rfl (by decide) rfl rfl rfl rfl rfl) ?_
              show aW _ _ _ _ _ _ (0, [some (.ref 143), some (.int (zI dp)), some (.int (zI fm)), some (.int (zI 1)), some (.int (zI 1)), some (.int (zI v4)), some (.int (zI 0)), none, none, none], [], es12)
              refine along_spec hs_es12 (by omega) (by omega) (by omega) (by omega) (by omega) (by omega) (fun es13 p_es13 => ?_)
              have hs_es13 : sh es13 := p_es13.1
              show aW _ _ _ _ _ _ (206, [some (.ref 143), some (.int (zI dp)), some (.int (zI fm)), some (.int (zI mn)), some (.int (zI ah)), some (.int (zI k)), some (.int (zI n)), some (.int (zI v3)), some (.int (zI v4)), some (.int (zI 1)), some (.int (zI 1))], [], es13)
              refine x_iinc (x := 1) i_221_206 rfl (by show 10 < 11; decide) ?_
              show aW _ _ _ _ _ _ (209, [some (.ref 143), some (.int (zI dp)), some (.int (zI fm)), some (.int (zI mn)), some (.int (zI ah)), some (.int (zI k)), some (.int (zI n)), some (.int (zI v3)), some (.int (zI v4)), some (.int (zI 1)), some (.int (zI 3))], [], es13)
              refine x0 (r := (187, [some (.ref 143), some (.int (zI dp)), some (.int (zI fm)), some (.int (zI mn)), some (.int (zI ah)), some (.int (zI k)), some (.int (zI n)), some (.int (zI v3)), some (.int (zI v4)), some (.int (zI 1)), some (.int (zI 3))], [], es13)) i_221_209 rfl ?_
              refine x0 (r := (189, [some (.ref 143), some (.int (zI dp)), some (.int (zI fm)), some (.int (zI mn)), some (.int (zI ah)), some (.int (zI k)), some (.int (zI n)), some (.int (zI v3)), some (.int (zI v4)), some (.int (zI 1)), some (.int (zI 3))], [.int (zI 3)], es13)) i_221_187 rfl ?_
              refine x0 (r := (190, [some (.ref 143), some (.int (zI dp)), some (.int (zI fm)), some (.int (zI mn)), some (.int (zI ah)), some (.int (zI k)), some (.int (zI n)), some (.int (zI v3)), some (.int (zI v4)), some (.int (zI 1)), some (.int (zI 3))], [.int (zI 1), .int (zI 3)], es13)) i_221_189 (by rfl) ?_
              refine x_cmpT i_221_190 (by unfold i32 iLO iHI; omega) (by unfold i32 iLO iHI; omega) rfl (by simp only [zC, cR]; omega) ?_
              refine x_iinc (x := 1) i_221_212 rfl (by show 9 < 11; decide) ?_
              show aW _ _ _ _ _ _ (215, [some (.ref 143), some (.int (zI dp)), some (.int (zI fm)), some (.int (zI mn)), some (.int (zI ah)), some (.int (zI k)), some (.int (zI n)), some (.int (zI v3)), some (.int (zI v4)), some (.int (zI 3)), some (.int (zI 3))], [], es13)
              refine x0 (r := (172, [some (.ref 143), some (.int (zI dp)), some (.int (zI fm)), some (.int (zI mn)), some (.int (zI ah)), some (.int (zI k)), some (.int (zI n)), some (.int (zI v3)), some (.int (zI v4)), some (.int (zI 3)), some (.int (zI 3))], [], es13)) i_221_215 rfl ?_
              refine x0 (r := (174, [some (.ref 143), some (.int (zI dp)), some (.int (zI fm)), some (.int (zI mn)), some (.int (zI ah)), some (.int (zI k)), some (.int (zI n)), some (.int (zI v3)), some (.int (zI v4)), some (.int (zI 3)), some (.int (zI 3))], [.int (zI 3)], es13)) i_221_172 rfl ?_
              refine x0 (r := (175, [some (.ref 143), some (.int (zI dp)), some (.int (zI fm)), some (.int (zI mn)), some (.int (zI ah)), some (.int (zI k)), some (.int (zI n)), some (.int (zI v3)), some (.int (zI v4)), some (.int (zI 3)), some (.int (zI 3))], [.int (zI 1), .int (zI 3)], es13)) i_221_174 (by rfl) ?_
              refine x_cmpT i_221_175 (by unfold i32 iLO iHI; omega) (by unfold i32 iLO iHI; omega) rfl (by simp only [zC, cR]; omega) ?_
              refine x_iinc (x := n) i_221_218 rfl (by show 6 < 11; decide) ?_
              show aW _ _ _ _ _ _ (221, [some (.ref 143), some (.int (zI dp)), some (.int (zI fm)), some (.int (zI mn)), some (.int (zI ah)), some (.int (zI k)), some (.int (zI (n + 1))), some (.int (zI v3)), some (.int (zI v4)), some (.int (zI 3)), some (.int (zI 3))], [], es13)
              refine x0 (r := (35, [some (.ref 143), some (.int (zI dp)), some (.int (zI fm)), some (.int (zI mn)), some (.int (zI ah)), some (.int (zI k)), some (.int (zI (n + 1))), some (.int (zI v3)), some (.int (zI v4)), some (.int (zI 3)), some (.int (zI 3))], [], es13)) i_221_221 rfl ?_
              exact K3 v1 e_v1 c2 v3 e_v3 v4 e_v4 c5 c6 c7 c8 c9 es10 p_es10 es11 p_es11 es12 p_es12 es13 p_es13
          · refine x_ifF i_221_136 (by unfold i32 iLO iHI; omega) rfl (by simp only [zC, cR]; omega) ?_
            refine x0 (r := (140, [some (.ref 143), some (.int (zI dp)), some (.int (zI fm)), some (.int (zI mn)), some (.int (zI ah)), some (.int (zI k)), some (.int (zI n)), some (.int (zI v3)), some (.int (zI v4)), some (.int (zI (-1))), x10], [.ref 143], es)) i_221_139 rfl ?_
            refine x0 (r := (141, [some (.ref 143), some (.int (zI dp)), some (.int (zI fm)), some (.int (zI mn)), some (.int (zI ah)), some (.int (zI k)), some (.int (zI n)), some (.int (zI v3)), some (.int (zI v4)), some (.int (zI (-1))), x10], [.int (zI dp), .ref 143], es)) i_221_140 rfl ?_
            refine x0 (r := (142, [some (.ref 143), some (.int (zI dp)), some (.int (zI fm)), some (.int (zI mn)), some (.int (zI ah)), some (.int (zI k)), some (.int (zI n)), some (.int (zI v3)), some (.int (zI v4)), some (.int (zI (-1))), x10], [.int (zI fm), .int (zI dp), .ref 143], es)) i_221_141 rfl ?_
            refine x0 (r := (144, [some (.ref 143), some (.int (zI dp)), some (.int (zI fm)), some (.int (zI mn)), some (.int (zI ah)), some (.int (zI k)), some (.int (zI n)), some (.int (zI v3)), some (.int (zI v4)), some (.int (zI (-1))), x10], [.int (zI (-1)), .int (zI fm), .int (zI dp), .ref 143], es)) i_221_142 rfl ?_
            refine x0 (r := (145, [some (.ref 143), some (.int (zI dp)), some (.int (zI fm)), some (.int (zI mn)), some (.int (zI ah)), some (.int (zI k)), some (.int (zI n)), some (.int (zI v3)), some (.int (zI v4)), some (.int (zI (-1))), x10], [.int (zI 0), .int (zI (-1)), .int (zI fm), .int (zI dp), .ref 143], es)) i_221_144 (by rfl) ?_
            refine x0 (r := (147, [some (.ref 143), some (.int (zI dp)), some (.int (zI fm)), some (.int (zI mn)), some (.int (zI ah)), some (.int (zI k)), some (.int (zI n)), some (.int (zI v3)), some (.int (zI v4)), some (.int (zI (-1))), x10], [.int (zI v4), .int (zI 0), .int (zI (-1)), .int (zI fm), .int (zI dp), .ref 143], es)) i_221_145 rfl ?_
            refine x0 (r := (148, [some (.ref 143), some (.int (zI dp)), some (.int (zI fm)), some (.int (zI mn)), some (.int (zI ah)), some (.int (zI k)), some (.int (zI n)), some (.int (zI v3)), some (.int (zI v4)), some (.int (zI (-1))), x10], [.int (zI 0), .int (zI v4), .int (zI 0), .int (zI (-1)), .int (zI fm), .int (zI dp), .ref 143], es)) i_221_147 (by rfl) ?_
            refine x_call (vs := [.ref 143, .int (zI dp), .int (zI fm), .int (zI (-1)), .int (zI 0), .int (zI v4), .int (zI 0)]) (rs := []) i_221_148 rfl (fun _ => rfl) rfl rfl rfl rfl rfl (pCall_v (p := 79) hs_es rfl rfl rfl rfl rfl (by decide) rfl rfl rfl rfl rfl) ?_
            show aW _ _ _ _ _ _ (0, [some (.ref 143), some (.int (zI dp)), some (.int (zI fm)), some (.int (zI (-1))), some (.int (zI 0)), some (.int (zI v4)), some (.int (zI 0)), none, none, none], [], es)
            refine along_spec hs_es (by omega) (by omega) (by omega) (by omega) (by omega) (by omega) (fun es14 p_es14 => ?_)
            have hs_es14 : sh es14 := p_es14.1
            show aW _ _ _ _ _ _ (151, [some (.ref 143), some (.int (zI dp)), some (.int (zI fm)), some (.int (zI mn)), some (.int (zI ah)), some (.int (zI k)), some (.int (zI n)), some (.int (zI v3)), some (.int (zI v4)), some (.int (zI (-1))), x10], [], es14)
            refine x0 (r := (152, [some (.ref 143), some (.int (zI dp)), some (.int (zI fm)), some (.int (zI mn)), some (.int (zI ah)), some (.int (zI k)), some (.int (zI n)), some (.int (zI v3)), some (.int (zI v4)), some (.int (zI (-1))), x10], [.ref 143], es14)) i_221_151 rfl ?_
            refine x0 (r := (153, [some (.ref 143), some (.int (zI dp)), some (.int (zI fm)), some (.int (zI mn)), some (.int (zI ah)), some (.int (zI k)), some (.int (zI n)), some (.int (zI v3)), some (.int (zI v4)), some (.int (zI (-1))), x10], [.int (zI dp), .ref 143], es14)) i_221_152 rfl ?_
            refine x0 (r := (154, [some (.ref 143), some (.int (zI dp)), some (.int (zI fm)), some (.int (zI mn)), some (.int (zI ah)), some (.int (zI k)), some (.int (zI n)), some (.int (zI v3)), some (.int (zI v4)), some (.int (zI (-1))), x10], [.int (zI fm), .int (zI dp), .ref 143], es14)) i_221_153 rfl ?_
            refine x0 (r := (155, [some (.ref 143), some (.int (zI dp)), some (.int (zI fm)), some (.int (zI mn)), some (.int (zI ah)), some (.int (zI k)), some (.int (zI n)), some (.int (zI v3)), some (.int (zI v4)), some (.int (zI (-1))), x10], [.int (zI 0), .int (zI fm), .int (zI dp), .ref 143], es14)) i_221_154 (by rfl) ?_
            refine x0 (r := (157, [some (.ref 143), some (.int (zI dp)), some (.int (zI fm)), some (.int (zI mn)), some (.int (zI ah)), some (.int (zI k)), some (.int (zI n)), some (.int (zI v3)), some (.int (zI v4)), some (.int (zI (-1))), x10], [.int (zI (-1)), .int (zI 0), .int (zI fm), .int (zI dp), .ref 143], es14)) i_221_155 rfl ?_
            refine x0 (r := (159, [some (.ref 143), some (.int (zI dp)), some (.int (zI fm)), some (.int (zI mn)), some (.int (zI ah)), some (.int (zI k)), some (.int (zI n)), some (.int (zI v3)), some (.int (zI v4)), some (.int (zI (-1))), x10], [.int (zI v4), .int (zI (-1)), .int (zI 0), .int (zI fm), .int (zI dp), .ref 143], es14)) i_221_157 rfl ?_
            refine x0 (r := (160, [some (.ref 143), some (.int (zI dp)), some (.int (zI fm)), some (.int (zI mn)), some (.int (zI ah)), some (.int (zI k)), some (.int (zI n)), some (.int (zI v3)), some (.int (zI v4)), some (.int (zI (-1))), x10], [.int (zI 0), .int (zI v4), .int (zI (-1)), .int (zI 0), .int (zI fm), .int (zI dp), .ref 143], es14)) i_221_159 (by rfl) ?_
            refine x_call (vs := [.ref 143, .int (zI dp), .int (zI fm), .int (zI 0), .int (zI (-1)), .int (zI v4), .int (zI 0)]) (rs := []) i_221_160 rfl (fun _ => rfl) rfl rfl rfl rfl rfl (pCall_v (p := 79) hs_es14 rfl rfl rfl rfl rfl (by decide) rfl rfl rfl rfl rfl) ?_
            show aW _ _ _ _ _ _ (0, [some (.ref 143), some (.int (zI dp)), some (.int (zI fm)), some (.int (zI 0)), some (.int (zI (-1))), some (.int (zI v4)), some (.int (zI 0)), none, none, none], [], es14)
            refine along_spec hs_es14 (by omega) (by omega) (by omega) (by omega) (by omega) (by omega) (fun es15 p_es15 => ?_)
            have hs_es15 : sh es15 := p_es15.1
            show aW _ _ _ _ _ _ (163, [some (.ref 143), some (.int (zI dp)), some (.int (zI fm)), some (.int (zI mn)), some (.int (zI ah)), some (.int (zI k)), some (.int (zI n)), some (.int (zI v3)), some (.int (zI v4)), some (.int (zI (-1))), x10], [], es15)
            refine x_iinc (x := (-1)) i_221_163 rfl (by show 9 < 11; decide) ?_
            show aW _ _ _ _ _ _ (166, [some (.ref 143), some (.int (zI dp)), some (.int (zI fm)), some (.int (zI mn)), some (.int (zI ah)), some (.int (zI k)), some (.int (zI n)), some (.int (zI v3)), some (.int (zI v4)), some (.int (zI 1)), x10], [], es15)
            refine x0 (r := (128, [some (.ref 143), some (.int (zI dp)), some (.int (zI fm)), some (.int (zI mn)), some (.int (zI ah)), some (.int (zI k)), some (.int (zI n)), some (.int (zI v3)), some (.int (zI v4)), some (.int (zI 1)), x10], [], es15)) i_221_166 rfl ?_
            refine x0 (r := (130, [some (.ref 143), some (.int (zI dp)), some (.int (zI fm)), some (.int (zI mn)), some (.int (zI ah)), some (.int (zI k)), some (.int (zI n)), some (.int (zI v3)), some (.int (zI v4)), some (.int (zI 1)), x10], [.int (zI 1)], es15)) i_221_128 rfl ?_
            refine x0 (r := (131, [some (.ref 143), some (.int (zI dp)), some (.int (zI fm)), some (.int (zI mn)), some (.int (zI ah)), some (.int (zI k)), some (.int (zI n)), some (.int (zI v3)), some (.int (zI v4)), some (.int (zI 1)), x10], [.int (zI 1), .int (zI 1)], es15)) i_221_130 (by rfl) ?_
            refine x_cmpF i_221_131 (by unfold i32 iLO iHI; omega) (by unfold i32 iLO iHI; omega) rfl (by simp only [zC, cR]; omega) ?_
            refine x0 (r := (136, [some (.ref 143), some (.int (zI dp)), some (.int (zI fm)), some (.int (zI mn)), some (.int (zI ah)), some (.int (zI k)), some (.int (zI n)), some (.int (zI v3)), some (.int (zI v4)), some (.int (zI 1)), x10], [.int (zI v3)], es15)) i_221_134 rfl ?_
            refine x_ifF i_221_136 (by unfold i32 iLO iHI; omega) rfl (by simp only [zC, cR]; omega) ?_
            refine x0 (r := (140, [some (.ref 143), some (.int (zI dp)), some (.int (zI fm)), some (.int (zI mn)), some (.int (zI ah)), some (.int (zI k)), some (.int (zI n)), some (.int (zI v3)), some (.int (zI v4)), some (.int (zI 1)), x10], [.ref 143], es15)) i_221_139 rfl ?_
            refine x0 (r := (141, [some (.ref 143), some (.int (zI dp)), some (.int (zI fm)), some (.int (zI mn)), some (.int (zI ah)), some (.int (zI k)), some (.int (zI n)), some (.int (zI v3)), some (.int (zI v4)), some (.int (zI 1)), x10], [.int (zI dp), .ref 143], es15)) i_221_140 rfl ?_
            refine x0 (r := (142, [some (.ref 143), some (.int (zI dp)), some (.int (zI fm)), some (.int (zI mn)), some (.int (zI ah)), some (.int (zI k)), some (.int (zI n)), some (.int (zI v3)), some (.int (zI v4)), some (.int (zI 1)), x10], [.int (zI fm), .int (zI dp), .ref 143], es15)) i_221_141 rfl ?_
            refine x0 (r := (144, [some (.ref 143), some (.int (zI dp)), some (.int (zI fm)), some (.int (zI mn)), some (.int (zI ah)), some (.int (zI k)), some (.int (zI n)), some (.int (zI v3)), some (.int (zI v4)), some (.int (zI 1)), x10], [.int (zI 1), .int (zI fm), .int (zI dp), .ref 143], es15)) i_221_142 rfl ?_
            refine x0 (r := (145, [some (.ref 143), some (.int (zI dp)), some (.int (zI fm)), some (.int (zI mn)), some (.int (zI ah)), some (.int (zI k)), some (.int (zI n)), some (.int (zI v3)), some (.int (zI v4)), some (.int (zI 1)), x10], [.int (zI 0), .int (zI 1), .int (zI fm), .int (zI dp), .ref 143], es15)) i_221_144 (by rfl) ?_
            refine x0 (r := (147, [some (.ref 143), some (.int (zI dp)), some (.int (zI fm)), some (.int (zI mn)), some (.int (zI ah)), some (.int (zI k)), some (.int (zI n)), some (.int (zI v3)), some (.int (zI v4)), some (.int (zI 1)), x10], [.int (zI v4), .int (zI 0), .int (zI 1), .int (zI fm), .int (zI dp), .ref 143], es15)) i_221_145 rfl ?_
            refine x0 (r := (148, [some (.ref 143), some (.int (zI dp)), some (.int (zI fm)), some (.int (zI mn)), some (.int (zI ah)), some (.int (zI k)), some (.int (zI n)), some (.int (zI v3)), some (.int (zI v4)), some (.int (zI 1)), x10], [.int (zI 0), .int (zI v4), .int (zI 0), .int (zI 1), .int (zI fm), .int (zI dp), .ref 143], es15)) i_221_147 (by rfl) ?_
            refine x_call (vs := [.ref 143, .int (zI dp), .int (zI fm), .int (zI 1), .int (zI 0), .int (zI v4), .int (zI 0)]) (rs := []) i_221_148 rfl (fun _ => rfl) rfl rfl rfl rfl rfl (pCall_v (p := 79) hs_es15 rfl rfl rfl rfl rfl (by decide) rfl rfl rfl rfl rfl) ?_
            show aW _ _ _ _ _ _ (0, [some (.ref 143), some (.int (zI dp)), some (.int (zI fm)), some (.int (zI 1)), some (.int (zI 0)), some (.int (zI v4)), some (.int (zI 0)), none, none, none], [], es15)
            refine along_spec hs_es15 (by omega) (by omega) (by omega) (by omega) (by omega) (by omega) (fun es16 p_es16 => ?_)
            have hs_es16 : sh es16 := p_es16.1
            show aW _ _ _ _ _ _ (151, [some (.ref 143), some (.int (zI dp)), some (.int (zI fm)), some (.int (zI mn)), some (.int (zI ah)), some (.int (zI k)), some (.int (zI n)), some (.int (zI v3)), some (.int (zI v4)), some (.int (zI 1)), x10], [], es16)
            refine x0 (r := (152, [some (.ref 143), some (.int (zI dp)), some (.int (zI fm)), some (.int (zI mn)), some (.int (zI ah)), some (.int (zI k)), some (.int (zI n)), some (.int (zI v3)), some (.int (zI v4)), some (.int (zI 1)), x10], [.ref 143], es16)) i_221_151 rfl ?_
            refine x0 (r := (153, [some (.ref 143), some (.int (zI dp)), some (.int (zI fm)), some (.int (zI mn)), some (.int (zI ah)), some (.int (zI k)), some (.int (zI n)), some (.int (zI v3)), some (.int (zI v4)), some (.int (zI 1)), x10], [.int (zI dp), .ref 143], es16)) i_221_152 rfl ?_
            refine x0 (r := (154, [some (.ref 143), some (.int (zI dp)), some (.int (zI fm)), some (.int (zI mn)), some (.int (zI ah)), some (.int (zI k)), some (.int (zI n)), some (.int (zI v3)), some (.int (zI v4)), some (.int (zI 1)), x10], [.int (zI fm), .int (zI dp), .ref 143], es16)) i_221_153 rfl ?_
            refine x0 (r := (155, [some (.ref 143), some (.int (zI dp)), some (.int (zI fm)), some (.int (zI mn)), some (.int (zI ah)), some (.int (zI k)), some (.int (zI n)), some (.int (zI v3)), some (.int (zI v4)), some (.int (zI 1)), x10], [.int (zI 0), .int (zI fm), .int (zI dp), .ref 143], es16)) i_221_154 (by rfl) ?_
            refine x0 (r := (157, [some (.ref 143), some (.int (zI dp)), some (.int (zI fm)), some (.int (zI mn)), some (.int (zI ah)), some (.int (zI k)), some (.int (zI n)), some (.int (zI v3)), some (.int (zI v4)), some (.int (zI 1)), x10], [.int (zI 1), .int (zI 0), .int (zI fm), .int (zI dp), .ref 143], es16)) i_221_155 rfl ?_
            refine x0 (r := (159, [some (.ref 143), some (.int (zI dp)), some (.int (zI fm)), some (.int (zI mn)), some (.int (zI ah)), some (.int (zI k)), some (.int (zI n)), some (.int (zI v3)), some (.int (zI v4)), some (.int (zI 1)), x10], [.int (zI v4), .int (zI 1), .int (zI 0), .int (zI fm), .int (zI dp), .ref 143], es16)) i_221_157 rfl ?_
            refine x0 (r := (160, [some (.ref 143), some (.int (zI dp)), some (.int (zI fm)), some (.int (zI mn)), some (.int (zI ah)), some (.int (zI k)), some (.int (zI n)), some (.int (zI v3)), some (.int (zI v4)), some (.int (zI 1)), x10], [.int (zI 0), .int (zI v4), .int (zI 1), .int (zI 0), .int (zI fm), .int (zI dp), .ref 143], es16)) i_221_159 (by rfl) ?_
            refine x_call (vs := [.ref 143, .int (zI dp), .int (zI fm), .int (zI 0), .int (zI 1), .int (zI v4), .int (zI 0)]) (rs := []) i_221_160 rfl (fun _ => rfl) rfl rfl rfl rfl rfl (pCall_v (p := 79) hs_es16 rfl rfl rfl rfl rfl (by decide) rfl rfl rfl rfl rfl) ?_
            show aW _ _ _ _ _ _ (0, [some (.ref 143), some (.int (zI dp)), some (.int (zI fm)), some (.int (zI 0)), some (.int (zI 1)), some (.int (zI v4)), some (.int (zI 0)), none, none, none], [], es16)
            refine along_spec hs_es16 (by omega) (by omega) (by omega) (by omega) (by omega) (by omega) (fun es17 p_es17 => ?_)
            have hs_es17 : sh es17 := p_es17.1
            show aW _ _ _ _ _ _ (163, [some (.ref 143), some (.int (zI dp)), some (.int (zI fm)), some (.int (zI mn)), some (.int (zI ah)), some (.int (zI k)), some (.int (zI n)), some (.int (zI v3)), some (.int (zI v4)), some (.int (zI 1)), x10], [], es17)
            refine x_iinc (x := 1) i_221_163 rfl (by show 9 < 11; decide) ?_
            show aW _ _ _ _ _ _ (166, [some (.ref 143), some (.int (zI dp)), some (.int (zI fm)), some (.int (zI mn)), some (.int (zI ah)), some (.int (zI k)), some (.int (zI n)), some (.int (zI v3)), some (.int (zI v4)), some (.int (zI 3)), x10], [], es17)
            refine x0 (r := (128, [some (.ref 143), some (.int (zI dp)), some (.int (zI fm)), some (.int (zI mn)), some (.int (zI ah)), some (.int (zI k)), some (.int (zI n)), some (.int (zI v3)), some (.int (zI v4)), some (.int (zI 3)), x10], [], es17)) i_221_166 rfl ?_
            refine x0 (r := (130, [some (.ref 143), some (.int (zI dp)), some (.int (zI fm)), some (.int (zI mn)), some (.int (zI ah)), some (.int (zI k)), some (.int (zI n)), some (.int (zI v3)), some (.int (zI v4)), some (.int (zI 3)), x10], [.int (zI 3)], es17)) i_221_128 rfl ?_
            refine x0 (r := (131, [some (.ref 143), some (.int (zI dp)), some (.int (zI fm)), some (.int (zI mn)), some (.int (zI ah)), some (.int (zI k)), some (.int (zI n)), some (.int (zI v3)), some (.int (zI v4)), some (.int (zI 3)), x10], [.int (zI 1), .int (zI 3)], es17)) i_221_130 (by rfl) ?_
            refine x_cmpT i_221_131 (by unfold i32 iLO iHI; omega) (by unfold i32 iLO iHI; omega) rfl (by simp only [zC, cR]; omega) ?_
            refine x0 (r := (170, [some (.ref 143), some (.int (zI dp)), some (.int (zI fm)), some (.int (zI mn)), some (.int (zI ah)), some (.int (zI k)), some (.int (zI n)), some (.int (zI v3)), some (.int (zI v4)), some (.int (zI 3)), x10], [.int (zI (-1))], es17)) i_221_169 (by rfl) ?_
            refine x0 (r := (172, [some (.ref 143), some (.int (zI dp)), some (.int (zI fm)), some (.int (zI mn)), some (.int (zI ah)), some (.int (zI k)), some (.int (zI n)), some (.int (zI v3)), some (.int (zI v4)), some (.int (zI (-1))), x10], [], es17)) i_221_170 rfl ?_
            refine x0 (r := (174, [some (.ref 143), some (.int (zI dp)), some (.int (zI fm)), some (.int (zI mn)), some (.int (zI ah)), some (.int (zI k)), some (.int (zI n)), some (.int (zI v3)), some (.int (zI v4)), some (.int (zI (-1))), x10], [.int (zI (-1))], es17)) i_221_172 rfl ?_
            refine x0 (r := (175, [some (.ref 143), some (.int (zI dp)), some (.int (zI fm)), some (.int (zI mn)), some (.int (zI ah)), some (.int (zI k)), some (.int (zI n)), some (.int (zI v3)), some (.int (zI v4)), some (.int (zI (-1))), x10], [.int (zI 1), .int (zI (-1))], es17)) i_221_174 (by rfl) ?_
            refine x_cmpF i_221_175 (by unfold i32 iLO iHI; omega) (by unfold i32 iLO iHI; omega) rfl (by simp only [zC, cR]; omega) ?_
            refine x0 (r := (180, [some (.ref 143), some (.int (zI dp)), some (.int (zI fm)), some (.int (zI mn)), some (.int (zI ah)), some (.int (zI k)), some (.int (zI n)), some (.int (zI v3)), some (.int (zI v4)), some (.int (zI (-1))), x10], [.int (zI v3)], es17)) i_221_178 rfl ?_
            refine x0 (r := (181, [some (.ref 143), some (.int (zI dp)), some (.int (zI fm)), some (.int (zI mn)), some (.int (zI ah)), some (.int (zI k)), some (.int (zI n)), some (.int (zI v3)), some (.int (zI v4)), some (.int (zI (-1))), x10], [.int (zI 1), .int (zI v3)], es17)) i_221_180 (by rfl) ?_
            refine x_cmpT i_221_181 (by unfold i32 iLO iHI; omega) (by unfold i32 iLO iHI; omega) rfl (by simp only [zC, cR]; omega) ?_
            refine x_iinc (x := n) i_221_218 rfl (by show 6 < 11; decide) ?_
            show aW _ _ _ _ _ _ (221, [some (.ref 143), some (.int (zI dp)), some (.int (zI fm)), some (.int (zI mn)), some (.int (zI ah)), some (.int (zI k)), some (.int (zI (n + 1))), some (.int (zI v3)), some (.int (zI v4)), some (.int (zI (-1))), x10], [], es17)
            refine x0 (r := (35, [some (.ref 143), some (.int (zI dp)), some (.int (zI fm)), some (.int (zI mn)), some (.int (zI ah)), some (.int (zI k)), some (.int (zI (n + 1))), some (.int (zI v3)), some (.int (zI v4)), some (.int (zI (-1))), x10], [], es17)) i_221_221 rfl ?_
            exact K4 v1 e_v1 c2 v3 e_v3 v4 e_v4 c5 c6 c7 c8 es14 p_es14 es15 p_es15 es16 p_es16 es17 p_es17
        · refine x_cmpF i_221_114 (by unfold i32 iLO iHI; omega) (by unfold i32 iLO iHI; omega) rfl (by simp only [zC, cR]; omega) ?_
          refine x0 (r := (118, [some (.ref 143), some (.int (zI dp)), some (.int (zI fm)), some (.int (zI mn)), some (.int (zI ah)), some (.int (zI k)), some (.int (zI n)), some (.int (zI v3)), some (.int (zI v4)), x9, x10], [.ref 143], es)) i_221_117 rfl ?_
          refine x0 (r := (119, [some (.ref 143), some (.int (zI dp)), some (.int (zI fm)), some (.int (zI mn)), some (.int (zI ah)), some (.int (zI k)), some (.int (zI n)), some (.int (zI v3)), some (.int (zI v4)), x9, x10], [.int (zI dp), .ref 143], es)) i_221_118 rfl ?_
          refine x0 (r := (120, [some (.ref 143), some (.int (zI dp)), some (.int (zI fm)), some (.int (zI mn)), some (.int (zI ah)), some (.int (zI k)), some (.int (zI n)), some (.int (zI v3)), some (.int (zI v4)), x9, x10], [.int (zI fm), .int (zI dp), .ref 143], es)) i_221_119 rfl ?_
          refine x0 (r := (122, [some (.ref 143), some (.int (zI dp)), some (.int (zI fm)), some (.int (zI mn)), some (.int (zI ah)), some (.int (zI k)), some (.int (zI n)), some (.int (zI v3)), some (.int (zI v4)), x9, x10], [.int (zI ah), .int (zI fm), .int (zI dp), .ref 143], es)) i_221_120 rfl ?_
          refine x_call (vs := [.ref 143, .int (zI dp), .int (zI fm), .int (zI ah)]) (rs := []) i_221_122 rfl (fun _ => rfl) rfl rfl rfl rfl rfl (pCall_v (p := 79) hs_es rfl rfl rfl rfl rfl (by decide) rfl rfl rfl rfl rfl) ?_
          show aW _ _ _ _ _ _ (0, [some (.ref 143), some (.int (zI dp)), some (.int (zI fm)), some (.int (zI ah)), none, none], [], es)
          refine bites_spec hs_es (by omega) (by omega) (by omega) (fun es18 p_es18 => ?_)
          have hs_es18 : sh es18 := p_es18.1
          show aW _ _ _ _ _ _ (125, [some (.ref 143), some (.int (zI dp)), some (.int (zI fm)), some (.int (zI mn)), some (.int (zI ah)), some (.int (zI k)), some (.int (zI n)), some (.int (zI v3)), some (.int (zI v4)), x9, x10], [], es18)
          refine x0 (r := (126, [some (.ref 143), some (.int (zI dp)), some (.int (zI fm)), some (.int (zI mn)), some (.int (zI ah)), some (.int (zI k)), some (.int (zI n)), some (.int (zI v3)), some (.int (zI v4)), x9, x10], [.int (zI (-1))], es18)) i_221_125 (by rfl) ?_
          refine x0 (r := (128, [some (.ref 143), some (.int (zI dp)), some (.int (zI fm)), some (.int (zI mn)), some (.int (zI ah)), some (.int (zI k)), some (.int (zI n)), some (.int (zI v3)), some (.int (zI v4)), some (.int (zI (-1))), x10], [], es18)) i_221_126 rfl ?_
          refine x0 (r := (130, [some (.ref 143), some (.int (zI dp)), some (.int (zI fm)), some (.int (zI mn)), some (.int (zI ah)), some (.int (zI k)), some (.int (zI n)), some (.int (zI v3)), some (.int (zI v4)), some (.int (zI (-1))), x10], [.int (zI (-1))], es18)) i_221_128 rfl ?_
          refine x0 (r := (131, [some (.ref 143), some (.int (zI dp)), some (.int (zI fm)), some (.int (zI mn)), some (.int (zI ah)), some (.int (zI k)), some (.int (zI n)), some (.int (zI v3)), some (.int (zI v4)), some (.int (zI (-1))), x10], [.int (zI 1), .int (zI (-1))], es18)) i_221_130 (by rfl) ?_
          refine x_cmpF i_221_131 (by unfold i32 iLO iHI; omega) (by unfold i32 iLO iHI; omega) rfl (by simp only [zC, cR]; omega) ?_
          refine x0 (r := (136, [some (.ref 143), some (.int (zI dp)), some (.int (zI fm)), some (.int (zI mn)), some (.int (zI ah)), some (.int (zI k)), some (.int (zI n)), some (.int (zI v3)), some (.int (zI v4)), some (.int (zI (-1))), x10], [.int (zI v3)], es18)) i_221_134 rfl ?_
          refine x_ifT i_221_136 (by unfold i32 iLO iHI; omega) rfl (by simp only [zC, cR]; omega) ?_
          refine x0 (r := (170, [some (.ref 143), some (.int (zI dp)), some (.int (zI fm)), some (.int (zI mn)), some (.int (zI ah)), some (.int (zI k)), some (.int (zI n)), some (.int (zI v3)), some (.int (zI v4)), some (.int (zI (-1))), x10], [.int (zI (-1))], es18)) i_221_169 (by rfl) ?_
          refine x0 (r := (172, [some (.ref 143), some (.int (zI dp)), some (.int (zI fm)), some (.int (zI mn)), some (.int (zI ah)), some (.int (zI k)), some (.int (zI n)), some (.int (zI v3)), some (.int (zI v4)), some (.int (zI (-1))), x10], [], es18)) i_221_170 rfl ?_
          refine x0 (r := (174, [some (.ref 143), some (.int (zI dp)), some (.int (zI fm)), some (.int (zI mn)), some (.int (zI ah)), some (.int (zI k)), some (.int (zI n)), some (.int (zI v3)), some (.int (zI v4)), some (.int (zI (-1))), x10], [.int (zI (-1))], es18)) i_221_172 rfl ?_
          refine x0 (r := (175, [some (.ref 143), some (.int (zI dp)), some (.int (zI fm)), some (.int (zI mn)), some (.int (zI ah)), some (.int (zI k)), some (.int (zI n)), some (.int (zI v3)), some (.int (zI v4)), some (.int (zI (-1))), x10], [.int (zI 1), .int (zI (-1))], es18)) i_221_174 (by rfl) ?_
          refine x_cmpF i_221_175 (by unfold i32 iLO iHI; omega) (by unfold i32 iLO iHI; omega) rfl (by simp only [zC, cR]; omega) ?_
          refine x0 (r := (180, [some (.ref 143), some (.int (zI dp)), some (.int (zI fm)), some (.int (zI mn)), some (.int (zI ah)), some (.int (zI k)), some (.int (zI n)), some (.int (zI v3)), some (.int (zI v4)), some (.int (zI (-1))), x10], [.int (zI v3)], es18)) i_221_178 rfl ?_
          refine x0 (r := (181, [some (.ref 143), some (.int (zI dp)), some (.int (zI fm)), some (.int (zI mn)), some (.int (zI ah)), some (.int (zI k)), some (.int (zI n)), some (.int (zI v3)), some (.int (zI v4)), some (.int (zI (-1))), x10], [.int (zI 1), .int (zI v3)], es18)) i_221_180 (by rfl) ?_
          refine x_cmpT i_221_181 (by unfold i32 iLO iHI; omega) (by unfold i32 iLO iHI; omega) rfl (by simp only [zC, cR]; omega) ?_
          refine x_iinc (x := n) i_221_218 rfl (by show 6 < 11; decide) ?_
          show aW _ _ _ _ _ _ (221, [some (.ref 143), some (.int (zI dp)), some (.int (zI fm)), some (.int (zI mn)), some (.int (zI ah)), some (.int (zI k)), some (.int (zI (n + 1))), some (.int (zI v3)), some (.int (zI v4)), some (.int (zI (-1))), x10], [], es18)
          refine x0 (r := (35, [some (.ref 143), some (.int (zI dp)), some (.int (zI fm)), some (.int (zI mn)), some (.int (zI ah)), some (.int (zI k)), some (.int (zI (n + 1))), some (.int (zI v3)), some (.int (zI v4)), some (.int (zI (-1))), x10], [], es18)) i_221_221 rfl ?_
          exact K5 v1 e_v1 c2 v3 e_v3 v4 e_v4 c5 c6 c7 es18 p_es18
      · refine x_cmpF i_221_102 (by unfold i32 iLO iHI; omega) (by unfold i32 iLO iHI; omega) rfl (by simp only [zC, cR]; omega) ?_
        refine x0 (r := (106, [some (.ref 143), some (.int (zI dp)), some (.int (zI fm)), some (.int (zI mn)), some (.int (zI ah)), some (.int (zI k)), some (.int (zI n)), some (.int (zI v3)), some (.int (zI v4)), x9, x10], [.ref 143], es)) i_221_105 rfl ?_
        refine x0 (r := (107, [some (.ref 143), some (.int (zI dp)), some (.int (zI fm)), some (.int (zI mn)), some (.int (zI ah)), some (.int (zI k)), some (.int (zI n)), some (.int (zI v3)), some (.int (zI v4)), x9, x10], [.int (zI dp), .ref 143], es)) i_221_106 rfl ?_
        refine x0 (r := (108, [some (.ref 143), some (.int (zI dp)), some (.int (zI fm)), some (.int (zI mn)), some (.int (zI ah)), some (.int (zI k)), some (.int (zI n)), some (.int (zI v3)), some (.int (zI v4)), x9, x10], [.int (zI fm), .int (zI dp), .ref 143], es)) i_221_107 rfl ?_
        refine x_call (vs := [.ref 143, .int (zI dp), .int (zI fm)]) (rs := []) i_221_108 rfl (fun _ => rfl) rfl rfl rfl rfl rfl (pCall_v (p := 79) hs_es rfl rfl rfl rfl rfl (by decide) rfl rfl rfl rfl rfl) ?_
        show aW _ _ _ _ _ _ (0, [some (.ref 143), some (.int (zI dp)), some (.int (zI fm)), none, none], [], es)
        refine leaps_spec hs_es (by omega) (by omega) (fun es19 p_es19 => ?_)
        have hs_es19 : sh es19 := p_es19.1
        show aW _ _ _ _ _ _ (111, [some (.ref 143), some (.int (zI dp)), some (.int (zI fm)), some (.int (zI mn)), some (.int (zI ah)), some (.int (zI k)), some (.int (zI n)), some (.int (zI v3)), some (.int (zI v4)), x9, x10], [], es19)
        refine x0 (r := (113, [some (.ref 143), some (.int (zI dp)), some (.int (zI fm)), some (.int (zI mn)), some (.int (zI ah)), some (.int (zI k)), some (.int (zI n)), some (.int (zI v3)), some (.int (zI v4)), x9, x10], [.int (zI v3)], es19)) i_221_111 rfl ?_
        refine x0 (r := (114, [some (.ref 143), some (.int (zI dp)), some (.int (zI fm)), some (.int (zI mn)), some (.int (zI ah)), some (.int (zI k)), some (.int (zI n)), some (.int (zI v3)), some (.int (zI v4)), x9, x10], [.int (zI 4), .int (zI v3)], es19)) i_221_113 (by rfl) ?_
        refine x_cmpT i_221_114 (by unfold i32 iLO iHI; omega) (by unfold i32 iLO iHI; omega) rfl (by simp only [zC, cR]; omega) ?_
        refine x0 (r := (126, [some (.ref 143), some (.int (zI dp)), some (.int (zI fm)), some (.int (zI mn)), some (.int (zI ah)), some (.int (zI k)), some (.int (zI n)), some (.int (zI v3)), some (.int (zI v4)), x9, x10], [.int (zI (-1))], es19)) i_221_125 (by rfl) ?_
        refine x0 (r := (128, [some (.ref 143), some (.int (zI dp)), some (.int (zI fm)), some (.int (zI mn)), some (.int (zI ah)), some (.int (zI k)), some (.int (zI n)), some (.int (zI v3)), some (.int (zI v4)), some (.int (zI (-1))), x10], [], es19)) i_221_126 rfl ?_
        refine x0 (r := (130, [some (.ref 143), some (.int (zI dp)), some (.int (zI fm)), some (.int (zI mn)), some (.int (zI ah)), some (.int (zI k)), some (.int (zI n)), some (.int (zI v3)), some (.int (zI v4)), some (.int (zI (-1))), x10], [.int (zI (-1))], es19)) i_221_128 rfl ?_
        refine x0 (r := (131, [some (.ref 143), some (.int (zI dp)), some (.int (zI fm)), some (.int (zI mn)), some (.int (zI ah)), some (.int (zI k)), some (.int (zI n)), some (.int (zI v3)), some (.int (zI v4)), some (.int (zI (-1))), x10], [.int (zI 1), .int (zI (-1))], es19)) i_221_130 (by rfl) ?_
        refine x_cmpF i_221_131 (by unfold i32 iLO iHI; omega) (by unfold i32 iLO iHI; omega) rfl (by simp only [zC, cR]; omega) ?_
        refine x0 (r := (136, [some (.ref 143), some (.int (zI dp)), some (.int (zI fm)), some (.int (zI mn)), some (.int (zI ah)), some (.int (zI k)), some (.int (zI n)), some (.int (zI v3)), some (.int (zI v4)), some (.int (zI (-1))), x10], [.int (zI v3)], es19)) i_221_134 rfl ?_
        refine x_ifT i_221_136 (by unfold i32 iLO iHI; omega) rfl (by simp only [zC, cR]; omega) ?_
        refine x0 (r := (170, [some (.ref 143), some (.int (zI dp)), some (.int (zI fm)), some (.int (zI mn)), some (.int (zI ah)), some (.int (zI k)), some (.int (zI n)), some (.int (zI v3)), some (.int (zI v4)), some (.int (zI (-1))), x10], [.int (zI (-1))], es19)) i_221_169 (by rfl) ?_
        refine x0 (r := (172, [some (.ref 143), some (.int (zI dp)), some (.int (zI fm)), some (.int (zI mn)), some (.int (zI ah)), some (.int (zI k)), some (.int (zI n)), some (.int (zI v3)), some (.int (zI v4)), some (.int (zI (-1))), x10], [], es19)) i_221_170 rfl ?_
        refine x0 (r := (174, [some (.ref 143), some (.int (zI dp)), some (.int (zI fm)), some (.int (zI mn)), some (.int (zI ah)), some (.int (zI k)), some (.int (zI n)), some (.int (zI v3)), some (.int (zI v4)), some (.int (zI (-1))), x10], [.int (zI (-1))], es19)) i_221_172 rfl ?_
        refine x0 (r := (175, [some (.ref 143), some (.int (zI dp)), some (.int (zI fm)), some (.int (zI mn)), some (.int (zI ah)), some (.int (zI k)), some (.int (zI n)), some (.int (zI v3)), some (.int (zI v4)), some (.int (zI (-1))), x10], [.int (zI 1), .int (zI (-1))], es19)) i_221_174 (by rfl) ?_
        refine x_cmpF i_221_175 (by unfold i32 iLO iHI; omega) (by unfold i32 iLO iHI; omega) rfl (by simp only [zC, cR]; omega) ?_
        refine x0 (r := (180, [some (.ref 143), some (.int (zI dp)), some (.int (zI fm)), some (.int (zI mn)), some (.int (zI ah)), some (.int (zI k)), some (.int (zI n)), some (.int (zI v3)), some (.int (zI v4)), some (.int (zI (-1))), x10], [.int (zI v3)], es19)) i_221_178 rfl ?_
        refine x0 (r := (181, [some (.ref 143), some (.int (zI dp)), some (.int (zI fm)), some (.int (zI mn)), some (.int (zI ah)), some (.int (zI k)), some (.int (zI n)), some (.int (zI v3)), some (.int (zI v4)), some (.int (zI (-1))), x10], [.int (zI 1), .int (zI v3)], es19)) i_221_180 (by rfl) ?_
        refine x_cmpT i_221_181 (by unfold i32 iLO iHI; omega) (by unfold i32 iLO iHI; omega) rfl (by simp only [zC, cR]; omega) ?_
        refine x_iinc (x := n) i_221_218 rfl (by show 6 < 11; decide) ?_
        show aW _ _ _ _ _ _ (221, [some (.ref 143), some (.int (zI dp)), some (.int (zI fm)), some (.int (zI mn)), some (.int (zI ah)), some (.int (zI k)), some (.int (zI (n + 1))), some (.int (zI v3)), some (.int (zI v4)), some (.int (zI (-1))), x10], [], es19)
        refine x0 (r := (35, [some (.ref 143), some (.int (zI dp)), some (.int (zI fm)), some (.int (zI mn)), some (.int (zI ah)), some (.int (zI k)), some (.int (zI (n + 1))), some (.int (zI v3)), some (.int (zI v4)), some (.int (zI (-1))), x10], [], es19)) i_221_221 rfl ?_
        exact K6 v1 e_v1 c2 v3 e_v3 v4 e_v4 c5 c6 es19 p_es19
    · refine x_cmpF i_221_84 (by unfold i32 iLO iHI; omega) (by unfold i32 iLO iHI; omega) rfl (by simp only [zC, cR]; omega) ?_
      refine x0 (r := (88, [some (.ref 143), some (.int (zI dp)), some (.int (zI fm)), some (.int (zI mn)), some (.int (zI ah)), some (.int (zI k)), some (.int (zI n)), some (.int (zI v3)), some (.int (zI v4)), x9, x10], [.ref 143], es)) i_221_87 rfl ?_
      refine x0 (r := (89, [some (.ref 143), some (.int (zI dp)), some (.int (zI fm)), some (.int (zI mn)), some (.int (zI ah)), some (.int (zI k)), some (.int (zI n)), some (.int (zI v3)), some (.int (zI v4)), x9, x10], [.int (zI dp), .ref 143], es)) i_221_88 rfl ?_
      refine x0 (r := (90, [some (.ref 143), some (.int (zI dp)), some (.int (zI fm)), some (.int (zI mn)), some (.int (zI ah)), some (.int (zI k)), some (.int (zI n)), some (.int (zI v3)), some (.int (zI v4)), x9, x10], [.int (zI fm), .int (zI dp), .ref 143], es)) i_221_89 rfl ?_
      refine x0 (r := (91, [some (.ref 143), some (.int (zI dp)), some (.int (zI fm)), some (.int (zI mn)), some (.int (zI ah)), some (.int (zI k)), some (.int (zI n)), some (.int (zI v3)), some (.int (zI v4)), x9, x10], [.int (zI 0), .int (zI fm), .int (zI dp), .ref 143], es)) i_221_90 (by rfl) ?_
      refine x0 (r := (93, [some (.ref 143), some (.int (zI dp)), some (.int (zI fm)), some (.int (zI mn)), some (.int (zI ah)), some (.int (zI k)), some (.int (zI n)), some (.int (zI v3)), some (.int (zI v4)), x9, x10], [.int (zI ah), .int (zI 0), .int (zI fm), .int (zI dp), .ref 143], es)) i_221_91 rfl ?_
      refine x0 (r := (95, [some (.ref 143), some (.int (zI dp)), some (.int (zI fm)), some (.int (zI mn)), some (.int (zI ah)), some (.int (zI k)), some (.int (zI n)), some (.int (zI v3)), some (.int (zI v4)), x9, x10], [.int (zI v4), .int (zI ah), .int (zI 0), .int (zI fm), .int (zI dp), .ref 143], es)) i_221_93 rfl ?_
      refine x0 (r := (96, [some (.ref 143), some (.int (zI dp)), some (.int (zI fm)), some (.int (zI mn)), some (.int (zI ah)), some (.int (zI k)), some (.int (zI n)), some (.int (zI v3)), some (.int (zI v4)), x9, x10], [.int (zI 1), .int (zI v4), .int (zI ah), .int (zI 0), .int (zI fm), .int (zI dp), .ref 143], es)) i_221_95 (by rfl) ?_
      refine x_call (vs := [.ref 143, .int (zI dp), .int (zI fm), .int (zI 0), .int (zI ah), .int (zI v4), .int (zI 1)]) (rs := []) i_221_96 rfl (fun _ => rfl) rfl rfl rfl rfl rfl (pCall_v (p := 79) hs_es rfl rfl rfl rfl rfl (by decide) rfl rfl rfl rfl rfl) ?_
      show aW _ _ _ _ _ _ (0, [some (.ref 143), some (.int (zI dp)), some (.int (zI fm)), some (.int (zI 0)), some (.int (zI ah)), some (.int (zI v4)), some (.int (zI 1)), none, none, none], [], es)
      refine along_spec hs_es (by omega) (by omega) (by omega) (by omega) (by omega) (by omega) (fun es20 p_es20 => ?_)
      have hs_es20 : sh es20 := p_es20.1
      show aW _ _ _ _ _ _ (99, [some (.ref 143), some (.int (zI dp)), some (.int (zI fm)), some (.int (zI mn)), some (.int (zI ah)), some (.int (zI k)), some (.int (zI n)), some (.int (zI v3)), some (.int (zI v4)), x9, x10], [], es20)
      refine x0 (r := (101, [some (.ref 143), some (.int (zI dp)), some (.int (zI fm)), some (.int (zI mn)), some (.int (zI ah)), some (.int (zI k)), some (.int (zI n)), some (.int (zI v3)), some (.int (zI v4)), x9, x10], [.int (zI v3)], es20)) i_221_99 rfl ?_
      refine x0 (r := (102, [some (.ref 143), some (.int (zI dp)), some (.int (zI fm)), some (.int (zI mn)), some (.int (zI ah)), some (.int (zI k)), some (.int (zI n)), some (.int (zI v3)), some (.int (zI v4)), x9, x10], [.int (zI 3), .int (zI v3)], es20)) i_221_101 (by rfl) ?_
      refine x_cmpT i_221_102 (by unfold i32 iLO iHI; omega) (by unfold i32 iLO iHI; omega) rfl (by simp only [zC, cR]; omega) ?_
      refine x0 (r := (113, [some (.ref 143), some (.int (zI dp)), some (.int (zI fm)), some (.int (zI mn)), some (.int (zI ah)), some (.int (zI k)), some (.int (zI n)), some (.int (zI v3)), some (.int (zI v4)), x9, x10], [.int (zI v3)], es20)) i_221_111 rfl ?_
      refine x0 (r := (114, [some (.ref 143), some (.int (zI dp)), some (.int (zI fm)), some (.int (zI mn)), some (.int (zI ah)), some (.int (zI k)), some (.int (zI n)), some (.int (zI v3)), some (.int (zI v4)), x9, x10], [.int (zI 4), .int (zI v3)], es20)) i_221_113 (by rfl) ?_
      refine x_cmpT i_221_114 (by unfold i32 iLO iHI; omega) (by unfold i32 iLO iHI; omega) rfl (by simp only [zC, cR]; omega) ?_
      refine x0 (r := (126, [some (.ref 143), some (.int (zI dp)), some (.int (zI fm)), some (.int (zI mn)), some (.int (zI ah)), some (.int (zI k)), some (.int (zI n)), some (.int (zI v3)), some (.int (zI v4)), x9, x10], [.int (zI (-1))], es20)) i_221_125 (by rfl) ?_
      refine x0 (r := (128, [some (.ref 143), some (.int (zI dp)), some (.int (zI fm)), some (.int (zI mn)), some (.int (zI ah)), some (.int (zI k)), some (.int (zI n)), some (.int (zI v3)), some (.int (zI v4)), some (.int (zI (-1))), x10], [], es20)) i_221_126 rfl ?_
      refine x0 (r := (130, [some (.ref 143), some (.int (zI dp)), some (.int (zI fm)), some (.int (zI mn)), some (.int (zI ah)), some (.int (zI k)), some (.int (zI n)), some (.int (zI v3)), some (.int (zI v4)), some (.int (zI (-1))), x10], [.int (zI (-1))], es20)) i_221_128 rfl ?_
      refine x0 (r := (131, [some (.ref 143), some (.int (zI dp)), some (.int (zI fm)), some (.int (zI mn)), some (.int (zI ah)), some (.int (zI k)), some (.int (zI n)), some (.int (zI v3)), some (.int (zI v4)), some (.int (zI (-1))), x10], [.int (zI 1), .int (zI (-1))], es20)) i_221_130 (by rfl) ?_
      refine x_cmpF i_221_131 (by unfold i32 iLO iHI; omega) (by unfold i32 iLO iHI; omega) rfl (by simp only [zC, cR]; omega) ?_
      refine x0 (r := (136, [some (.ref 143), some (.int (zI dp)), some (.int (zI fm)), some (.int (zI mn)), some (.int (zI ah)), some (.int (zI k)), some (.int (zI n)), some (.int (zI v3)), some (.int (zI v4)), some (.int (zI (-1))), x10], [.int (zI v3)], es20)) i_221_134 rfl ?_
      refine x_ifT i_221_136 (by unfold i32 iLO iHI; omega) rfl (by simp only [zC, cR]; omega) ?_
      refine x0 (r := (170, [some (.ref 143), some (.int (zI dp)), some (.int (zI fm)), some (.int (zI mn)), some (.int (zI ah)), some (.int (zI k)), some (.int (zI n)), some (.int (zI v3)), some (.int (zI v4)), some (.int (zI (-1))), x10], [.int (zI (-1))], es20)) i_221_169 (by rfl) ?_
      refine x0 (r := (172, [some (.ref 143), some (.int (zI dp)), some (.int (zI fm)), some (.int (zI mn)), some (.int (zI ah)), some (.int (zI k)), some (.int (zI n)), some (.int (zI v3)), some (.int (zI v4)), some (.int (zI (-1))), x10], [], es20)) i_221_170 rfl ?_
      refine x0 (r := (174, [some (.ref 143), some (.int (zI dp)), some (.int (zI fm)), some (.int (zI mn)), some (.int (zI ah)), some (.int (zI k)), some (.int (zI n)), some (.int (zI v3)), some (.int (zI v4)), some (.int (zI (-1))), x10], [.int (zI (-1))], es20)) i_221_172 rfl ?_
      refine x0 (r := (175, [some (.ref 143), some (.int (zI dp)), some (.int (zI fm)), some (.int (zI mn)), some (.int (zI ah)), some (.int (zI k)), some (.int (zI n)), some (.int (zI v3)), some (.int (zI v4)), some (.int (zI (-1))), x10], [.int (zI 1), .int (zI (-1))], es20)) i_221_174 (by rfl) ?_
      refine x_cmpF i_221_175 (by unfold i32 iLO iHI; omega) (by unfold i32 iLO iHI; omega) rfl (by simp only [zC, cR]; omega) ?_
      refine x0 (r := (180, [some (.ref 143), some (.int (zI dp)), some (.int (zI fm)), some (.int (zI mn)), some (.int (zI ah)), some (.int (zI k)), some (.int (zI n)), some (.int (zI v3)), some (.int (zI v4)), some (.int (zI (-1))), x10], [.int (zI v3)], es20)) i_221_178 rfl ?_
      refine x0 (r := (181, [some (.ref 143), some (.int (zI dp)), some (.int (zI fm)), some (.int (zI mn)), some (.int (zI ah)), some (.int (zI k)), some (.int (zI n)), some (.int (zI v3)), some (.int (zI v4)), some (.int (zI (-1))), x10], [.int (zI 1), .int (zI v3)], es20)) i_221_180 (by rfl) ?_
      refine x_cmpT i_221_181 (by unfold i32 iLO iHI; omega) (by unfold i32 iLO iHI; omega) rfl (by simp only [zC, cR]; omega) ?_
      refine x_iinc (x := n) i_221_218 rfl (by show 6 < 11; decide) ?_
      show aW _ _ _ _ _ _ (221, [some (.ref 143), some (.int (zI dp)), some (.int (zI fm)), some (.int (zI mn)), some (.int (zI ah)), some (.int (zI k)), some (.int (zI (n + 1))), some (.int (zI v3)), some (.int (zI v4)), some (.int (zI (-1))), x10], [], es20)
      refine x0 (r := (35, [some (.ref 143), some (.int (zI dp)), some (.int (zI fm)), some (.int (zI mn)), some (.int (zI ah)), some (.int (zI k)), some (.int (zI (n + 1))), some (.int (zI v3)), some (.int (zI v4)), some (.int (zI (-1))), x10], [], es20)) i_221_221 rfl ?_
      exact K7 v1 e_v1 c2 v3 e_v3 v4 e_v4 c5 es20 p_es20
