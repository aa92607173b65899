/-! the code of part 04 is what the bytes say -/
def pLen : Instr → Nat
  | .tableswitch .. => 0
  | .lookupswitch .. => 0
  | .bipush _ | .iload _ | .lload _ | .aload _ | .istore _ | .lstore _ | .astore _ | .ldc _ | .newarray _ => 2
  | .sipush _ | .iinc .. | .ifCond .. | .if_icmp .. | .goto _ | .ldc_w _ | .ldc2_w _ | .getfield _ | .putfield _ | .getstatic _ | .invokestatic _ | .invokevirtual _ | .invokespecial _ | .new _ => 3
  | _ => 1
def pAt : List pEnt → Nat → Option pEnt
  | [], _ => none
  | e :: r, pc => if pc = 0 then some e else if pc < e.2.1 then none else pAt r (pc - e.2.1)
def pDec (b : ByteArray) : Nat → List pEnt → Bool
  | _, [] => true
  | pc, e :: r => decide (0 < e.2.1) && (decide (decode b pc = .ok (e.1, e.2.1)) && ((pLen e.1 == 0 || pLen e.1 == e.2.1) && pDec b (pc + e.2.1) r))
theorem pDec_at {b : ByteArray} : ∀ (l : List pEnt) (pc k : Nat) (e : pEnt), pDec b pc l = true → pAt l k = some e → decode b (pc + k) = .ok (e.1, e.2.1) ∧ (pLen e.1 = 0 ∨ pLen e.1 = e.2.1)
  | [], _, _, _, _, h => by simp [pAt] at h
  | x :: r, pc, k, e, hd, h => by
    simp only [pDec, Bool.and_eq_true, decide_eq_true_eq, Bool.or_eq_true, beq_iff_eq] at hd
    obtain ⟨h0, h1, h2, h3⟩ := hd
    simp only [pAt] at h
    split at h
    · rename_i hk
      cases h
      subst hk
      exact ⟨h1, h2⟩
    · split at h
      · cases h
      · rename_i hk hl
        have := pDec_at r (pc + x.2.1) (k - x.2.1) e h3 h
        rwa [show pc + x.2.1 + (k - x.2.1) = pc + k by omega] at this
def pSz : List pEnt → Nat
  | [] => 0
  | e :: r => e.2.1 + pSz r
theorem pDec_app {b : ByteArray} : ∀ {l1 l2 : List pEnt} {pc pc2 : Nat}, pDec b pc l1 = true → pc + pSz l1 = pc2 → pDec b pc2 l2 = true → pDec b pc (l1 ++ l2) = true
  | [], l2, pc, pc2, _, h, h2 => by
    simp only [pSz, Nat.add_zero] at h
    subst h
    exact h2
  | e :: r, l2, pc, pc2, h1, h, h2 => by
    simp only [pDec, List.cons_append, Bool.and_eq_true] at h1 ⊢
    simp only [pSz] at h
    exact ⟨h1.1, h1.2.1, h1.2.2.1, pDec_app h1.2.2.2 (by omega) h2⟩

set_option maxRecDepth 100000 in
theorem pd_0 : pDec cX11_init 0 pk_0 = true := by decide +kernel
set_option maxRecDepth 100000 in
theorem pd_1 : pDec cX8_init 0 pk_1 = true := by decide +kernel
set_option maxRecDepth 100000 in
theorem pd_2 : pDec cX2_init 0 pk_2 = true := by decide +kernel
set_option maxRecDepth 100000 in
theorem pd_3 : pDec cX1_init 0 pk_3 = true := by decide +kernel
set_option maxRecDepth 100000 in
theorem pd_4 : pDec cX0_init 0 pk_4 = true := by decide +kernel
set_option maxRecDepth 100000 in
theorem pd_5 : pDec cX7_init 0 pk_5 = true := by decide +kernel
set_option maxRecDepth 100000 in
theorem pd_6 : pDec cX5_init 0 pk_6 = true := by decide +kernel
set_option maxRecDepth 100000 in
theorem pd_7 : pDec cX3_init 0 pk_7 = true := by decide +kernel
set_option maxRecDepth 100000 in
theorem pd_8 : pDec cX6_init 0 pk_8 = true := by decide +kernel
set_option maxRecDepth 100000 in
theorem pd_9 : pDec cX4_init 0 pk_9 = true := by decide +kernel
set_option maxRecDepth 100000 in
theorem pd_10 : pDec cX9_init 0 pk_10 = true := by decide +kernel
set_option maxRecDepth 100000 in
theorem pd_11 : pDec cX11_feed 0 pk_11 = true := by decide +kernel
set_option maxRecDepth 100000 in
theorem pd_12 : pDec cX8_hasRoom 0 pk_12 = true := by decide +kernel
set_option maxRecDepth 100000 in
theorem pd_13 : pDec cX8_append 0 pk_13 = true := by decide +kernel
set_option maxRecDepth 100000 in
theorem pd_14 : pDec cX11_set 0 pk_14 = true := by decide +kernel
set_option maxRecDepth 100000 in
theorem pd_15 : pDec cX11_end 0 pk_15 = true := by decide +kernel
set_option maxRecDepth 100000 in
theorem pd_16 : pDec cX11_fault 0 pk_16 = true := by decide +kernel
set_option maxRecDepth 100000 in
theorem pd_17 : pDec cX11_least 0 pk_17 = true := by decide +kernel
set_option maxRecDepth 100000 in
theorem pd_18 : pDec cX11_asked 0 pk_18 = true := by decide +kernel
set_option maxRecDepth 100000 in
theorem pd_19 : pDec cX5_askAll 0 pk_19 = true := by decide +kernel
set_option maxRecDepth 100000 in
theorem pd_20 : pDec cX11_copy 0 pk_20 = true := by decide +kernel
set_option maxRecDepth 100000 in
theorem pd_21 : pDec cJ9_min_7cf53 0 pk_21 = true := by decide +kernel
set_option maxRecDepth 100000 in
theorem pd_22 : pDec cX7_findLeast 0 pk_22 = true := by decide +kernel
set_option maxRecDepth 100000 in
theorem pd_23 : pDec cX7_begin 0 pk_23 = true := by decide +kernel
set_option maxRecDepth 100000 in
theorem pd_24 : pDec cX0_setUp 0 pk_24 = true := by decide +kernel
set_option maxRecDepth 100000 in
theorem pd_25 : pDec cX4_begin 0 pk_25 = true := by decide +kernel
set_option maxRecDepth 100000 in
theorem pd_26 : pDec cX4_beginRow 0 pk_26 = true := by decide +kernel
set_option maxRecDepth 100000 in
theorem pd_27 : pDec cX4_setCell 0 pk_27 = true := by decide +kernel
set_option maxRecDepth 100000 in
theorem pd_28 : pDec cX11_at 0 pk_28 = true := by decide +kernel
set_option maxRecDepth 100000 in
theorem pd_29_0 : pDec cX7_layOut 0 pk_29_0 = true := by decide +kernel
set_option maxRecDepth 100000 in
theorem pd_29_1 : pDec cX7_layOut 192 pk_29_1 = true := by decide +kernel
theorem pd_29 : pDec cX7_layOut 0 pk_29 = true := (pDec_app pd_29_0 (by decide) pd_29_1)
set_option maxRecDepth 100000 in
theorem pd_30 : pDec cJ9_max_7cf53 0 pk_30 = true := by decide +kernel
set_option maxRecDepth 100000 in
theorem pd_31 : pDec cX7_isSpent 0 pk_31 = true := by decide +kernel
set_option maxRecDepth 100000 in
theorem pd_32 : pDec cX5_isBarred 0 pk_32 = true := by decide +kernel
set_option maxRecDepth 100000 in
theorem pd_33_0 : pDec cX7_tell 0 pk_33_0 = true := by decide +kernel
set_option maxRecDepth 100000 in
theorem pd_33_1 : pDec cX7_tell 194 pk_33_1 = true := by decide +kernel
theorem pd_33 : pDec cX7_tell 0 pk_33 = true := (pDec_app pd_33_0 (by decide) pd_33_1)
set_option maxRecDepth 100000 in
theorem pd_34 : pDec cX4_whole 0 pk_34 = true := by decide +kernel
set_option maxRecDepth 100000 in
theorem pd_35 : pDec cX1_notesOf 0 pk_35 = true := by decide +kernel
set_option maxRecDepth 100000 in
theorem pd_36 : pDec cX4_cell 0 pk_36 = true := by decide +kernel
set_option maxRecDepth 100000 in
theorem pd_37 : pDec cX5_isLongEnough 0 pk_37 = true := by decide +kernel
set_option maxRecDepth 100000 in
theorem pd_38 : pDec cX3_tell 0 pk_38 = true := by decide +kernel
set_option maxRecDepth 100000 in
theorem pd_39 : pDec cX3_keep 0 pk_39 = true := by decide +kernel
set_option maxRecDepth 100000 in
theorem pd_40 : pDec cX5_mostMoves 0 pk_40 = true := by decide +kernel
set_option maxRecDepth 100000 in
theorem pd_41 : pDec cX4_hopeful 0 pk_41 = true := by decide +kernel
set_option maxRecDepth 100000 in
theorem pd_42 : pDec cX4_nearNotes 0 pk_42 = true := by decide +kernel
set_option maxRecDepth 100000 in
theorem pd_43 : pDec cX1_noteCell 0 pk_43 = true := by decide +kernel
set_option maxRecDepth 100000 in
theorem pd_44 : pDec cX11_counted 0 pk_44 = true := by decide +kernel
set_option maxRecDepth 100000 in
theorem pd_45 : pDec cX4_bitOf 0 pk_45 = true := by decide +kernel
set_option maxRecDepth 100000 in
theorem pd_46 : pDec cX4_soFar 0 pk_46 = true := by decide +kernel
set_option maxRecDepth 100000 in
theorem pd_47 : pDec cX0_reachOf 0 pk_47 = true := by decide +kernel
set_option maxRecDepth 100000 in
theorem pd_48 : pDec cX11_isOf 0 pk_48 = true := by decide +kernel
set_option maxRecDepth 100000 in
theorem pd_49 : pDec cX11_kindOf 0 pk_49 = true := by decide +kernel
set_option maxRecDepth 100000 in
theorem pd_50 : pDec cX1_lineCell 0 pk_50 = true := by decide +kernel
set_option maxRecDepth 100000 in
theorem pd_51 : pDec cX0_reachBy 0 pk_51 = true := by decide +kernel
set_option maxRecDepth 100000 in
theorem pd_52 : pDec cX0_stepsOf 0 pk_52 = true := by decide +kernel
set_option maxRecDepth 100000 in
theorem pd_53_0 : pDec cX4_withMove 0 pk_53_0 = true := by decide +kernel
set_option maxRecDepth 100000 in
theorem pd_53_1 : pDec cX4_withMove 207 pk_53_1 = true := by decide +kernel
theorem pd_53 : pDec cX4_withMove 0 pk_53 = true := (pDec_app pd_53_0 (by decide) pd_53_1)
set_option maxRecDepth 100000 in
theorem pd_54_0 : pDec cX4_slipOf 0 pk_54_0 = true := by decide +kernel
set_option maxRecDepth 100000 in
theorem pd_54_1 : pDec cX4_slipOf 182 pk_54_1 = true := by decide +kernel
theorem pd_54 : pDec cX4_slipOf 0 pk_54 = true := (pDec_app pd_54_0 (by decide) pd_54_1)
set_option maxRecDepth 100000 in
theorem pd_55 : pDec cX4_rankSlip 0 pk_55 = true := by decide +kernel
set_option maxRecDepth 100000 in
theorem pd_56 : pDec cX1_isLikeNote 0 pk_56 = true := by decide +kernel
set_option maxRecDepth 100000 in
theorem pd_57 : pDec cX1_isLikeButForFrom 0 pk_57 = true := by decide +kernel
set_option maxRecDepth 100000 in
theorem pd_58 : pDec cX0_go 0 pk_58 = true := by decide +kernel
set_option maxRecDepth 100000 in
theorem pd_59 : pDec cX6_weigh 0 pk_59 = true := by decide +kernel
set_option maxRecDepth 100000 in
theorem pd_60 : pDec cX1_valueOf 0 pk_60 = true := by decide +kernel
set_option maxRecDepth 100000 in
theorem pd_61 : pDec cX0_howManyMen 0 pk_61 = true := by decide +kernel
set_option maxRecDepth 100000 in
theorem pd_62 : pDec cX6_pop 0 pk_62 = true := by decide +kernel
set_option maxRecDepth 100000 in
theorem pd_63 : pDec cX6_told 0 pk_63 = true := by decide +kernel
set_option maxRecDepth 100000 in
theorem pd_64 : pDec cX6_push 0 pk_64 = true := by decide +kernel
set_option maxRecDepth 100000 in
theorem pd_65 : pDec cX6_worked 0 pk_65 = true := by decide +kernel
set_option maxRecDepth 100000 in
theorem pd_66 : pDec cX0_goBack 0 pk_66 = true := by decide +kernel
set_option maxRecDepth 100000 in
theorem pd_67 : pDec cX11_many 0 pk_67 = true := by decide +kernel
set_option maxRecDepth 100000 in
theorem pd_68 : pDec cX11_part 0 pk_68 = true := by decide +kernel
set_option maxRecDepth 100000 in
theorem pd_69 : pDec cX3_partsFrom 0 pk_69 = true := by decide +kernel
set_option maxRecDepth 100000 in
theorem pd_70 : pDec cX11_image 0 pk_70 = true := by decide +kernel
set_option maxRecDepth 100000 in
theorem pd_71 : pDec cX1_become 0 pk_71 = true := by decide +kernel
set_option maxRecDepth 100000 in
theorem pd_72 : pDec cX11_back 0 pk_72 = true := by decide +kernel
set_option maxRecDepth 100000 in
theorem pd_73 : pDec cX11_forget 0 pk_73 = true := by decide +kernel
set_option maxRecDepth 100000 in
theorem pd_74 : pDec cX11_count 0 pk_74 = true := by decide +kernel
set_option maxRecDepth 100000 in
theorem pd_75 : pDec cX1_menAtStart 0 pk_75 = true := by decide +kernel
set_option maxRecDepth 100000 in
theorem pd_76 : pDec cX1_notesOfAll 0 pk_76 = true := by decide +kernel
set_option maxRecDepth 100000 in
theorem pd_77 : pDec cX1_valueAtStart 0 pk_77 = true := by decide +kernel
set_option maxRecDepth 100000 in
theorem pd_78 : pDec cX11_kind 0 pk_78 = true := by decide +kernel
set_option maxRecDepth 100000 in
theorem pd_79 : pDec cX2_reads 0 pk_79 = true := by decide +kernel
set_option maxRecDepth 100000 in
theorem pd_80 : pDec cX2_split 0 pk_80 = true := by decide +kernel
set_option maxRecDepth 100000 in
theorem pd_81 : pDec cX2_behindToken 0 pk_81 = true := by decide +kernel
set_option maxRecDepth 100000 in
theorem pd_82 : pDec cX2_isLetter 0 pk_82 = true := by decide +kernel
set_option maxRecDepth 100000 in
theorem pd_83 : pDec cX2_isDigit 0 pk_83 = true := by decide +kernel
set_option maxRecDepth 100000 in
theorem pd_84 : pDec cX2_tokenOf 0 pk_84 = true := by decide +kernel
set_option maxRecDepth 100000 in
theorem pd_85 : pDec cX2_wordOf 0 pk_85 = true := by decide +kernel
set_option maxRecDepth 100000 in
theorem pd_86 : pDec cX2_numberOf 0 pk_86 = true := by decide +kernel
set_option maxRecDepth 100000 in
theorem pd_87 : pDec cX2_isMeasureLine 0 pk_87 = true := by decide +kernel
set_option maxRecDepth 100000 in
theorem pd_88 : pDec cX2_fail 0 pk_88 = true := by decide +kernel
set_option maxRecDepth 100000 in
theorem pd_89 : pDec cX2_pass 0 pk_89 = true := by decide +kernel
set_option maxRecDepth 100000 in
theorem pd_90 : pDec cX2_emit 0 pk_90 = true := by decide +kernel
set_option maxRecDepth 100000 in
theorem pd_91 : pDec cX2_isFact 0 pk_91 = true := by decide +kernel
set_option maxRecDepth 100000 in
theorem pd_92 : pDec cX2_isCondition 0 pk_92 = true := by decide +kernel
set_option maxRecDepth 100000 in
theorem pd_93 : pDec cX2_isAtom 0 pk_93 = true := by decide +kernel
set_option maxRecDepth 100000 in
theorem pd_94 : pDec cX2_isNested 0 pk_94 = true := by decide +kernel
set_option maxRecDepth 100000 in
theorem pd_95 : pDec cX2_isSum 0 pk_95 = true := by decide +kernel
set_option maxRecDepth 100000 in
theorem pd_96 : pDec cX2_isKindLine 0 pk_96 = true := by decide +kernel
set_option maxRecDepth 100000 in
theorem pd_97 : pDec cX11_useTapeUp 0 pk_97 = true := by decide +kernel
set_option maxRecDepth 100000 in
theorem pd_98 : pDec cX1_addKind 0 pk_98 = true := by decide +kernel
set_option maxRecDepth 100000 in
theorem pd_99 : pDec cX11_measure 0 pk_99 = true := by decide +kernel
set_option maxRecDepth 100000 in
theorem pd_100 : pDec cX1_setMeasure 0 pk_100 = true := by decide +kernel
set_option maxRecDepth 100000 in
theorem pd_101 : pDec cX11_put 0 pk_101 = true := by decide +kernel
set_option maxRecDepth 100000 in
theorem pd_102 : pDec cX11_isSquare 0 pk_102 = true := by decide +kernel
set_option maxRecDepth 100000 in
theorem pd_103 : pDec cX11_isKindOrNone 0 pk_103 = true := by decide +kernel
set_option maxRecDepth 100000 in
theorem pd_104 : pDec cX11_isKind 0 pk_104 = true := by decide +kernel
set_option maxRecDepth 100000 in
theorem pd_105 : pDec cX11_isSide 0 pk_105 = true := by decide +kernel
set_option maxRecDepth 100000 in
theorem pd_106 : pDec cX11_manOf 0 pk_106 = true := by decide +kernel
set_option maxRecDepth 100000 in
theorem pd_107 : pDec cX11_moves 0 pk_107 = true := by decide +kernel
set_option maxRecDepth 100000 in
theorem pd_108 : pDec cX0_howManyMoves 0 pk_108 = true := by decide +kernel
set_option maxRecDepth 100000 in
theorem pd_109 : pDec cJ13_bitCount_95d88 0 pk_109 = true := by decide +kernel
set_option maxRecDepth 100000 in
theorem pd_110 : pDec cX0_moveAt 0 pk_110 = true := by decide +kernel
set_option maxRecDepth 100000 in
theorem pd_111 : pDec cX0_bitAt 0 pk_111 = true := by decide +kernel
set_option maxRecDepth 100000 in
theorem pd_112 : pDec cX11_book 0 pk_112 = true := by decide +kernel
set_option maxRecDepth 100000 in
theorem pd_113 : pDec cX11_isWay 0 pk_113 = true := by decide +kernel
set_option maxRecDepth 100000 in
theorem pd_114 : pDec cX1_addBook 0 pk_114 = true := by decide +kernel
set_option maxRecDepth 100000 in
theorem pd_115 : pDec cX11_note 0 pk_115 = true := by decide +kernel
set_option maxRecDepth 100000 in
theorem pd_116 : pDec cX11_isBook 0 pk_116 = true := by decide +kernel
set_option maxRecDepth 100000 in
theorem pd_117 : pDec cX11_isPlace 0 pk_117 = true := by decide +kernel
set_option maxRecDepth 100000 in
theorem pd_118 : pDec cX1_addNote 0 pk_118 = true := by decide +kernel
set_option maxRecDepth 100000 in
theorem pd_119 : pDec cX1_setNote 0 pk_119 = true := by decide +kernel
set_option maxRecDepth 100000 in
theorem pd_120 : pDec cX11_change 0 pk_120 = true := by decide +kernel
set_option maxRecDepth 100000 in
theorem pd_121 : pDec cX11_isNote 0 pk_121 = true := by decide +kernel
set_option maxRecDepth 100000 in
theorem pd_122 : pDec cX11_look 0 pk_122 = true := by decide +kernel
set_option maxRecDepth 100000 in
theorem pd_123 : pDec cX11_write 0 pk_123 = true := by decide +kernel
set_option maxRecDepth 100000 in
theorem pd_124 : pDec cX10_init 0 pk_124 = true := by decide +kernel
set_option maxRecDepth 100000 in
theorem pd_125 : pDec cX10_fill 0 pk_125 = true := by decide +kernel
set_option maxRecDepth 100000 in
theorem pd_126 : pDec cX10_draw 0 pk_126 = true := by decide +kernel
set_option maxRecDepth 100000 in
theorem pd_127 : pDec cX10_writeNote 0 pk_127 = true := by decide +kernel
set_option maxRecDepth 100000 in
theorem pd_128 : pDec cX10_addSlip 0 pk_128 = true := by decide +kernel
set_option maxRecDepth 100000 in
theorem pd_129 : pDec cX10_oneMore 0 pk_129 = true := by decide +kernel
set_option maxRecDepth 100000 in
theorem pd_130 : pDec cX11_price 0 pk_130 = true := by decide +kernel
set_option maxRecDepth 100000 in
theorem pd_131 : pDec cX11_isSlip 0 pk_131 = true := by decide +kernel
set_option maxRecDepth 100000 in
theorem pd_132 : pDec cX11_length 0 pk_132 = true := by decide +kernel
set_option maxRecDepth 100000 in
theorem pd_133 : pDec cX11_picture 0 pk_133 = true := by decide +kernel
set_option maxRecDepth 100000 in
theorem pd_134 : pDec cX1_addPicture 0 pk_134 = true := by decide +kernel
set_option maxRecDepth 100000 in
theorem pd_135 : pDec cX11_read 0 pk_135 = true := by decide +kernel
set_option maxRecDepth 100000 in
theorem pd_136 : pDec cX11_readNext 0 pk_136 = true := by decide +kernel
set_option maxRecDepth 100000 in
theorem pd_137 : pDec cX11_slip 0 pk_137 = true := by decide +kernel
set_option maxRecDepth 100000 in
theorem pd_138 : pDec cX9_follow 0 pk_138 = true := by decide +kernel
set_option maxRecDepth 100000 in
theorem pd_139 : pDec cJ7_fill_53178 0 pk_139 = true := by decide +kernel
set_option maxRecDepth 100000 in
theorem pd_140 : pDec cX9_followBack 0 pk_140 = true := by decide +kernel
set_option maxRecDepth 100000 in
theorem pd_141 : pDec cX9_slipOfLast 0 pk_141 = true := by decide +kernel
set_option maxRecDepth 100000 in
theorem pd_142 : pDec cX9_slipOfNote 0 pk_142 = true := by decide +kernel
set_option maxRecDepth 100000 in
theorem pd_143 : pDec cX11_slips 0 pk_143 = true := by decide +kernel
set_option maxRecDepth 100000 in
theorem pd_144 : pDec cX9_howManySlips 0 pk_144 = true := by decide +kernel
set_option maxRecDepth 100000 in
theorem pd_145 : pDec cX9_slipOfMove 0 pk_145 = true := by decide +kernel
set_option maxRecDepth 100000 in
theorem pd_146 : pDec cX9_noteOfMove 0 pk_146 = true := by decide +kernel
set_option maxRecDepth 100000 in
theorem pd_147 : pDec cX11_breaks 0 pk_147 = true := by decide +kernel
set_option maxRecDepth 100000 in
theorem pd_148 : pDec cX5_askOne 0 pk_148 = true := by decide +kernel
set_option maxRecDepth 100000 in
theorem pd_149 : pDec cX5_leaveSlipsAndBounds 0 pk_149 = true := by decide +kernel
set_option maxRecDepth 100000 in
theorem pd_150 : pDec cX7_deepestForNothing 0 pk_150 = true := by decide +kernel
set_option maxRecDepth 100000 in
theorem pd_151 : pDec cX11_brief 0 pk_151 = true := by decide +kernel
set_option maxRecDepth 100000 in
theorem pd_152 : pDec cX0_howManyLike 0 pk_152 = true := by decide +kernel
set_option maxRecDepth 100000 in
theorem pd_153 : pDec cX11_best 0 pk_153 = true := by decide +kernel
set_option maxRecDepth 100000 in
theorem pd_154 : pDec cX7_findBest 0 pk_154 = true := by decide +kernel
set_option maxRecDepth 100000 in
theorem pd_155 : pDec cX11_odds 0 pk_155 = true := by decide +kernel
set_option maxRecDepth 100000 in
theorem pd_156 : pDec cX7_weighs 0 pk_156 = true := by decide +kernel
set_option maxRecDepth 100000 in
theorem pd_157 : pDec cX11_commonPart 0 pk_157 = true := by decide +kernel
set_option maxRecDepth 100000 in
theorem pd_158 : pDec cX11_shared 0 pk_158 = true := by decide +kernel
set_option maxRecDepth 100000 in
theorem pd_159 : pDec cX9_howManyShared 0 pk_159 = true := by decide +kernel
set_option maxRecDepth 100000 in
theorem pd_160 : pDec cX9_isSlipOfNote 0 pk_160 = true := by decide +kernel
set_option maxRecDepth 100000 in
theorem pd_161 : pDec cX9_howManyOwn 0 pk_161 = true := by decide +kernel
set_option maxRecDepth 100000 in
theorem pd_162 : pDec cX11_alike 0 pk_162 = true := by decide +kernel
set_option maxRecDepth 100000 in
theorem pd_163 : pDec cX1_mostInCommon 0 pk_163 = true := by decide +kernel
set_option maxRecDepth 100000 in
theorem pd_164 : pDec cX11_way 0 pk_164 = true := by decide +kernel
set_option maxRecDepth 100000 in
theorem pd_165 : pDec cX11_leastBy 0 pk_165 = true := by decide +kernel
set_option maxRecDepth 100000 in
theorem pd_166 : pDec cX11_cheaper 0 pk_166 = true := by decide +kernel
set_option maxRecDepth 100000 in
theorem pd_167 : pDec cX12_thrown 0 pk_167 = true := by decide +kernel
set_option maxRecDepth 100000 in
theorem pd_168_0 : pDec cX12_init 0 pk_168_0 = true := by decide +kernel
set_option maxRecDepth 100000 in
theorem pd_168_1 : pDec cX12_init 204 pk_168_1 = true := by decide +kernel
theorem pd_168 : pDec cX12_init 0 pk_168 = true := (pDec_app pd_168_0 (by decide) pd_168_1)
set_option maxRecDepth 100000 in
theorem pd_169 : pDec cX12_image 0 pk_169 = true := by decide +kernel
set_option maxRecDepth 100000 in
theorem pd_170 : pDec cX12_back 0 pk_170 = true := by decide +kernel
set_option maxRecDepth 100000 in
theorem pd_171 : pDec cX12_feed 0 pk_171 = true := by decide +kernel
set_option maxRecDepth 100000 in
theorem pd_172 : pDec cX12_end 0 pk_172 = true := by decide +kernel
set_option maxRecDepth 100000 in
theorem pd_173 : pDec cX12_fault 0 pk_173 = true := by decide +kernel
set_option maxRecDepth 100000 in
theorem pd_174 : pDec cX12_kind 0 pk_174 = true := by decide +kernel
set_option maxRecDepth 100000 in
theorem pd_175 : pDec cX12_readAll 0 pk_175 = true := by decide +kernel
set_option maxRecDepth 100000 in
theorem pd_176 : pDec cX12_blanks 0 pk_176 = true := by decide +kernel
set_option maxRecDepth 100000 in
theorem pd_177 : pDec cX12_isAt 0 pk_177 = true := by decide +kernel
set_option maxRecDepth 100000 in
theorem pd_178 : pDec cX12_letters 0 pk_178 = true := by decide +kernel
set_option maxRecDepth 100000 in
theorem pd_179 : pDec cX12_readKindLine 0 pk_179 = true := by decide +kernel
set_option maxRecDepth 100000 in
theorem pd_180 : pDec cX12_isWord 0 pk_180 = true := by decide +kernel
set_option maxRecDepth 100000 in
theorem pd_181 : pDec cX12_number 0 pk_181 = true := by decide +kernel
set_option maxRecDepth 100000 in
theorem pd_182 : pDec cX12_readMeasureLine 0 pk_182 = true := by decide +kernel
set_option maxRecDepth 100000 in
theorem pd_183 : pDec cX12_keepsAt 0 pk_183 = true := by decide +kernel
set_option maxRecDepth 100000 in
theorem pd_184 : pDec cX12_sign 0 pk_184 = true := by decide +kernel
set_option maxRecDepth 100000 in
theorem pd_185 : pDec cX12_factAt 0 pk_185 = true := by decide +kernel
set_option maxRecDepth 100000 in
theorem pd_186 : pDec cX12_passes 0 pk_186 = true := by decide +kernel
set_option maxRecDepth 100000 in
theorem pd_187 : pDec cX12_readCond 0 pk_187 = true := by decide +kernel
set_option maxRecDepth 100000 in
theorem pd_188 : pDec cX12_readAllOf 0 pk_188 = true := by decide +kernel
set_option maxRecDepth 100000 in
theorem pd_189 : pDec cX12_readAtom 0 pk_189 = true := by decide +kernel
set_option maxRecDepth 100000 in
theorem pd_190 : pDec cX12_emits 0 pk_190 = true := by decide +kernel
set_option maxRecDepth 100000 in
theorem pd_191 : pDec cX12_readSum 0 pk_191 = true := by decide +kernel
set_option maxRecDepth 100000 in
theorem pd_192 : pDec cX12_readPart 0 pk_192 = true := by decide +kernel
set_option maxRecDepth 100000 in
theorem pd_193 : pDec cX12_in 0 pk_193 = true := by decide +kernel
set_option maxRecDepth 100000 in
theorem pd_194 : pDec cX12_throwsIf 0 pk_194 = true := by decide +kernel
set_option maxRecDepth 100000 in
theorem pd_195 : pDec cX12_measure 0 pk_195 = true := by decide +kernel
set_option maxRecDepth 100000 in
theorem pd_196 : pDec cX12_put 0 pk_196 = true := by decide +kernel
set_option maxRecDepth 100000 in
theorem pd_197 : pDec cX12_noSquare 0 pk_197 = true := by decide +kernel
set_option maxRecDepth 100000 in
theorem pd_198 : pDec cX12_noKind 0 pk_198 = true := by decide +kernel
set_option maxRecDepth 100000 in
theorem pd_199 : pDec cX12_none 0 pk_199 = true := by decide +kernel
set_option maxRecDepth 100000 in
theorem pd_200 : pDec cX12_man 0 pk_200 = true := by decide +kernel
set_option maxRecDepth 100000 in
theorem pd_201 : pDec cX12_book 0 pk_201 = true := by decide +kernel
set_option maxRecDepth 100000 in
theorem pd_202 : pDec cX12_note 0 pk_202 = true := by decide +kernel
set_option maxRecDepth 100000 in
theorem pd_203 : pDec cX12_noBook 0 pk_203 = true := by decide +kernel
set_option maxRecDepth 100000 in
theorem pd_204 : pDec cX12_badNote 0 pk_204 = true := by decide +kernel
set_option maxRecDepth 100000 in
theorem pd_205 : pDec cX12_notes 0 pk_205 = true := by decide +kernel
set_option maxRecDepth 100000 in
theorem pd_206 : pDec cX12_ofBook 0 pk_206 = true := by decide +kernel
set_option maxRecDepth 100000 in
theorem pd_207 : pDec cX12_addsNote 0 pk_207 = true := by decide +kernel
set_option maxRecDepth 100000 in
theorem pd_208 : pDec cX12_setsNote 0 pk_208 = true := by decide +kernel
set_option maxRecDepth 100000 in
theorem pd_209 : pDec cX12_change 0 pk_209 = true := by decide +kernel
set_option maxRecDepth 100000 in
theorem pd_210 : pDec cX12_noNote 0 pk_210 = true := by decide +kernel
set_option maxRecDepth 100000 in
theorem pd_211 : pDec cX12_ofNote 0 pk_211 = true := by decide +kernel
set_option maxRecDepth 100000 in
theorem pd_212 : pDec cX12_look 0 pk_212 = true := by decide +kernel
set_option maxRecDepth 100000 in
theorem pd_213 : pDec cX12_price 0 pk_213 = true := by decide +kernel
set_option maxRecDepth 100000 in
theorem pd_214 : pDec cX12_length 0 pk_214 = true := by decide +kernel
set_option maxRecDepth 100000 in
theorem pd_215 : pDec cX12_picture 0 pk_215 = true := by decide +kernel
set_option maxRecDepth 100000 in
theorem pd_216 : pDec cX12_moves 0 pk_216 = true := by decide +kernel
set_option maxRecDepth 100000 in
theorem pd_217 : pDec cX12_begins 0 pk_217 = true := by decide +kernel
set_option maxRecDepth 100000 in
theorem pd_218 : pDec cX12_finds 0 pk_218 = true := by decide +kernel
set_option maxRecDepth 100000 in
theorem pd_219 : pDec cX12_at 0 pk_219 = true := by decide +kernel
set_option maxRecDepth 100000 in
theorem pd_220 : pDec cX12_sideOf 0 pk_220 = true := by decide +kernel
set_option maxRecDepth 100000 in
theorem pd_221_0 : pDec cX12_goes 0 pk_221_0 = true := by decide +kernel
set_option maxRecDepth 100000 in
theorem pd_221_1 : pDec cX12_goes 160 pk_221_1 = true := by decide +kernel
theorem pd_221 : pDec cX12_goes 0 pk_221 = true := (pDec_app pd_221_0 (by decide) pd_221_1)
set_option maxRecDepth 100000 in
theorem pd_222 : pDec cX12_along 0 pk_222 = true := by decide +kernel
set_option maxRecDepth 100000 in
theorem pd_223 : pDec cX12_off 0 pk_223 = true := by decide +kernel
set_option maxRecDepth 100000 in
theorem pd_224 : pDec cX12_may 0 pk_224 = true := by decide +kernel
set_option maxRecDepth 100000 in
theorem pd_225 : pDec cX12_leaps 0 pk_225 = true := by decide +kernel
set_option maxRecDepth 100000 in
theorem pd_226 : pDec cX12_bites 0 pk_226 = true := by decide +kernel
set_option maxRecDepth 100000 in
theorem pd_227 : pDec cX12_manyAt 0 pk_227 = true := by decide +kernel
set_option maxRecDepth 100000 in
theorem pd_228 : pDec cX12_moveAt 0 pk_228 = true := by decide +kernel
set_option maxRecDepth 100000 in
theorem pd_229 : pDec cX12_least 0 pk_229 = true := by decide +kernel
set_option maxRecDepth 100000 in
theorem pd_230 : pDec cX12_asksWhole 0 pk_230 = true := by decide +kernel
set_option maxRecDepth 100000 in
theorem pd_231 : pDec cX12_asksAll 0 pk_231 = true := by decide +kernel
set_option maxRecDepth 100000 in
theorem pd_232 : pDec cX12_asks 0 pk_232 = true := by decide +kernel
set_option maxRecDepth 100000 in
theorem pd_233_0 : pDec cX12_laysAll 0 pk_233_0 = true := by decide +kernel
set_option maxRecDepth 100000 in
theorem pd_233_1 : pDec cX12_laysAll 176 pk_233_1 = true := by decide +kernel
theorem pd_233 : pDec cX12_laysAll 0 pk_233 = true := (pDec_app pd_233_0 (by decide) pd_233_1)
set_option maxRecDepth 100000 in
theorem pd_234 : pDec cX12_prices 0 pk_234 = true := by decide +kernel
set_option maxRecDepth 100000 in
theorem pd_235 : pDec cX12_isAsked 0 pk_235 = true := by decide +kernel
set_option maxRecDepth 100000 in
theorem pd_236 : pDec cX12_sums 0 pk_236 = true := by decide +kernel
set_option maxRecDepth 100000 in
theorem pd_237 : pDec cX12_ofMove 0 pk_237 = true := by decide +kernel
set_option maxRecDepth 100000 in
theorem pd_238 : pDec cX12_sumAt 0 pk_238 = true := by decide +kernel
set_option maxRecDepth 100000 in
theorem pd_239 : pDec cX12_fitAt 0 pk_239 = true := by decide +kernel
set_option maxRecDepth 100000 in
theorem pd_240 : pDec cX12_ofLost 0 pk_240 = true := by decide +kernel
set_option maxRecDepth 100000 in
theorem pd_241 : pDec cX12_ofTwice 0 pk_241 = true := by decide +kernel
set_option maxRecDepth 100000 in
theorem pd_242 : pDec cX12_isTwice 0 pk_242 = true := by decide +kernel
set_option maxRecDepth 100000 in
theorem pd_243 : pDec cX12_lays 0 pk_243 = true := by decide +kernel
set_option maxRecDepth 100000 in
theorem pd_244_0 : pDec cX12_measures 0 pk_244_0 = true := by decide +kernel
set_option maxRecDepth 100000 in
theorem pd_244_1 : pDec cX12_measures 163 pk_244_1 = true := by decide +kernel
theorem pd_244 : pDec cX12_measures 0 pk_244 = true := (pDec_app pd_244_0 (by decide) pd_244_1)
set_option maxRecDepth 100000 in
theorem pd_245 : pDec cX12_valueOf 0 pk_245 = true := by decide +kernel
set_option maxRecDepth 100000 in
theorem pd_246 : pDec cX12_measured 0 pk_246 = true := by decide +kernel
set_option maxRecDepth 100000 in
theorem pd_247_0 : pDec cX12_holdsLine 0 pk_247_0 = true := by decide +kernel
set_option maxRecDepth 100000 in
theorem pd_247_1 : pDec cX12_holdsLine 172 pk_247_1 = true := by decide +kernel
theorem pd_247 : pDec cX12_holdsLine 0 pk_247 = true := (pDec_app pd_247_0 (by decide) pd_247_1)
set_option maxRecDepth 100000 in
theorem pd_248 : pDec cX12_meets 0 pk_248 = true := by decide +kernel
set_option maxRecDepth 100000 in
theorem pd_249 : pDec cX12_isBarred 0 pk_249 = true := by decide +kernel
set_option maxRecDepth 100000 in
theorem pd_250 : pDec cX12_isLongEnough 0 pk_250 = true := by decide +kernel
set_option maxRecDepth 100000 in
theorem pd_251 : pDec cX12_takes 0 pk_251 = true := by decide +kernel
set_option maxRecDepth 100000 in
theorem pd_252 : pDec cX12_goesOn 0 pk_252 = true := by decide +kernel
set_option maxRecDepth 100000 in
theorem pd_253 : pDec cX12_makes 0 pk_253 = true := by decide +kernel
set_option maxRecDepth 100000 in
theorem pd_254_0 : pDec cX12_tries 0 pk_254_0 = true := by decide +kernel
set_option maxRecDepth 100000 in
theorem pd_254_1 : pDec cX12_tries 174 pk_254_1 = true := by decide +kernel
theorem pd_254 : pDec cX12_tries 0 pk_254 = true := (pDec_app pd_254_0 (by decide) pd_254_1)
set_option maxRecDepth 100000 in
theorem pd_255 : pDec cX12_fits 0 pk_255 = true := by decide +kernel
set_option maxRecDepth 100000 in
theorem pd_256 : pDec cJ9_abs_0f7a4 0 pk_256 = true := by decide +kernel
set_option maxRecDepth 100000 in
theorem pd_257 : pDec cX12_many 0 pk_257 = true := by decide +kernel
set_option maxRecDepth 100000 in
theorem pd_258 : pDec cX12_read 0 pk_258 = true := by decide +kernel
set_option maxRecDepth 100000 in
theorem pd_259 : pDec cX12_readNext 0 pk_259 = true := by decide +kernel
set_option maxRecDepth 100000 in
theorem pd_260 : pDec cX12_slip 0 pk_260 = true := by decide +kernel
set_option maxRecDepth 100000 in
theorem pd_261 : pDec cX12_follows 0 pk_261 = true := by decide +kernel
set_option maxRecDepth 100000 in
theorem pd_262 : pDec cX12_slips 0 pk_262 = true := by decide +kernel
set_option maxRecDepth 100000 in
theorem pd_263 : pDec cX12_breaks 0 pk_263 = true := by decide +kernel
set_option maxRecDepth 100000 in
theorem pd_264 : pDec cX12_brief 0 pk_264 = true := by decide +kernel
set_option maxRecDepth 100000 in
theorem pd_265 : pDec cX12_part 0 pk_265 = true := by decide +kernel
set_option maxRecDepth 100000 in
theorem pd_266 : pDec cX12_best 0 pk_266 = true := by decide +kernel
set_option maxRecDepth 100000 in
theorem pd_267_0 : pDec cX12_odds 0 pk_267_0 = true := by decide +kernel
set_option maxRecDepth 100000 in
theorem pd_267_1 : pDec cX12_odds 182 pk_267_1 = true := by decide +kernel
theorem pd_267 : pDec cX12_odds 0 pk_267 = true := (pDec_app pd_267_0 (by decide) pd_267_1)
set_option maxRecDepth 100000 in
theorem pd_268 : pDec cX12_common 0 pk_268 = true := by decide +kernel
set_option maxRecDepth 100000 in
theorem pd_269_0 : pDec cX12_shared 0 pk_269_0 = true := by decide +kernel
set_option maxRecDepth 100000 in
theorem pd_269_1 : pDec cX12_shared 193 pk_269_1 = true := by decide +kernel
theorem pd_269 : pDec cX12_shared 0 pk_269 = true := (pDec_app pd_269_0 (by decide) pd_269_1)
set_option maxRecDepth 100000 in
theorem pd_270 : pDec cX12_isSlip 0 pk_270 = true := by decide +kernel
set_option maxRecDepth 100000 in
theorem pd_271_0 : pDec cX12_alike 0 pk_271_0 = true := by decide +kernel
set_option maxRecDepth 100000 in
theorem pd_271_1 : pDec cX12_alike 174 pk_271_1 = true := by decide +kernel
theorem pd_271 : pDec cX12_alike 0 pk_271 = true := (pDec_app pd_271_0 (by decide) pd_271_1)
set_option maxRecDepth 100000 in
theorem pd_272 : pDec cX12_way 0 pk_272 = true := by decide +kernel
set_option maxRecDepth 100000 in
theorem pd_273 : pDec cX12_cheaper 0 pk_273 = true := by decide +kernel
set_option maxRecDepth 100000 in
theorem pd_274_0 : pDec cX12_write 0 pk_274_0 = true := by decide +kernel
set_option maxRecDepth 100000 in
theorem pd_274_1 : pDec cX12_write 169 pk_274_1 = true := by decide +kernel
set_option maxRecDepth 100000 in
theorem pd_274_2 : pDec cX12_write 345 pk_274_2 = true := by decide +kernel
theorem pd_274 : pDec cX12_write 0 pk_274 = true := (pDec_app pd_274_0 (by decide) (pDec_app pd_274_1 (by decide) pd_274_2))
set_option maxRecDepth 100000 in
theorem pd_275 : pDec cX12_draw 0 pk_275 = true := by decide +kernel
set_option maxRecDepth 100000 in
theorem pd_276 : pDec cX12_count 0 pk_276 = true := by decide +kernel
set_option maxRecDepth 100000 in
theorem pd_277 : pDec cL_kind 0 pk_277 = true := by decide +kernel
set_option maxRecDepth 100000 in
theorem pd_278 : pDec cL_measure 0 pk_278 = true := by decide +kernel
set_option maxRecDepth 100000 in
theorem pd_279 : pDec cL_put 0 pk_279 = true := by decide +kernel
set_option maxRecDepth 100000 in
theorem pd_280 : pDec cL_moves 0 pk_280 = true := by decide +kernel
set_option maxRecDepth 100000 in
theorem pd_281 : pDec cL_book 0 pk_281 = true := by decide +kernel
set_option maxRecDepth 100000 in
theorem pd_282 : pDec cL_note 0 pk_282 = true := by decide +kernel
set_option maxRecDepth 100000 in
theorem pd_283 : pDec cL_change 0 pk_283 = true := by decide +kernel
set_option maxRecDepth 100000 in
theorem pd_284 : pDec cL_look 0 pk_284 = true := by decide +kernel
set_option maxRecDepth 100000 in
theorem pd_285 : pDec cL_write 0 pk_285 = true := by decide +kernel
set_option maxRecDepth 100000 in
theorem pd_286 : pDec cL_price 0 pk_286 = true := by decide +kernel
set_option maxRecDepth 100000 in
theorem pd_287 : pDec cL_length 0 pk_287 = true := by decide +kernel
set_option maxRecDepth 100000 in
theorem pd_288 : pDec cL_picture 0 pk_288 = true := by decide +kernel
set_option maxRecDepth 100000 in
theorem pd_289 : pDec cL_read 0 pk_289 = true := by decide +kernel
set_option maxRecDepth 100000 in
theorem pd_290 : pDec cL_readNext 0 pk_290 = true := by decide +kernel
set_option maxRecDepth 100000 in
theorem pd_291 : pDec cL_slip 0 pk_291 = true := by decide +kernel
set_option maxRecDepth 100000 in
theorem pd_292 : pDec cL_slips 0 pk_292 = true := by decide +kernel
set_option maxRecDepth 100000 in
theorem pd_293 : pDec cL_breaks 0 pk_293 = true := by decide +kernel
set_option maxRecDepth 100000 in
theorem pd_294 : pDec cL_brief 0 pk_294 = true := by decide +kernel
set_option maxRecDepth 100000 in
theorem pd_295 : pDec cL_best 0 pk_295 = true := by decide +kernel
set_option maxRecDepth 100000 in
theorem pd_296 : pDec cL_odds 0 pk_296 = true := by decide +kernel
set_option maxRecDepth 100000 in
theorem pd_297 : pDec cL_shared 0 pk_297 = true := by decide +kernel
set_option maxRecDepth 100000 in
theorem pd_298 : pDec cL_alike 0 pk_298 = true := by decide +kernel
set_option maxRecDepth 100000 in
theorem pd_299 : pDec cL_way 0 pk_299 = true := by decide +kernel
set_option maxRecDepth 100000 in
theorem pd_300 : pDec cL_cheaper 0 pk_300 = true := by decide +kernel
set_option maxRecDepth 100000 in
theorem pd_301_0 : pDec cL_law 0 pk_301_0 = true := by decide +kernel
set_option maxRecDepth 100000 in
theorem pd_301_1 : pDec cL_law 287 pk_301_1 = true := by decide +kernel
set_option maxRecDepth 100000 in
theorem pd_301_2 : pDec cL_law 437 pk_301_2 = true := by decide +kernel
set_option maxRecDepth 100000 in
theorem pd_301_3 : pDec cL_law 570 pk_301_3 = true := by decide +kernel
set_option maxRecDepth 100000 in
theorem pd_301_4 : pDec cL_law 704 pk_301_4 = true := by decide +kernel
set_option maxRecDepth 100000 in
theorem pd_301_5 : pDec cL_law 845 pk_301_5 = true := by decide +kernel
set_option maxRecDepth 100000 in
theorem pd_301_6 : pDec cL_law 998 pk_301_6 = true := by decide +kernel
set_option maxRecDepth 100000 in
theorem pd_301_7 : pDec cL_law 1153 pk_301_7 = true := by decide +kernel
set_option maxRecDepth 100000 in
theorem pd_301_8 : pDec cL_law 1301 pk_301_8 = true := by decide +kernel
theorem pd_301 : pDec cL_law 0 pk_301 = true := (pDec_app pd_301_0 (by decide) (pDec_app pd_301_1 (by decide) (pDec_app pd_301_2 (by decide) (pDec_app pd_301_3 (by decide) (pDec_app pd_301_4 (by decide) (pDec_app pd_301_5 (by decide) (pDec_app pd_301_6 (by decide) (pDec_app pd_301_7 (by decide) pd_301_8))))))))
theorem pM_g0 : ∀ r ∈ pM_0, pDec r.2.1 0 r.2.2.2.2.2.2 = true := List.forall_mem_cons.mpr ⟨pd_0, List.forall_mem_cons.mpr ⟨pd_1, List.forall_mem_cons.mpr ⟨pd_2, List.forall_mem_cons.mpr ⟨pd_3, List.forall_mem_cons.mpr ⟨pd_4, List.forall_mem_cons.mpr ⟨pd_5, List.forall_mem_cons.mpr ⟨pd_6, List.forall_mem_cons.mpr ⟨pd_7, List.forall_mem_cons.mpr ⟨pd_8, List.forall_mem_cons.mpr ⟨pd_9, List.forall_mem_cons.mpr ⟨pd_10, List.forall_mem_cons.mpr ⟨pd_11, List.forall_mem_cons.mpr ⟨pd_12, List.forall_mem_cons.mpr ⟨pd_13, List.forall_mem_cons.mpr ⟨pd_14, List.forall_mem_cons.mpr ⟨pd_15, List.forall_mem_cons.mpr ⟨pd_16, List.forall_mem_cons.mpr ⟨pd_17, List.forall_mem_cons.mpr ⟨pd_18, List.forall_mem_cons.mpr ⟨pd_19, List.forall_mem_cons.mpr ⟨pd_20, List.forall_mem_cons.mpr ⟨pd_21, List.forall_mem_cons.mpr ⟨pd_22, List.forall_mem_cons.mpr ⟨pd_23, List.forall_mem_cons.mpr ⟨pd_24, List.forall_mem_cons.mpr ⟨pd_25, List.forall_mem_cons.mpr ⟨pd_26, List.forall_mem_cons.mpr ⟨pd_27, List.forall_mem_cons.mpr ⟨pd_28, List.forall_mem_cons.mpr ⟨pd_29, List.forall_mem_cons.mpr ⟨pd_30, List.forall_mem_cons.mpr ⟨pd_31, List.forall_mem_cons.mpr ⟨pd_32, List.forall_mem_cons.mpr ⟨pd_33, List.forall_mem_cons.mpr ⟨pd_34, List.forall_mem_cons.mpr ⟨pd_35, List.forall_mem_cons.mpr ⟨pd_36, List.forall_mem_cons.mpr ⟨pd_37, List.forall_mem_cons.mpr ⟨pd_38, List.forall_mem_cons.mpr ⟨pd_39, (fun _ h => absurd h List.not_mem_nil)⟩⟩⟩⟩⟩⟩⟩⟩⟩⟩⟩⟩⟩⟩⟩⟩⟩⟩⟩⟩⟩⟩⟩⟩⟩⟩⟩⟩⟩⟩⟩⟩⟩⟩⟩⟩⟩⟩⟩⟩
theorem pM_g1 : ∀ r ∈ pM_1, pDec r.2.1 0 r.2.2.2.2.2.2 = true := List.forall_mem_cons.mpr ⟨pd_40, List.forall_mem_cons.mpr ⟨pd_41, List.forall_mem_cons.mpr ⟨pd_42, List.forall_mem_cons.mpr ⟨pd_43, List.forall_mem_cons.mpr ⟨pd_44, List.forall_mem_cons.mpr ⟨pd_45, List.forall_mem_cons.mpr ⟨pd_46, List.forall_mem_cons.mpr ⟨pd_47, List.forall_mem_cons.mpr ⟨pd_48, List.forall_mem_cons.mpr ⟨pd_49, List.forall_mem_cons.mpr ⟨pd_50, List.forall_mem_cons.mpr ⟨pd_51, List.forall_mem_cons.mpr ⟨pd_52, List.forall_mem_cons.mpr ⟨pd_53, List.forall_mem_cons.mpr ⟨pd_54, List.forall_mem_cons.mpr ⟨pd_55, List.forall_mem_cons.mpr ⟨pd_56, List.forall_mem_cons.mpr ⟨pd_57, List.forall_mem_cons.mpr ⟨pd_58, List.forall_mem_cons.mpr ⟨pd_59, List.forall_mem_cons.mpr ⟨pd_60, List.forall_mem_cons.mpr ⟨pd_61, List.forall_mem_cons.mpr ⟨pd_62, List.forall_mem_cons.mpr ⟨pd_63, List.forall_mem_cons.mpr ⟨pd_64, List.forall_mem_cons.mpr ⟨pd_65, List.forall_mem_cons.mpr ⟨pd_66, List.forall_mem_cons.mpr ⟨pd_67, List.forall_mem_cons.mpr ⟨pd_68, List.forall_mem_cons.mpr ⟨pd_69, List.forall_mem_cons.mpr ⟨pd_70, List.forall_mem_cons.mpr ⟨pd_71, List.forall_mem_cons.mpr ⟨pd_72, List.forall_mem_cons.mpr ⟨pd_73, List.forall_mem_cons.mpr ⟨pd_74, List.forall_mem_cons.mpr ⟨pd_75, List.forall_mem_cons.mpr ⟨pd_76, List.forall_mem_cons.mpr ⟨pd_77, List.forall_mem_cons.mpr ⟨pd_78, List.forall_mem_cons.mpr ⟨pd_79, (fun _ h => absurd h List.not_mem_nil)⟩⟩⟩⟩⟩⟩⟩⟩⟩⟩⟩⟩⟩⟩⟩⟩⟩⟩⟩⟩⟩⟩⟩⟩⟩⟩⟩⟩⟩⟩⟩⟩⟩⟩⟩⟩⟩⟩⟩⟩
theorem pM_g2 : ∀ r ∈ pM_2, pDec r.2.1 0 r.2.2.2.2.2.2 = true := List.forall_mem_cons.mpr ⟨pd_80, List.forall_mem_cons.mpr ⟨pd_81, List.forall_mem_cons.mpr ⟨pd_82, List.forall_mem_cons.mpr ⟨pd_83, List.forall_mem_cons.mpr ⟨pd_84, List.forall_mem_cons.mpr ⟨pd_85, List.forall_mem_cons.mpr ⟨pd_86, List.forall_mem_cons.mpr ⟨pd_87, List.forall_mem_cons.mpr ⟨pd_88, List.forall_mem_cons.mpr ⟨pd_89, List.forall_mem_cons.mpr ⟨pd_90, List.forall_mem_cons.mpr ⟨pd_91, List.forall_mem_cons.mpr ⟨pd_92, List.forall_mem_cons.mpr ⟨pd_93, List.forall_mem_cons.mpr ⟨pd_94, List.forall_mem_cons.mpr ⟨pd_95, List.forall_mem_cons.mpr ⟨pd_96, List.forall_mem_cons.mpr ⟨pd_97, List.forall_mem_cons.mpr ⟨pd_98, List.forall_mem_cons.mpr ⟨pd_99, List.forall_mem_cons.mpr ⟨pd_100, List.forall_mem_cons.mpr ⟨pd_101, List.forall_mem_cons.mpr ⟨pd_102, List.forall_mem_cons.mpr ⟨pd_103, List.forall_mem_cons.mpr ⟨pd_104, List.forall_mem_cons.mpr ⟨pd_105, List.forall_mem_cons.mpr ⟨pd_106, List.forall_mem_cons.mpr ⟨pd_107, List.forall_mem_cons.mpr ⟨pd_108, List.forall_mem_cons.mpr ⟨pd_109, List.forall_mem_cons.mpr ⟨pd_110, List.forall_mem_cons.mpr ⟨pd_111, List.forall_mem_cons.mpr ⟨pd_112, List.forall_mem_cons.mpr ⟨pd_113, List.forall_mem_cons.mpr ⟨pd_114, List.forall_mem_cons.mpr ⟨pd_115, List.forall_mem_cons.mpr ⟨pd_116, List.forall_mem_cons.mpr ⟨pd_117, List.forall_mem_cons.mpr ⟨pd_118, List.forall_mem_cons.mpr ⟨pd_119, (fun _ h => absurd h List.not_mem_nil)⟩⟩⟩⟩⟩⟩⟩⟩⟩⟩⟩⟩⟩⟩⟩⟩⟩⟩⟩⟩⟩⟩⟩⟩⟩⟩⟩⟩⟩⟩⟩⟩⟩⟩⟩⟩⟩⟩⟩⟩
theorem pM_g3 : ∀ r ∈ pM_3, pDec r.2.1 0 r.2.2.2.2.2.2 = true := List.forall_mem_cons.mpr ⟨pd_120, List.forall_mem_cons.mpr ⟨pd_121, List.forall_mem_cons.mpr ⟨pd_122, List.forall_mem_cons.mpr ⟨pd_123, List.forall_mem_cons.mpr ⟨pd_124, List.forall_mem_cons.mpr ⟨pd_125, List.forall_mem_cons.mpr ⟨pd_126, List.forall_mem_cons.mpr ⟨pd_127, List.forall_mem_cons.mpr ⟨pd_128, List.forall_mem_cons.mpr ⟨pd_129, List.forall_mem_cons.mpr ⟨pd_130, List.forall_mem_cons.mpr ⟨pd_131, List.forall_mem_cons.mpr ⟨pd_132, List.forall_mem_cons.mpr ⟨pd_133, List.forall_mem_cons.mpr ⟨pd_134, List.forall_mem_cons.mpr ⟨pd_135, List.forall_mem_cons.mpr ⟨pd_136, List.forall_mem_cons.mpr ⟨pd_137, List.forall_mem_cons.mpr ⟨pd_138, List.forall_mem_cons.mpr ⟨pd_139, List.forall_mem_cons.mpr ⟨pd_140, List.forall_mem_cons.mpr ⟨pd_141, List.forall_mem_cons.mpr ⟨pd_142, List.forall_mem_cons.mpr ⟨pd_143, List.forall_mem_cons.mpr ⟨pd_144, List.forall_mem_cons.mpr ⟨pd_145, List.forall_mem_cons.mpr ⟨pd_146, List.forall_mem_cons.mpr ⟨pd_147, List.forall_mem_cons.mpr ⟨pd_148, List.forall_mem_cons.mpr ⟨pd_149, List.forall_mem_cons.mpr ⟨pd_150, List.forall_mem_cons.mpr ⟨pd_151, List.forall_mem_cons.mpr ⟨pd_152, List.forall_mem_cons.mpr ⟨pd_153, List.forall_mem_cons.mpr ⟨pd_154, List.forall_mem_cons.mpr ⟨pd_155, List.forall_mem_cons.mpr ⟨pd_156, List.forall_mem_cons.mpr ⟨pd_157, List.forall_mem_cons.mpr ⟨pd_158, List.forall_mem_cons.mpr ⟨pd_159, (fun _ h => absurd h List.not_mem_nil)⟩⟩⟩⟩⟩⟩⟩⟩⟩⟩⟩⟩⟩⟩⟩⟩⟩⟩⟩⟩⟩⟩⟩⟩⟩⟩⟩⟩⟩⟩⟩⟩⟩⟩⟩⟩⟩⟩⟩⟩
theorem pM_g4 : ∀ r ∈ pM_4, pDec r.2.1 0 r.2.2.2.2.2.2 = true := List.forall_mem_cons.mpr ⟨pd_160, List.forall_mem_cons.mpr ⟨pd_161, List.forall_mem_cons.mpr ⟨pd_162, List.forall_mem_cons.mpr ⟨pd_163, List.forall_mem_cons.mpr ⟨pd_164, List.forall_mem_cons.mpr ⟨pd_165, List.forall_mem_cons.mpr ⟨pd_166, List.forall_mem_cons.mpr ⟨pd_167, List.forall_mem_cons.mpr ⟨pd_168, List.forall_mem_cons.mpr ⟨pd_169, List.forall_mem_cons.mpr ⟨pd_170, List.forall_mem_cons.mpr ⟨pd_171, List.forall_mem_cons.mpr ⟨pd_172, List.forall_mem_cons.mpr ⟨pd_173, List.forall_mem_cons.mpr ⟨pd_174, List.forall_mem_cons.mpr ⟨pd_175, List.forall_mem_cons.mpr ⟨pd_176, List.forall_mem_cons.mpr ⟨pd_177, List.forall_mem_cons.mpr ⟨pd_178, List.forall_mem_cons.mpr ⟨pd_179, List.forall_mem_cons.mpr ⟨pd_180, List.forall_mem_cons.mpr ⟨pd_181, List.forall_mem_cons.mpr ⟨pd_182, List.forall_mem_cons.mpr ⟨pd_183, List.forall_mem_cons.mpr ⟨pd_184, List.forall_mem_cons.mpr ⟨pd_185, List.forall_mem_cons.mpr ⟨pd_186, List.forall_mem_cons.mpr ⟨pd_187, List.forall_mem_cons.mpr ⟨pd_188, List.forall_mem_cons.mpr ⟨pd_189, List.forall_mem_cons.mpr ⟨pd_190, List.forall_mem_cons.mpr ⟨pd_191, List.forall_mem_cons.mpr ⟨pd_192, List.forall_mem_cons.mpr ⟨pd_193, List.forall_mem_cons.mpr ⟨pd_194, List.forall_mem_cons.mpr ⟨pd_195, List.forall_mem_cons.mpr ⟨pd_196, List.forall_mem_cons.mpr ⟨pd_197, List.forall_mem_cons.mpr ⟨pd_198, List.forall_mem_cons.mpr ⟨pd_199, (fun _ h => absurd h List.not_mem_nil)⟩⟩⟩⟩⟩⟩⟩⟩⟩⟩⟩⟩⟩⟩⟩⟩⟩⟩⟩⟩⟩⟩⟩⟩⟩⟩⟩⟩⟩⟩⟩⟩⟩⟩⟩⟩⟩⟩⟩⟩
theorem pM_g5 : ∀ r ∈ pM_5, pDec r.2.1 0 r.2.2.2.2.2.2 = true := List.forall_mem_cons.mpr ⟨pd_200, List.forall_mem_cons.mpr ⟨pd_201, List.forall_mem_cons.mpr ⟨pd_202, List.forall_mem_cons.mpr ⟨pd_203, List.forall_mem_cons.mpr ⟨pd_204, List.forall_mem_cons.mpr ⟨pd_205, List.forall_mem_cons.mpr ⟨pd_206, List.forall_mem_cons.mpr ⟨pd_207, List.forall_mem_cons.mpr ⟨pd_208, List.forall_mem_cons.mpr ⟨pd_209, List.forall_mem_cons.mpr ⟨pd_210, List.forall_mem_cons.mpr ⟨pd_211, List.forall_mem_cons.mpr ⟨pd_212, List.forall_mem_cons.mpr ⟨pd_213, List.forall_mem_cons.mpr ⟨pd_214, List.forall_mem_cons.mpr ⟨pd_215, List.forall_mem_cons.mpr ⟨pd_216, List.forall_mem_cons.mpr ⟨pd_217, List.forall_mem_cons.mpr ⟨pd_218, List.forall_mem_cons.mpr ⟨pd_219, List.forall_mem_cons.mpr ⟨pd_220, List.forall_mem_cons.mpr ⟨pd_221, List.forall_mem_cons.mpr ⟨pd_222, List.forall_mem_cons.mpr ⟨pd_223, List.forall_mem_cons.mpr ⟨pd_224, List.forall_mem_cons.mpr ⟨pd_225, List.forall_mem_cons.mpr ⟨pd_226, List.forall_mem_cons.mpr ⟨pd_227, List.forall_mem_cons.mpr ⟨pd_228, List.forall_mem_cons.mpr ⟨pd_229, List.forall_mem_cons.mpr ⟨pd_230, List.forall_mem_cons.mpr ⟨pd_231, List.forall_mem_cons.mpr ⟨pd_232, List.forall_mem_cons.mpr ⟨pd_233, List.forall_mem_cons.mpr ⟨pd_234, List.forall_mem_cons.mpr ⟨pd_235, List.forall_mem_cons.mpr ⟨pd_236, List.forall_mem_cons.mpr ⟨pd_237, List.forall_mem_cons.mpr ⟨pd_238, List.forall_mem_cons.mpr ⟨pd_239, (fun _ h => absurd h List.not_mem_nil)⟩⟩⟩⟩⟩⟩⟩⟩⟩⟩⟩⟩⟩⟩⟩⟩⟩⟩⟩⟩⟩⟩⟩⟩⟩⟩⟩⟩⟩⟩⟩⟩⟩⟩⟩⟩⟩⟩⟩⟩
theorem pM_g6 : ∀ r ∈ pM_6, pDec r.2.1 0 r.2.2.2.2.2.2 = true := List.forall_mem_cons.mpr ⟨pd_240, List.forall_mem_cons.mpr ⟨pd_241, List.forall_mem_cons.mpr ⟨pd_242, List.forall_mem_cons.mpr ⟨pd_243, List.forall_mem_cons.mpr ⟨pd_244, List.forall_mem_cons.mpr ⟨pd_245, List.forall_mem_cons.mpr ⟨pd_246, List.forall_mem_cons.mpr ⟨pd_247, List.forall_mem_cons.mpr ⟨pd_248, List.forall_mem_cons.mpr ⟨pd_249, List.forall_mem_cons.mpr ⟨pd_250, List.forall_mem_cons.mpr ⟨pd_251, List.forall_mem_cons.mpr ⟨pd_252, List.forall_mem_cons.mpr ⟨pd_253, List.forall_mem_cons.mpr ⟨pd_254, List.forall_mem_cons.mpr ⟨pd_255, List.forall_mem_cons.mpr ⟨pd_256, List.forall_mem_cons.mpr ⟨pd_257, List.forall_mem_cons.mpr ⟨pd_258, List.forall_mem_cons.mpr ⟨pd_259, List.forall_mem_cons.mpr ⟨pd_260, List.forall_mem_cons.mpr ⟨pd_261, List.forall_mem_cons.mpr ⟨pd_262, List.forall_mem_cons.mpr ⟨pd_263, List.forall_mem_cons.mpr ⟨pd_264, List.forall_mem_cons.mpr ⟨pd_265, List.forall_mem_cons.mpr ⟨pd_266, List.forall_mem_cons.mpr ⟨pd_267, List.forall_mem_cons.mpr ⟨pd_268, List.forall_mem_cons.mpr ⟨pd_269, List.forall_mem_cons.mpr ⟨pd_270, List.forall_mem_cons.mpr ⟨pd_271, List.forall_mem_cons.mpr ⟨pd_272, List.forall_mem_cons.mpr ⟨pd_273, List.forall_mem_cons.mpr ⟨pd_274, List.forall_mem_cons.mpr ⟨pd_275, List.forall_mem_cons.mpr ⟨pd_276, List.forall_mem_cons.mpr ⟨pd_277, List.forall_mem_cons.mpr ⟨pd_278, List.forall_mem_cons.mpr ⟨pd_279, (fun _ h => absurd h List.not_mem_nil)⟩⟩⟩⟩⟩⟩⟩⟩⟩⟩⟩⟩⟩⟩⟩⟩⟩⟩⟩⟩⟩⟩⟩⟩⟩⟩⟩⟩⟩⟩⟩⟩⟩⟩⟩⟩⟩⟩⟩⟩
theorem pM_g7 : ∀ r ∈ pM_7, pDec r.2.1 0 r.2.2.2.2.2.2 = true := List.forall_mem_cons.mpr ⟨pd_280, List.forall_mem_cons.mpr ⟨pd_281, List.forall_mem_cons.mpr ⟨pd_282, List.forall_mem_cons.mpr ⟨pd_283, List.forall_mem_cons.mpr ⟨pd_284, List.forall_mem_cons.mpr ⟨pd_285, List.forall_mem_cons.mpr ⟨pd_286, List.forall_mem_cons.mpr ⟨pd_287, List.forall_mem_cons.mpr ⟨pd_288, List.forall_mem_cons.mpr ⟨pd_289, List.forall_mem_cons.mpr ⟨pd_290, List.forall_mem_cons.mpr ⟨pd_291, List.forall_mem_cons.mpr ⟨pd_292, List.forall_mem_cons.mpr ⟨pd_293, List.forall_mem_cons.mpr ⟨pd_294, List.forall_mem_cons.mpr ⟨pd_295, List.forall_mem_cons.mpr ⟨pd_296, List.forall_mem_cons.mpr ⟨pd_297, List.forall_mem_cons.mpr ⟨pd_298, List.forall_mem_cons.mpr ⟨pd_299, List.forall_mem_cons.mpr ⟨pd_300, List.forall_mem_cons.mpr ⟨pd_301, (fun _ h => absurd h List.not_mem_nil)⟩⟩⟩⟩⟩⟩⟩⟩⟩⟩⟩⟩⟩⟩⟩⟩⟩⟩⟩⟩⟩⟩
theorem pM_dec : ∀ r ∈ pM, pDec r.2.1 0 r.2.2.2.2.2.2 = true := List.forall_mem_append.mpr ⟨pM_g0, List.forall_mem_append.mpr ⟨pM_g1, List.forall_mem_append.mpr ⟨pM_g2, List.forall_mem_append.mpr ⟨pM_g3, List.forall_mem_append.mpr ⟨pM_g4, List.forall_mem_append.mpr ⟨pM_g5, List.forall_mem_append.mpr ⟨pM_g6, pM_g7⟩⟩⟩⟩⟩⟩⟩
theorem pM_at {j k : Nat} {r : pMrow} {e : pEnt} (hj : pM[j]? = some r) (h : pAt r.2.2.2.2.2.2 k = some e) : decode r.2.1 k = .ok (e.1, e.2.1) ∧ (pLen e.1 = 0 ∨ pLen e.1 = e.2.1) := by
  have h1 := pM_dec r (List.mem_of_getElem? hj)
  have h2 := pDec_at _ _ _ _ h1 h
  rwa [Nat.zero_add] at h2

