/-! THE READER of the reference; printed by wip/rel/kind.py -/
theorem i_174_7 : iRow 174 7 = some (.invokevirtual 231, 262, 175, 1, (some (Jvm.ClassFile.FieldType.int))) := rfl
theorem i_175_51 : iRow 175 51 = some (.bipush 6, 0, 0, 0, (some (Jvm.ClassFile.FieldType.int))) := rfl
theorem i_175_53 : iRow 175 53 = some (.goto 5, 0, 0, 0, (some (Jvm.ClassFile.FieldType.int))) := rfl
theorem i_175_67 : iRow 175 67 = some (.aload_n 0, 0, 0, 0, (some (Jvm.ClassFile.FieldType.int))) := rfl
theorem i_175_68 : iRow 175 68 = some (.iload_n 2, 0, 0, 0, (some (Jvm.ClassFile.FieldType.int))) := rfl
theorem i_175_69 : iRow 175 69 = some (.invokevirtual 225, 266, 179, 1, (some (Jvm.ClassFile.FieldType.int))) := rfl
theorem i_175_72 : iRow 175 72 = some (.ifCond .eq 14, 0, 0, 0, (some (Jvm.ClassFile.FieldType.int))) := rfl
theorem i_175_75 : iRow 175 75 = some (.goto 13, 0, 0, 0, (some (Jvm.ClassFile.FieldType.int))) := rfl
theorem i_179_0 : iRow 179 0 = some (.aload_n 0, 0, 0, 0, (some (Jvm.ClassFile.FieldType.boolean))) := rfl
theorem i_179_1 : iRow 179 1 = some (.ldc 215, 26, 26, 1, (some (Jvm.ClassFile.FieldType.boolean))) := rfl
theorem i_179_3 : iRow 179 3 = some (.invokevirtual 149, 267, 180, 1, (some (Jvm.ClassFile.FieldType.boolean))) := rfl
theorem i_179_6 : iRow 179 6 = some (.ifCond .eq 7, 0, 0, 0, (some (Jvm.ClassFile.FieldType.boolean))) := rfl
theorem i_179_9 : iRow 179 9 = some (.iconst 0, 0, 0, 0, (some (Jvm.ClassFile.FieldType.boolean))) := rfl
theorem i_179_10 : iRow 179 10 = some (.goto 56, 0, 0, 0, (some (Jvm.ClassFile.FieldType.boolean))) := rfl
theorem i_179_13 : iRow 179 13 = some (.aload_n 0, 0, 0, 0, (some (Jvm.ClassFile.FieldType.boolean))) := rfl
theorem i_179_14 : iRow 179 14 = some (.ldc 217, 27, 27, 1, (some (Jvm.ClassFile.FieldType.boolean))) := rfl
theorem i_179_16 : iRow 179 16 = some (.invokevirtual 149, 267, 180, 1, (some (Jvm.ClassFile.FieldType.boolean))) := rfl
theorem i_179_19 : iRow 179 19 = some (.ifCond .eq 7, 0, 0, 0, (some (Jvm.ClassFile.FieldType.boolean))) := rfl
theorem i_179_22 : iRow 179 22 = some (.iconst 1, 0, 0, 0, (some (Jvm.ClassFile.FieldType.boolean))) := rfl
theorem i_179_23 : iRow 179 23 = some (.goto 43, 0, 0, 0, (some (Jvm.ClassFile.FieldType.boolean))) := rfl
theorem i_179_26 : iRow 179 26 = some (.aload_n 0, 0, 0, 0, (some (Jvm.ClassFile.FieldType.boolean))) := rfl
theorem i_179_27 : iRow 179 27 = some (.ldc 219, 28, 28, 1, (some (Jvm.ClassFile.FieldType.boolean))) := rfl
theorem i_179_29 : iRow 179 29 = some (.invokevirtual 149, 267, 180, 1, (some (Jvm.ClassFile.FieldType.boolean))) := rfl
theorem i_179_32 : iRow 179 32 = some (.ifCond .eq 7, 0, 0, 0, (some (Jvm.ClassFile.FieldType.boolean))) := rfl
theorem i_179_35 : iRow 179 35 = some (.iconst 2, 0, 0, 0, (some (Jvm.ClassFile.FieldType.boolean))) := rfl
theorem i_179_36 : iRow 179 36 = some (.goto 30, 0, 0, 0, (some (Jvm.ClassFile.FieldType.boolean))) := rfl
theorem i_179_39 : iRow 179 39 = some (.aload_n 0, 0, 0, 0, (some (Jvm.ClassFile.FieldType.boolean))) := rfl
theorem i_179_40 : iRow 179 40 = some (.ldc 221, 29, 29, 1, (some (Jvm.ClassFile.FieldType.boolean))) := rfl
theorem i_179_42 : iRow 179 42 = some (.invokevirtual 149, 267, 180, 1, (some (Jvm.ClassFile.FieldType.boolean))) := rfl
theorem i_179_45 : iRow 179 45 = some (.ifCond .eq 7, 0, 0, 0, (some (Jvm.ClassFile.FieldType.boolean))) := rfl
theorem i_179_48 : iRow 179 48 = some (.iconst 3, 0, 0, 0, (some (Jvm.ClassFile.FieldType.boolean))) := rfl
theorem i_179_49 : iRow 179 49 = some (.goto 17, 0, 0, 0, (some (Jvm.ClassFile.FieldType.boolean))) := rfl
theorem i_179_52 : iRow 179 52 = some (.aload_n 0, 0, 0, 0, (some (Jvm.ClassFile.FieldType.boolean))) := rfl
theorem i_179_53 : iRow 179 53 = some (.ldc 223, 30, 30, 1, (some (Jvm.ClassFile.FieldType.boolean))) := rfl
theorem i_179_55 : iRow 179 55 = some (.invokevirtual 149, 267, 180, 1, (some (Jvm.ClassFile.FieldType.boolean))) := rfl
theorem i_179_58 : iRow 179 58 = some (.ifCond .eq 7, 0, 0, 0, (some (Jvm.ClassFile.FieldType.boolean))) := rfl
theorem i_179_61 : iRow 179 61 = some (.iconst 4, 0, 0, 0, (some (Jvm.ClassFile.FieldType.boolean))) := rfl
theorem i_179_62 : iRow 179 62 = some (.goto 4, 0, 0, 0, (some (Jvm.ClassFile.FieldType.boolean))) := rfl
theorem i_179_65 : iRow 179 65 = some (.iconst (-1), 0, 0, 0, (some (Jvm.ClassFile.FieldType.boolean))) := rfl
theorem i_179_66 : iRow 179 66 = some (.istore_n 2, 0, 0, 0, (some (Jvm.ClassFile.FieldType.boolean))) := rfl
theorem i_179_67 : iRow 179 67 = some (.aload_n 0, 0, 0, 0, (some (Jvm.ClassFile.FieldType.boolean))) := rfl
theorem i_179_68 : iRow 179 68 = some (.getfield 30, 177, 12, 13, (some (Jvm.ClassFile.FieldType.boolean))) := rfl
theorem i_179_71 : iRow 179 71 = some (.iconst 2, 0, 0, 0, (some (Jvm.ClassFile.FieldType.boolean))) := rfl
theorem i_179_72 : iRow 179 72 = some (.iload_n 1, 0, 0, 0, (some (Jvm.ClassFile.FieldType.boolean))) := rfl
theorem i_179_73 : iRow 179 73 = some (.imul, 0, 0, 0, (some (Jvm.ClassFile.FieldType.boolean))) := rfl
theorem i_179_74 : iRow 179 74 = some (.iload_n 2, 0, 0, 0, (some (Jvm.ClassFile.FieldType.boolean))) := rfl
theorem i_179_75 : iRow 179 75 = some (.iastore, 0, 0, 0, (some (Jvm.ClassFile.FieldType.boolean))) := rfl
theorem i_179_76 : iRow 179 76 = some (.aload_n 0, 0, 0, 0, (some (Jvm.ClassFile.FieldType.boolean))) := rfl
theorem i_179_77 : iRow 179 77 = some (.getfield 30, 177, 12, 13, (some (Jvm.ClassFile.FieldType.boolean))) := rfl
theorem i_179_80 : iRow 179 80 = some (.iconst 2, 0, 0, 0, (some (Jvm.ClassFile.FieldType.boolean))) := rfl
theorem i_179_81 : iRow 179 81 = some (.iload_n 1, 0, 0, 0, (some (Jvm.ClassFile.FieldType.boolean))) := rfl
theorem i_179_82 : iRow 179 82 = some (.imul, 0, 0, 0, (some (Jvm.ClassFile.FieldType.boolean))) := rfl
theorem i_179_83 : iRow 179 83 = some (.iconst 1, 0, 0, 0, (some (Jvm.ClassFile.FieldType.boolean))) := rfl
theorem i_179_84 : iRow 179 84 = some (.iadd, 0, 0, 0, (some (Jvm.ClassFile.FieldType.boolean))) := rfl
theorem i_179_85 : iRow 179 85 = some (.iload_n 2, 0, 0, 0, (some (Jvm.ClassFile.FieldType.boolean))) := rfl
theorem i_179_86 : iRow 179 86 = some (.ifCond .lt 17, 0, 0, 0, (some (Jvm.ClassFile.FieldType.boolean))) := rfl
theorem i_179_89 : iRow 179 89 = some (.iload_n 2, 0, 0, 0, (some (Jvm.ClassFile.FieldType.boolean))) := rfl
theorem i_179_90 : iRow 179 90 = some (.iconst 3, 0, 0, 0, (some (Jvm.ClassFile.FieldType.boolean))) := rfl
theorem i_179_91 : iRow 179 91 = some (.if_icmp .ge 12, 0, 0, 0, (some (Jvm.ClassFile.FieldType.boolean))) := rfl
theorem i_179_94 : iRow 179 94 = some (.aload_n 0, 0, 0, 0, (some (Jvm.ClassFile.FieldType.boolean))) := rfl
theorem i_179_95 : iRow 179 95 = some (.iconst 1, 0, 0, 0, (some (Jvm.ClassFile.FieldType.boolean))) := rfl
theorem i_179_96 : iRow 179 96 = some (.iconst 5, 0, 0, 0, (some (Jvm.ClassFile.FieldType.boolean))) := rfl
theorem i_179_97 : iRow 179 97 = some (.invokevirtual 170, 270, 181, 1, (some (Jvm.ClassFile.FieldType.boolean))) := rfl
theorem i_179_100 : iRow 179 100 = some (.goto 4, 0, 0, 0, (some (Jvm.ClassFile.FieldType.boolean))) := rfl
theorem i_179_103 : iRow 179 103 = some (.iconst 0, 0, 0, 0, (some (Jvm.ClassFile.FieldType.boolean))) := rfl
theorem i_179_104 : iRow 179 104 = some (.iastore, 0, 0, 0, (some (Jvm.ClassFile.FieldType.boolean))) := rfl
theorem i_179_105 : iRow 179 105 = some (.iload_n 2, 0, 0, 0, (some (Jvm.ClassFile.FieldType.boolean))) := rfl
theorem i_179_106 : iRow 179 106 = some (.ifCond .lt 20, 0, 0, 0, (some (Jvm.ClassFile.FieldType.boolean))) := rfl
theorem i_179_109 : iRow 179 109 = some (.aload_n 0, 0, 0, 0, (some (Jvm.ClassFile.FieldType.boolean))) := rfl
theorem i_179_110 : iRow 179 110 = some (.getfield 30, 177, 12, 13, (some (Jvm.ClassFile.FieldType.boolean))) := rfl
theorem i_179_113 : iRow 179 113 = some (.iconst 2, 0, 0, 0, (some (Jvm.ClassFile.FieldType.boolean))) := rfl
theorem i_179_114 : iRow 179 114 = some (.iload_n 1, 0, 0, 0, (some (Jvm.ClassFile.FieldType.boolean))) := rfl
theorem i_179_115 : iRow 179 115 = some (.imul, 0, 0, 0, (some (Jvm.ClassFile.FieldType.boolean))) := rfl
theorem i_179_116 : iRow 179 116 = some (.iconst 1, 0, 0, 0, (some (Jvm.ClassFile.FieldType.boolean))) := rfl
theorem i_179_117 : iRow 179 117 = some (.iadd, 0, 0, 0, (some (Jvm.ClassFile.FieldType.boolean))) := rfl
theorem i_179_118 : iRow 179 118 = some (.iaload, 0, 0, 0, (some (Jvm.ClassFile.FieldType.boolean))) := rfl
theorem i_179_119 : iRow 179 119 = some (.ifCond .lt 7, 0, 0, 0, (some (Jvm.ClassFile.FieldType.boolean))) := rfl
theorem i_179_122 : iRow 179 122 = some (.iconst 1, 0, 0, 0, (some (Jvm.ClassFile.FieldType.boolean))) := rfl
theorem i_179_123 : iRow 179 123 = some (.goto 4, 0, 0, 0, (some (Jvm.ClassFile.FieldType.boolean))) := rfl
theorem i_179_126 : iRow 179 126 = some (.iconst 0, 0, 0, 0, (some (Jvm.ClassFile.FieldType.boolean))) := rfl
theorem i_179_127 : iRow 179 127 = some (.ireturn, 0, 0, 0, (some (Jvm.ClassFile.FieldType.boolean))) := rfl
theorem i_180_0 : iRow 180 0 = some (.aload_n 0, 0, 0, 0, (some (Jvm.ClassFile.FieldType.boolean))) := rfl
theorem i_180_1 : iRow 180 1 = some (.getfield 121, 170, 12, 6, (some (Jvm.ClassFile.FieldType.boolean))) := rfl
theorem i_180_4 : iRow 180 4 = some (.aload_n 0, 0, 0, 0, (some (Jvm.ClassFile.FieldType.boolean))) := rfl
theorem i_180_5 : iRow 180 5 = some (.getfield 130, 172, 12, 8, (some (Jvm.ClassFile.FieldType.boolean))) := rfl
theorem i_180_8 : iRow 180 8 = some (.isub, 0, 0, 0, (some (Jvm.ClassFile.FieldType.boolean))) := rfl
theorem i_180_9 : iRow 180 9 = some (.aload_n 1, 0, 0, 0, (some (Jvm.ClassFile.FieldType.boolean))) := rfl
theorem i_180_10 : iRow 180 10 = some (.invokevirtual 136, 268, 0, 8, (some (Jvm.ClassFile.FieldType.boolean))) := rfl
theorem i_180_13 : iRow 180 13 = some (.if_icmp .ne 7, 0, 0, 0, (some (Jvm.ClassFile.FieldType.boolean))) := rfl
theorem i_180_16 : iRow 180 16 = some (.iconst 1, 0, 0, 0, (some (Jvm.ClassFile.FieldType.boolean))) := rfl
theorem i_180_17 : iRow 180 17 = some (.goto 4, 0, 0, 0, (some (Jvm.ClassFile.FieldType.boolean))) := rfl
theorem i_180_20 : iRow 180 20 = some (.iconst 0, 0, 0, 0, (some (Jvm.ClassFile.FieldType.boolean))) := rfl
theorem i_180_21 : iRow 180 21 = some (.istore_n 2, 0, 0, 0, (some (Jvm.ClassFile.FieldType.boolean))) := rfl
theorem i_180_22 : iRow 180 22 = some (.iconst 0, 0, 0, 0, (some (Jvm.ClassFile.FieldType.boolean))) := rfl
theorem i_180_23 : iRow 180 23 = some (.istore_n 3, 0, 0, 0, (some (Jvm.ClassFile.FieldType.boolean))) := rfl
theorem i_180_24 : iRow 180 24 = some (.iload_n 2, 0, 0, 0, (some (Jvm.ClassFile.FieldType.boolean))) := rfl
theorem i_180_25 : iRow 180 25 = some (.ifCond .eq 42, 0, 0, 0, (some (Jvm.ClassFile.FieldType.boolean))) := rfl
theorem i_180_28 : iRow 180 28 = some (.iload_n 3, 0, 0, 0, (some (Jvm.ClassFile.FieldType.boolean))) := rfl
theorem i_180_29 : iRow 180 29 = some (.aload_n 1, 0, 0, 0, (some (Jvm.ClassFile.FieldType.boolean))) := rfl
theorem i_180_30 : iRow 180 30 = some (.invokevirtual 136, 268, 0, 8, (some (Jvm.ClassFile.FieldType.boolean))) := rfl
theorem i_180_33 : iRow 180 33 = some (.if_icmp .ge 34, 0, 0, 0, (some (Jvm.ClassFile.FieldType.boolean))) := rfl
theorem i_180_36 : iRow 180 36 = some (.aload_n 0, 0, 0, 0, (some (Jvm.ClassFile.FieldType.boolean))) := rfl
theorem i_180_37 : iRow 180 37 = some (.getfield 20, 168, 12, 4, (some (Jvm.ClassFile.FieldType.boolean))) := rfl
theorem i_180_40 : iRow 180 40 = some (.aload_n 0, 0, 0, 0, (some (Jvm.ClassFile.FieldType.boolean))) := rfl
theorem i_180_41 : iRow 180 41 = some (.getfield 130, 172, 12, 8, (some (Jvm.ClassFile.FieldType.boolean))) := rfl
theorem i_180_44 : iRow 180 44 = some (.iload_n 3, 0, 0, 0, (some (Jvm.ClassFile.FieldType.boolean))) := rfl
theorem i_180_45 : iRow 180 45 = some (.iadd, 0, 0, 0, (some (Jvm.ClassFile.FieldType.boolean))) := rfl
theorem i_180_46 : iRow 180 46 = some (.baload, 0, 0, 0, (some (Jvm.ClassFile.FieldType.boolean))) := rfl
theorem i_180_47 : iRow 180 47 = some (.aload_n 1, 0, 0, 0, (some (Jvm.ClassFile.FieldType.boolean))) := rfl
theorem i_180_48 : iRow 180 48 = some (.iload_n 3, 0, 0, 0, (some (Jvm.ClassFile.FieldType.boolean))) := rfl
theorem i_180_49 : iRow 180 49 = some (.invokevirtual 142, 269, 0, 9, (some (Jvm.ClassFile.FieldType.boolean))) := rfl
theorem i_180_52 : iRow 180 52 = some (.if_icmp .ne 7, 0, 0, 0, (some (Jvm.ClassFile.FieldType.boolean))) := rfl
theorem i_180_55 : iRow 180 55 = some (.iconst 1, 0, 0, 0, (some (Jvm.ClassFile.FieldType.boolean))) := rfl
theorem i_180_56 : iRow 180 56 = some (.goto 4, 0, 0, 0, (some (Jvm.ClassFile.FieldType.boolean))) := rfl
theorem i_180_59 : iRow 180 59 = some (.iconst 0, 0, 0, 0, (some (Jvm.ClassFile.FieldType.boolean))) := rfl
theorem i_180_60 : iRow 180 60 = some (.istore_n 2, 0, 0, 0, (some (Jvm.ClassFile.FieldType.boolean))) := rfl
theorem i_180_61 : iRow 180 61 = some (.iinc 3 1, 0, 0, 0, (some (Jvm.ClassFile.FieldType.boolean))) := rfl
theorem i_180_64 : iRow 180 64 = some (.goto (-40), 0, 0, 0, (some (Jvm.ClassFile.FieldType.boolean))) := rfl
theorem i_180_67 : iRow 180 67 = some (.iload_n 2, 0, 0, 0, (some (Jvm.ClassFile.FieldType.boolean))) := rfl
theorem i_180_68 : iRow 180 68 = some (.ireturn, 0, 0, 0, (some (Jvm.ClassFile.FieldType.boolean))) := rfl
/-! length() and charAt() by hand -/
theorem nI_zI {k : Nat} (h : k < 2147483648) : nI k = zI (k : Int) := Int32.toInt_inj.mp (by rw [nI_int h, zI_toInt (by unfold i32 iLO iHI; omega)])
theorem chr_bd {t : List Nat} {i : Nat} (h : ∀ x ∈ t, x ≤ 127) : 0 ≤ ((t.getD i 0 : Nat) : Int) ∧ ((t.getD i 0 : Nat) : Int) ≤ 127 := by
  have h1 : t.getD i 0 ≤ 127 := by
    rw [List.getD_eq_getElem?_getD]
    cases hg : t[i]? with
    | none => exact Nat.zero_le _
    | some x => exact h x (List.mem_of_getElem? hg)
  omega
section
variable {O : pOut} {d j kc ks pc q a ix : Nat} {Q : pRes → Prop} {L : PL} {s : List Value} {es : PH} {ret : Option FieldType}
theorem x_len {k : Nat} {t : List Nat} {n : Int} (hi : iRow j pc = some (.invokevirtual ix, q, a, 8, ret)) (hk : 8 ≤ k) (ht : pTX[k - 8]? = some t) (hn : (t.length : Int) = n) (hc : pCat s ≤ 8) (K : aW O (d + 1) j kc ks Q (pc + 3, L, .int (zI n) :: s, es)) : aW O (d + 1) j kc ks Q (pc, L, .ref k :: s, es) := by
  refine x_s3 hi rfl (fun _ => rfl) rfl ?_ (Nat.succ_pos d) K
  have h8 : ¬ (k < 8 ∨ 8 < pCat s) := by omega
  have hl : t.length < 1000 := (show ∀ v ∈ pTX, v.length < 1000 by decide +kernel) t (List.mem_of_getElem? ht)
  simp only [pS3]
  rw [if_neg h8, ht]
  show some (pc + 3, L, Value.int (nI t.length) :: s, es) = some (pc + 3, L, Value.int (zI n) :: s, es)
  rw [nI_zI (by omega), hn]
theorem x_chr {k : Nat} {t : List Nat} {x : Int} (hi : iRow j pc = some (.invokevirtual ix, q, a, 9, ret)) (hk : 8 ≤ k) (ht : pTX[k - 8]? = some t) (hx : i32 x) (h0 : 0 ≤ x) (h1 : x < (t.length : Int)) (ha : ∀ y ∈ t, y ≤ 127) (hc : pCat s ≤ 8) (K : aW O (d + 1) j kc ks Q (pc + 3, L, .int (zI ((t.getD x.toNat 0 : Nat) : Int)) :: s, es)) : aW O (d + 1) j kc ks Q (pc, L, .int (zI x) :: .ref k :: s, es) := by
  refine x_s3 hi rfl (fun _ => rfl) rfl ?_ (Nat.succ_pos d) K
  have hz : (zI x).toInt = x := zI_toInt hx
  have hx0 : ¬ zI x < 0 := by rw [Int32.lt_iff_toInt_lt, Int32.toInt_zero]; omega
  have h8 : ¬ (k < 8 ∨ 8 < pCat s ∨ zI x < 0) := by
    intro hh
    rcases hh with hh | hh | hh
    · omega
    · omega
    · exact hx0 hh
  have hxe : (zI x).toNatClampNeg = (zI x).toInt.toNat := rfl
  have hlt : (zI x).toNatClampNeg < t.length := by omega
  have hy : t.getD x.toNat 0 = t[(zI x).toNatClampNeg] := by
    rw [List.getD_eq_getElem?_getD, show x.toNat = (zI x).toNatClampNeg by rw [hxe, hz], List.getElem?_eq_getElem hlt]
    rfl
  have hy2 : t[(zI x).toNatClampNeg] ≤ 127 := ha _ (List.getElem_mem hlt)
  simp only [pS3]
  rw [if_neg h8, ht]
  simp only [List.getElem?_eq_getElem hlt]
  rw [nI_zI (by omega), hy]
end
/-! THE READER of the reference, by the document's tokens -/
def zR (R : Nat → Int32) : Nat → Int := fun k => (R k).toInt
def rR (R : Nat → Int32) (n : Nat) (es : PH) : Prop := gA es 82 = R ∧ (gI es 79 7).toInt = (n : Int) ∧ pT es ≤ (n : Int)
def blG (R : Nat → Int32) (n : Nat) (es es' : PH) : Prop := sh es' ∧ hOK tT es' ∧ rR R n es' ∧ fr frB es es' ∧ pT es' = (zNx (zR R) n (pT es).toNat : Nat) ∧ bT es' = pT es'
def ltG (R : Nat → Int32) (n : Nat) (es es' : PH) : Prop := sh es' ∧ hOK tT es' ∧ rR R n es' ∧ fr frB es es' ∧ bT es' = (zNx (zR R) n (pT es).toNat : Nat) ∧ pT es' = (zRn (zR R) n zLe (zNx (zR R) n (pT es).toNat) : Nat)
def iswG (t : List Nat) (R : Nat → Int32) (es : PH) (v : Int) : Prop := (v = 0 ∨ v = 1) ∧ (v = 1 ↔ zSgE (zR R) (bT es).toNat (pT es).toNat t = true)
def nmG (R : Nat → Int32) (n : Nat) (lo hi : Int) (es es' : PH) (v : Int) : Prop := sh es' ∧ hOK tT es' ∧ rR R n es' ∧ fr frB es es' ∧ bT es' = (zNx (zR R) n (pT es).toNat : Nat) ∧ pT es' = (zRn (zR R) n zDi (zNx (zR R) n (pT es).toNat) : Nat) ∧
  ((lo ≤ zCod (zR R) n (zNx (zR R) n (pT es).toNat) ∧ zCod (zR R) n (zNx (zR R) n (pT es).toNat) ≤ hi ∧ v = zCod (zR R) n (zNx (zR R) n (pT es).toNat)) ∨ (¬ (lo ≤ zCod (zR R) n (zNx (zR R) n (pT es).toNat) ∧ zCod (zR R) n (zNx (zR R) n (pT es).toNat) ≤ hi) ∧ v = -1))
theorem nmG_rng {R : Nat → Int32} {n : Nat} {lo hi v : Int} {es es' : PH} (h : nmG R n lo hi es es' v) : -1 = v ∨ (lo ≤ v ∧ v ≤ hi) := by
  rcases h.2.2.2.2.2.2 with ⟨h1, h2, h3⟩ | ⟨-, h3⟩
  · right; rw [h3]; exact ⟨h1, h2⟩
  · left; exact h3.symm
theorem rR_rng {R : Nat → Int32} {n : Nat} {es : PH} (hT : hOK tT es) (h : rR R n es) : n ≤ 400 ∧ ∀ k, k < n → -128 ≤ zR R k ∧ zR R k ≤ 127 := by
  have he := eT_bd hT
  rw [h.2.1] at he
  refine ⟨by omega, fun k hk => ?_⟩
  have g : (-128 : Int) ≤ (gA es 82 k).toInt ∧ (gA es 82 k).toInt ≤ (127 : Int) := gA_bd hT (p := 82) (k := k) rfl (by omega) (by decide)
  rw [h.1] at g
  exact g
theorem rR_sA {R : Nat → Int32} {n p k : Nat} {x : Int32} {es : PH} (h : rR R n es) (hp : 82 ≠ p) : rR R n (sA es p k x) := by
  refine ⟨by rw [gA_sA_ne hp]; exact h.1, by rw [gI_sA]; exact h.2.1, ?_⟩
  unfold pT
  rw [gI_sA]
  exact h.2.2
theorem rR_up {R : Nat → Int32} {n : Nat} {es es' : PH} (hT : hOK tT es) (hr : rR R n es) (h : pT es < (n : Int)) (he : es' = sI es 79 6 (.int (zI ((gI es 79 6).toInt + 1)))) : hOK tT es' ∧ rR R n es' ∧ fr frB es es' ∧ pT es' = pT es + 1 ∧ bT es' = bT es := by
  obtain ⟨a1, a2, a3, a4, a5⟩ := pt_up (es' := es') hT (by rw [hr.2.1]; exact h) he
  exact ⟨a1, ⟨by rw [he, gA_sI]; exact hr.1, by rw [a5]; exact hr.2.1, by rw [a3]; omega⟩, a2.1, a3, a4⟩
theorem rR_bg {R : Nat → Int32} {n : Nat} {es es' : PH} {v : Int} (hT : hOK tT es) (hr : rR R n es) (hv : v = (gI es 79 6).toInt) (he : es' = sI es 79 8 (.int (zI v))) : hOK tT es' ∧ rR R n es' ∧ fr frB es es' ∧ pT es' = pT es ∧ bT es' = pT es := by
  have hpb := pT_bd hT
  unfold pT at hpb
  subst hv
  have hz : (zI (gI es 79 6).toInt).toInt = (gI es 79 6).toInt := zI_toInt (i32_rng _)
  have hT5 : hOK tT es' := by rw [he]; exact hOK_sI hT (p := 79) (b := 8) rfl rfl (by rw [hz]; exact hpb)
  have hp5 : pT es' = pT es := by unfold pT; rw [he, gI_sI_ne (Or.inr (by decide))]
  refine ⟨hT5, ⟨by rw [he, gA_sI]; exact hr.1, by rw [he, gI_sI_ne (Or.inr (by decide))]; exact hr.2.1, by rw [hp5]; exact hr.2.2⟩, by rw [he]; exact fr_sI rfl, hp5, ?_⟩
  unfold bT pT
  rw [he, gI_sI (sh_of hT) (p := 79) rfl (by decide), hz]
section
variable {O : pOut} {d kc ks : Nat} {Q : pRes → Prop} {es : PH} {R : Nat → Int32} {n : Nat}
theorem rR_ch (hr : rR R n es) {v : Int} (hv : v = (gI es 79 6).toInt) : (gA es 82 v.toNat).toInt = zR R (pT es).toNat := by
  rw [hv, hr.1]
  rfl
theorem blG_loop (K : ∀ es', blG R n es es' → Q (.inl none, es', kc, ks)) : ∀ (N : Nat) (es1 : PH), n - (pT es1).toNat < N → hOK tT es1 → rR R n es1 → fr frB es es1 → zNx (zR R) n (pT es1).toNat = zNx (zR R) n (pT es).toNat → aW O (d + 1) 176 kc ks Q (0, [some (.ref 143)], [], es1) := by
  intro N
  induction N with
  | zero => intro es1 h; omega
  | succ N ih =>
    intro es1 hN hT hr hf hx
    have hpb := pT_bd hT
    have hr1 := hr.2.1
    have hr2 := hr.2.2
    have hpn : pT es1 = ((pT es1).toNat : Int) := by omega
    have hpd : pT es1 = (gI es1 79 6).toInt := rfl
    have fin : (pT es1 < n → ¬ zR R (pT es1).toNat = 32) → ∀ (v : Int) (es5 : PH), v = (gI es1 79 6).toInt → es5 = sI es1 79 8 (.int (zI v)) → Q (.inl none, es5, kc, ks) := by
      intro hs v es5 hv e5
      obtain ⟨a1, a2, a3, a4, a5⟩ := rR_bg hT hr hv e5
      refine K es5 ⟨sh_of a1, a1, a2, fr_trans hf a3, ?_, by rw [a5, a4]⟩
      have e : zNx (zR R) n (pT es1).toNat = (pT es1).toNat := zRn_stop (fun h => zSp_no.mpr (hs (by omega)))
      rw [a4, ← hx, e]
      exact hpn
    refine s_bl0 (d := d) (sh_of hT) hT (fun v1 e1 v2 e2 h1 v4 e4 es5 e5 => fin (fun h => ?_) v4 es5 e4 e5) (fun v1 e1 v2 e2 h1 v6 e6 v7 e7 h7 v9 e9 es5 e5 => fin (fun _ => ?_) v9 es5 e9 e5) (fun v1 e1 v2 e2 h1 v6 e6 v7 e7 h7 v11 e11 v12 e12 h12 v14 e14 es5 e5 => fin (fun _ => ?_) v14 es5 e14 e5) (fun v1 e1 v2 e2 h1 v6 e6 v7 e7 h7 v11 e11 v12 e12 h12 v16 e16 es5 e5 => ?_)
    · omega
    · rw [← rR_ch hr e6, ← e7]; omega
    · rw [← rR_ch hr e11, ← e12]; omega
    · have t1 := rR_ch hr e6
      have t2 := rR_ch hr e11
      rw [← e7] at t1
      rw [← e12] at t2
      obtain ⟨a1, a2, a3, a4, a5⟩ := rR_up (es' := es5) hT hr (by omega) (by rw [e5, e16])
      refine ih es5 (by omega) a1 a2 (fr_trans hf a3) ?_
      rw [← hx, show (pT es5).toNat = (pT es1).toNat + 1 by omega]
      exact (zRn_go (by omega) (zSp_iff.mpr (by omega))).symm
theorem blG_spec (hs : sh es) (hT : hOK tT es) (hr : rR R n es) (K : ∀ es', blG R n es es' → Q (.inl none, es', kc, ks)) : aW O (d + 1) 176 kc ks Q (0, [some (.ref 143)], [], es) := blG_loop K _ es (Nat.lt_succ_self _) hT hr (fr_refl _ _) rfl
theorem ltG_loop {b0 : Int} {q : Nat} (K : ∀ es', hOK tT es' → rR R n es' → fr frB es es' → bT es' = b0 → pT es' = (zRn (zR R) n zLe q : Nat) → Q (.inl none, es', kc, ks)) : ∀ (N : Nat) (es1 : PH), n - (pT es1).toNat < N → hOK tT es1 → rR R n es1 → fr frB es es1 → bT es1 = b0 → zRn (zR R) n zLe (pT es1).toNat = zRn (zR R) n zLe q → aW O (d + 1) 178 kc ks Q (4, [some (.ref 143)], [], es1) := by
  intro N
  induction N with
  | zero => intro es1 h; omega
  | succ N ih =>
    intro es1 hN hT hr hf hb hx
    have hpb := pT_bd hT
    have hr1 := hr.2.1
    have hr2 := hr.2.2
    have hpn : pT es1 = ((pT es1).toNat : Int) := by omega
    have hpd : pT es1 = (gI es1 79 6).toInt := rfl
    have fin : (pT es1 < n → ¬ (97 ≤ zR R (pT es1).toNat ∧ zR R (pT es1).toNat ≤ 122)) → Q (.inl none, es1, kc, ks) := by
      intro hs
      have e : zRn (zR R) n zLe (pT es1).toNat = (pT es1).toNat := zRn_stop (fun h => zLe_no.mpr (hs (by omega)))
      refine K es1 hT hr hf hb ?_
      rw [← hx, e]
      exact hpn
    refine s_lt4 (d := d) (sh_of hT) hT (fun v1 e1 v2 e2 h1 => fin (fun h => ?_)) (fun v1 e1 v2 e2 h1 v6 e6 v7 e7 h7 => fin (fun _ => ?_)) (fun v1 e1 v2 e2 h1 v6 e6 v7 e7 h7 v11 e11 v12 e12 h12 => fin (fun _ => ?_)) (fun v1 e1 v2 e2 h1 v6 e6 v7 e7 h7 v11 e11 v12 e12 h12 v16 e16 es5 e5 => ?_)
    · omega
    · rw [← rR_ch hr e6, ← e7]; omega
    · rw [← rR_ch hr e11, ← e12]; omega
    · have t1 := rR_ch hr e6
      have t2 := rR_ch hr e11
      rw [← e7] at t1
      rw [← e12] at t2
      obtain ⟨a1, a2, a3, a4, a5⟩ := rR_up (es' := es5) hT hr (by omega) (by rw [e5, e16])
      refine ih es5 (by omega) a1 a2 (fr_trans hf a3) (by rw [a5, hb]) ?_
      rw [← hx, show (pT es5).toNat = (pT es1).toNat + 1 by omega]
      exact (zRn_go (by omega) (zLe_iff.mpr ⟨by omega, by omega⟩)).symm
end
theorem s_kl0 {O : pOut} {d kc ks : Nat} {Q : pRes → Prop} {es : PH} {R : Nat → Int32} {n0 : Nat} (hs_es : sh es) (hT_es : hOK tT es) (hr_es : rR R n0 es)
    (K1 : ∀ es1 : PH, blG R n0  es es1 → aW O (d + 2) 178 kc ks Q (4, [some (.ref 143)], [], es1)) :
    aW O (d + 2) 178 kc ks Q (0, [some (.ref 143)], [], es) := by
  refine x0 (r := (1, [some (.ref 143)], [.ref 143], es)) i_178_0 rfl ?_
  refine x_call (vs := [.ref 143]) (rs := []) i_178_1 rfl (fun _ => rfl) rfl rfl rfl rfl rfl (pCall_v (p := 79) hs_es rfl rfl rfl rfl rfl (by decide) rfl rfl rfl rfl rfl) ?_
  show aW _ _ _ _ _ _ (0, [some (.ref 143)], [], es)
  refine blG_spec hs_es hT_es hr_es (fun es1 p_es1 => ?_)
  have hs_es1 : sh es1 := p_es1.1
  have hT_es1 : hOK tT es1 := p_es1.2.1
  have hr_es1 : rR R n0 es1 := p_es1.2.2.1
  show aW _ _ _ _ _ _ (4, [some (.ref 143)], [], es1)
  exact K1 es1 p_es1
theorem s_kn0 {O : pOut} {d kc ks : Nat} {Q : pRes → Prop} {es : PH} {R : Nat → Int32} {n0 : Nat} {lo hi : Int} (hs_es : sh es) (hT_es : hOK tT es) (hr_es : rR R n0 es)
    (K1 : ∀ es1 : PH, blG R n0  es es1 → aW O (d + 2) 181 kc ks Q (6, [some (.ref 143), some (.int (zI lo)), some (.int (zI hi)), some (.int (zI 0))], [], es1)) :
    aW O (d + 2) 181 kc ks Q (0, [some (.ref 143), some (.int (zI lo)), some (.int (zI hi)), none], [], es) := by
  refine x0 (r := (1, [some (.ref 143), some (.int (zI lo)), some (.int (zI hi)), none], [.ref 143], es)) i_181_0 rfl ?_
  refine x_call (vs := [.ref 143]) (rs := []) i_181_1 rfl (fun _ => rfl) rfl rfl rfl rfl rfl (pCall_v (p := 79) hs_es rfl rfl rfl rfl rfl (by decide) rfl rfl rfl rfl rfl) ?_
  show aW _ _ _ _ _ _ (0, [some (.ref 143)], [], es)
  refine blG_spec hs_es hT_es hr_es (fun es1 p_es1 => ?_)
  have hs_es1 : sh es1 := p_es1.1
  have hT_es1 : hOK tT es1 := p_es1.2.1
  have hr_es1 : rR R n0 es1 := p_es1.2.2.1
  show aW _ _ _ _ _ _ (4, [some (.ref 143), some (.int (zI lo)), some (.int (zI hi)), none], [], es1)
  refine x0 (r := (5, [some (.ref 143), some (.int (zI lo)), some (.int (zI hi)), none], [.int (zI 0)], es1)) i_181_4 (by rfl) ?_
  refine x0 (r := (6, [some (.ref 143), some (.int (zI lo)), some (.int (zI hi)), some (.int (zI 0))], [], es1)) i_181_5 rfl ?_
  exact K1 es1 p_es1
theorem s_iw0 {O : pOut} {d kc ks : Nat} {Q : pRes → Prop} {es : PH} {tt : List Nat} {wk : Nat} (hs_es : sh es) (hk : 8 ≤ wk) (ht : pTX[wk - 8]? = some tt) (ha : ∀ x ∈ tt, x ≤ 127) (hl : tt.length ≤ 10) (hT_es : hOK tT es)
    (K1 : ∀ v1 : Int, v1 = (gI es 79 6).toInt → ∀ v2 : Int, v2 = (gI es 79 8).toInt → (v1 - v2) ≠ (tt.length : Int) → aW O (d + 1) 180 kc ks Q (24, [some (.ref 143), some (.ref wk), some (.int (zI 0)), some (.int (zI 0))], [], es))
    (K2 : ∀ v1 : Int, v1 = (gI es 79 6).toInt → ∀ v2 : Int, v2 = (gI es 79 8).toInt → ¬ ((v1 - v2) ≠ (tt.length : Int)) → aW O (d + 1) 180 kc ks Q (24, [some (.ref 143), some (.ref wk), some (.int (zI 1)), some (.int (zI 0))], [], es)) :
    aW O (d + 1) 180 kc ks Q (0, [some (.ref 143), some (.ref wk), none, none], [], es) := by
  refine x0 (r := (1, [some (.ref 143), some (.ref wk), none, none], [.ref 143], es)) i_180_0 rfl ?_
  refine x_geti (p := 79) i_180_1 hs_es rfl rfl ?_
  obtain ⟨v1, e_v1⟩ : ∃ z : Int, z = (gI es 79 6).toInt := ⟨_, rfl⟩
  rw [← e_v1]
  have r_v1 : iLO ≤ v1 ∧ v1 ≤ iHI := by rw [e_v1]; exact i32_rng _
  unfold iLO iHI at r_v1
  have b_v1 : (0 : Int) ≤ v1 ∧ v1 ≤ (400 : Int) := by rw [e_v1]; exact gI_bd hT_es (p := 79) (b := 6) rfl rfl
  refine x0 (r := (5, [some (.ref 143), some (.ref wk), none, none], [.ref 143, .int (zI v1)], es)) i_180_4 rfl ?_
  refine x_geti (p := 79) i_180_5 hs_es rfl rfl ?_
  obtain ⟨v2, e_v2⟩ : ∃ z : Int, z = (gI es 79 8).toInt := ⟨_, rfl⟩
  rw [← e_v2]
  have r_v2 : iLO ≤ v2 ∧ v2 ≤ iHI := by rw [e_v2]; exact i32_rng _
  unfold iLO iHI at r_v2
  have b_v2 : (0 : Int) ≤ v2 ∧ v2 ≤ (400 : Int) := by rw [e_v2]; exact gI_bd hT_es (p := 79) (b := 8) rfl rfl
  refine x_isub i_180_8 ?_
  refine x0 (r := (10, [some (.ref 143), some (.ref wk), none, none], [.ref wk, .int (zI (v1 - v2))], es)) i_180_9 rfl ?_
  refine x_len i_180_10 hk ht (n := (tt.length : Int)) rfl (Nat.le_of_ble_eq_true rfl) ?_
  by_cases c3 : (v1 - v2) ≠ (tt.length : Int)
  · refine x_cmpT i_180_13 (by unfold i32 iLO iHI; omega) (by unfold i32 iLO iHI; omega) rfl (by simp only [zC, cR]; omega) ?_
    refine x0 (r := (21, [some (.ref 143), some (.ref wk), none, none], [.int (zI 0)], es)) i_180_20 (by rfl) ?_
    refine x0 (r := (22, [some (.ref 143), some (.ref wk), some (.int (zI 0)), none], [], es)) i_180_21 rfl ?_
    refine x0 (r := (23, [some (.ref 143), some (.ref wk), some (.int (zI 0)), none], [.int (zI 0)], es)) i_180_22 (by rfl) ?_
    refine x0 (r := (24, [some (.ref 143), some (.ref wk), some (.int (zI 0)), some (.int (zI 0))], [], es)) i_180_23 rfl ?_
    exact K1 v1 e_v1 v2 e_v2 c3
  · refine x_cmpF i_180_13 (by unfold i32 iLO iHI; omega) (by unfold i32 iLO iHI; omega) rfl (by simp only [zC, cR]; omega) ?_
    refine x0 (r := (17, [some (.ref 143), some (.ref wk), none, none], [.int (zI 1)], es)) i_180_16 (by rfl) ?_
    refine x0 (r := (21, [some (.ref 143), some (.ref wk), none, none], [.int (zI 1)], es)) i_180_17 rfl ?_
    refine x0 (r := (22, [some (.ref 143), some (.ref wk), some (.int (zI 1)), none], [], es)) i_180_21 rfl ?_
    refine x0 (r := (23, [some (.ref 143), some (.ref wk), some (.int (zI 1)), none], [.int (zI 0)], es)) i_180_22 (by rfl) ?_
    refine x0 (r := (24, [some (.ref 143), some (.ref wk), some (.int (zI 1)), some (.int (zI 0))], [], es)) i_180_23 rfl ?_
    exact K2 v1 e_v1 v2 e_v2 c3
theorem s_iw24 {O : pOut} {d kc ks : Nat} {Q : pRes → Prop} {es : PH} {tt : List Nat} {s k : Int} {wk : Nat} (hs_es : sh es) (hk : 8 ≤ wk) (ht : pTX[wk - 8]? = some tt) (ha : ∀ x ∈ tt, x ≤ 127) (hl : tt.length ≤ 10) (hs : 0 ≤ s ∧ s ≤ 1) (h0 : 0 ≤ k ∧ k ≤ 10) (hx : s = 1 → (gI es 79 8).toInt + k ≤ 399 ∨ (tt.length : Int) ≤ k) (hT_es : hOK tT es)
    (K1 : s = 0 → Q (.inl (some (.int (zI s))), es, kc, ks))
    (K2 : ¬ (s = 0) → (tt.length : Int) ≤ k → Q (.inl (some (.int (zI s))), es, kc, ks))
    (K3 : ¬ (s = 0) → ¬ ((tt.length : Int) ≤ k) → ∀ v3 : Int, v3 = (gI es 79 8).toInt → ∀ v4 : Int, v4 = (gA es 82 (v3 + k).toNat).toInt → ∀ v5 : Int, v5 = ((tt.getD k.toNat 0 : Nat) : Int) → v4 ≠ v5 → aW O (d + 1) 180 kc ks Q (24, [some (.ref 143), some (.ref wk), some (.int (zI 0)), some (.int (zI (k + 1)))], [], es))
    (K4 : ¬ (s = 0) → ¬ ((tt.length : Int) ≤ k) → ∀ v3 : Int, v3 = (gI es 79 8).toInt → ∀ v4 : Int, v4 = (gA es 82 (v3 + k).toNat).toInt → ∀ v5 : Int, v5 = ((tt.getD k.toNat 0 : Nat) : Int) → ¬ (v4 ≠ v5) → aW O (d + 1) 180 kc ks Q (24, [some (.ref 143), some (.ref wk), some (.int (zI 1)), some (.int (zI (k + 1)))], [], es)) :
    aW O (d + 1) 180 kc ks Q (24, [some (.ref 143), some (.ref wk), some (.int (zI s)), some (.int (zI k))], [], es) := by
  refine x0 (r := (25, [some (.ref 143), some (.ref wk), some (.int (zI s)), some (.int (zI k))], [.int (zI s)], es)) i_180_24 rfl ?_
  by_cases c1 : s = 0
  · refine x_ifT i_180_25 (by unfold i32 iLO iHI; omega) rfl (by simp only [zC, cR]; omega) ?_
    refine x0 (r := (68, [some (.ref 143), some (.ref wk), some (.int (zI s)), some (.int (zI k))], [.int (zI s)], es)) i_180_67 rfl ?_
    refine x_ret (v := some (.int (zI s))) i_180_68 rfl (fun _ => rfl) rfl rfl (pFin_b (by omega)) ?_
    exact K1 c1
  · refine x_ifF i_180_25 (by unfold i32 iLO iHI; omega) rfl (by simp only [zC, cR]; omega) ?_
    refine x0 (r := (29, [some (.ref 143), some (.ref wk), some (.int (zI s)), some (.int (zI k))], [.int (zI k)], es)) i_180_28 rfl ?_
    refine x0 (r := (30, [some (.ref 143), some (.ref wk), some (.int (zI s)), some (.int (zI k))], [.ref wk, .int (zI k)], es)) i_180_29 rfl ?_
    refine x_len i_180_30 hk ht (n := (tt.length : Int)) rfl (Nat.le_of_ble_eq_true rfl) ?_
    by_cases c2 : (tt.length : Int) ≤ k
    · refine x_cmpT i_180_33 (by unfold i32 iLO iHI; omega) (by unfold i32 iLO iHI; omega) rfl (by simp only [zC, cR]; omega) ?_
      refine x0 (r := (68, [some (.ref 143), some (.ref wk), some (.int (zI s)), some (.int (zI k))], [.int (zI s)], es)) i_180_67 rfl ?_
      refine x_ret (v := some (.int (zI s))) i_180_68 rfl (fun _ => rfl) rfl rfl (pFin_b (by omega)) ?_
      exact K2 c1 c2
    · refine x_cmpF i_180_33 (by unfold i32 iLO iHI; omega) (by unfold i32 iLO iHI; omega) rfl (by simp only [zC, cR]; omega) ?_
      refine x0 (r := (37, [some (.ref 143), some (.ref wk), some (.int (zI s)), some (.int (zI k))], [.ref 143], es)) i_180_36 rfl ?_
      refine x_getr (p := 79) (k := 146) i_180_37 hs_es rfl rfl ?_
      show aW _ _ _ _ _ _ (40, [some (.ref 143), some (.ref wk), some (.int (zI s)), some (.int (zI k))], [.ref 146], es)
      refine x0 (r := (41, [some (.ref 143), some (.ref wk), some (.int (zI s)), some (.int (zI k))], [.ref 143, .ref 146], es)) i_180_40 rfl ?_
      refine x_geti (p := 79) i_180_41 hs_es rfl rfl ?_
      obtain ⟨v3, e_v3⟩ : ∃ z : Int, z = (gI es 79 8).toInt := ⟨_, rfl⟩
      rw [← e_v3]
      have r_v3 : iLO ≤ v3 ∧ v3 ≤ iHI := by rw [e_v3]; exact i32_rng _
      unfold iLO iHI at r_v3
      have b_v3 : (0 : Int) ≤ v3 ∧ v3 ≤ (400 : Int) := by rw [e_v3]; exact gI_bd hT_es (p := 79) (b := 8) rfl rfl
      refine x0 (r := (45, [some (.ref 143), some (.ref wk), some (.int (zI s)), some (.int (zI k))], [.int (zI k), .int (zI v3), .ref 146], es)) i_180_44 rfl ?_
      refine x_iadd i_180_45 ?_
      refine x_bald (p := 82) i_180_46 hs_es rfl (by decide) (by unfold i32 iLO iHI; omega) (by omega) (by omega) ?_
      obtain ⟨v4, e_v4⟩ : ∃ z : Int, z = (gA es 82 (v3 + k).toNat).toInt := ⟨_, rfl⟩
      rw [← e_v4]
      have r_v4 : iLO ≤ v4 ∧ v4 ≤ iHI := by rw [e_v4]; exact i32_rng _
      unfold iLO iHI at r_v4
      have b_v4 : (-128 : Int) ≤ v4 ∧ v4 ≤ (127 : Int) := by rw [e_v4]; exact gA_bd hT_es (p := 82) (k := (v3 + k).toNat) rfl (by omega) (by decide)
      refine x0 (r := (48, [some (.ref 143), some (.ref wk), some (.int (zI s)), some (.int (zI k))], [.ref wk, .int (zI v4)], es)) i_180_47 rfl ?_
      refine x0 (r := (49, [some (.ref 143), some (.ref wk), some (.int (zI s)), some (.int (zI k))], [.int (zI k), .ref wk, .int (zI v4)], es)) i_180_48 rfl ?_
      refine x_chr (t := tt) i_180_49 hk ht (by unfold i32 iLO iHI; omega) (by omega) (by omega) ha (Nat.le_of_ble_eq_true rfl) ?_
      obtain ⟨v5, e_v5⟩ : ∃ z : Int, z = ((tt.getD k.toNat 0 : Nat) : Int) := ⟨_, rfl⟩
      rw [← e_v5]
      have b_v5 : 0 ≤ v5 ∧ v5 ≤ 127 := by rw [e_v5]; exact chr_bd ha
      by_cases c6 : v4 ≠ v5
      · refine x_cmpT i_180_52 (by unfold i32 iLO iHI; omega) (by unfold i32 iLO iHI; omega) rfl (by simp only [zC, cR]; omega) ?_
        refine x0 (r := (60, [some (.ref 143), some (.ref wk), some (.int (zI s)), some (.int (zI k))], [.int (zI 0)], es)) i_180_59 (by rfl) ?_
        refine x0 (r := (61, [some (.ref 143), some (.ref wk), some (.int (zI 0)), some (.int (zI k))], [], es)) i_180_60 rfl ?_
        refine x_iinc (x := k) i_180_61 rfl (by show 3 < 4; decide) ?_
        show aW _ _ _ _ _ _ (64, [some (.ref 143), some (.ref wk), some (.int (zI 0)), some (.int (zI (k + 1)))], [], es)
        refine x0 (r := (24, [some (.ref 143), some (.ref wk), some (.int (zI 0)), some (.int (zI (k + 1)))], [], es)) i_180_64 rfl ?_
        exact K3 c1 c2 v3 e_v3 v4 e_v4 v5 e_v5 c6
      · refine x_cmpF i_180_52 (by unfold i32 iLO iHI; omega) (by unfold i32 iLO iHI; omega) rfl (by simp only [zC, cR]; omega) ?_
        refine x0 (r := (56, [some (.ref 143), some (.ref wk), some (.int (zI s)), some (.int (zI k))], [.int (zI 1)], es)) i_180_55 (by rfl) ?_
        refine x0 (r := (60, [some (.ref 143), some (.ref wk), some (.int (zI s)), some (.int (zI k))], [.int (zI 1)], es)) i_180_56 rfl ?_
        refine x0 (r := (61, [some (.ref 143), some (.ref wk), some (.int (zI 1)), some (.int (zI k))], [], es)) i_180_60 rfl ?_
        refine x_iinc (x := k) i_180_61 rfl (by show 3 < 4; decide) ?_
        show aW _ _ _ _ _ _ (64, [some (.ref 143), some (.ref wk), some (.int (zI 1)), some (.int (zI (k + 1)))], [], es)
        refine x0 (r := (24, [some (.ref 143), some (.ref wk), some (.int (zI 1)), some (.int (zI (k + 1)))], [], es)) i_180_64 rfl ?_
        exact K4 c1 c2 v3 e_v3 v4 e_v4 v5 e_v5 c6
section
variable {O : pOut} {d kc ks : Nat} {Q : pRes → Prop} {es : PH} {R : Nat → Int32} {n : Nat}
theorem ltG_spec (hs : sh es) (hT : hOK tT es) (hr : rR R n es) (K : ∀ es', ltG R n es es' → Q (.inl none, es', kc, ks)) : aW O (d + 2) 178 kc ks Q (0, [some (.ref 143)], [], es) := by
  refine s_kl0 (d := d) hs hT hr (fun es1 p1 => ?_)
  obtain ⟨q1, q2, q3, q4, q5, q6⟩ := p1
  refine ltG_loop (d := d + 1) (es := es) (b0 := pT es1) (q := (pT es1).toNat) (fun es' a1 a2 a3 a4 a5 => K es' ⟨sh_of a1, a1, a2, a3, by rw [a4, q5], ?_⟩) _ es1 (Nat.lt_succ_self _) q2 q3 q4 q6 rfl
  rw [a5, show (pT es1).toNat = zNx (zR R) n (pT es).toNat by omega]
theorem nmG_loop {lo hi : Int} {q : Nat} (hlo : 0 ≤ lo ∧ lo ≤ 999) (hhi : -1 ≤ hi ∧ hi ≤ 999) (hq : q ≤ n) (K : ∀ es' v, hOK tT es' → rR R n es' → fr frB es es' → bT es' = (q : Int) → pT es' = (zRn (zR R) n zDi q : Nat) → ((lo ≤ zCod (zR R) n q ∧ zCod (zR R) n q ≤ hi ∧ v = zCod (zR R) n q) ∨ (¬ (lo ≤ zCod (zR R) n q ∧ zCod (zR R) n q ≤ hi) ∧ v = -1)) → Q (.inl (some (.int (zI v))), es', kc, ks)) : ∀ (N : Nat) (es1 : PH) (v : Int), n - (pT es1).toNat < N → hOK tT es1 → rR R n es1 → fr frB es es1 → bT es1 = (q : Int) → (q : Int) ≤ pT es1 → zRn (zR R) n zDi (pT es1).toNat = zRn (zR R) n zDi q → (pT es1 - q ≤ 3 → v = zDvl (zR R) ((pT es1).toNat - q) q 0) → i32 v → aW O (d + 1) 181 kc ks Q (6, [some (.ref 143), some (.int (zI lo)), some (.int (zI hi)), some (.int (zI v))], [], es1) := by
  intro N
  induction N with
  | zero => intro es1 v h; omega
  | succ N ih =>
    intro es1 v hN hT hr hf hb hqp hx hv hi32
    have hpb := pT_bd hT
    have hr1 := hr.2.1
    have hr2 := hr.2.2
    obtain ⟨hn4, hrng⟩ := rR_rng hT hr
    have hpn : pT es1 = ((pT es1).toNat : Int) := by omega
    have hpd : pT es1 = (gI es1 79 6).toInt := rfl
    have hbd : bT es1 = (gI es1 79 8).toInt := rfl
    have hall : ∀ i, q ≤ i → i < (pT es1).toNat → zDi (zR R i) = true := fun i h1 h2 => zRn_all h1 (Nat.lt_of_lt_of_le h2 (by rw [← hx]; exact zRn_ge))
    have stop : (pT es1 < n → ¬ (48 ≤ zR R (pT es1).toNat ∧ zR R (pT es1).toNat ≤ 57)) → pT es1 = (zRn (zR R) n zDi q : Nat) := by
      intro hs
      have e : zRn (zR R) n zDi (pT es1).toNat = (pT es1).toNat := zRn_stop (fun h => zDi_no.mpr (hs (by omega)))
      rw [← hx, e]
      exact hpn
    have num : pT es1 = (zRn (zR R) n zDi q : Nat) → (0 ≤ zCod (zR R) n q ↔ (¬ pT es1 = (q : Int) ∧ pT es1 - q ≤ 3)) := by
      intro hp
      rw [zCod_num hrng hq]
      omega
    have val : pT es1 = (zRn (zR R) n zDi q : Nat) → 0 ≤ zCod (zR R) n q → zCod (zR R) n q = v := by
      intro hp h0
      have h3 := (num hp).mp h0
      rw [hv h3.2, (zCod_val hrng h0).2.2.1]
      congr 1
      omega
    have bad : (pT es1 < n → ¬ (48 ≤ zR R (pT es1).toNat ∧ zR R (pT es1).toNat ≤ 57)) → (pT es1 = (q : Int) ∨ 3 < pT es1 - q ∨ (v < lo ∨ hi < v)) → Q (.inl (some (.int (zI (-1)))), es1, kc, ks) := by
      intro hs hw
      have hp := stop hs
      refine K es1 (-1) hT hr hf hb hp (Or.inr ⟨fun hh => ?_, rfl⟩)
      have h0 : 0 ≤ zCod (zR R) n q := by omega
      have h3 := (num hp).mp h0
      have h4 := val hp h0
      omega
    have good : (pT es1 < n → ¬ (48 ≤ zR R (pT es1).toNat ∧ zR R (pT es1).toNat ≤ 57)) → ¬ pT es1 = (q : Int) → ¬ 3 < pT es1 - q → ¬ v < lo → v ≤ hi → Q (.inl (some (.int (zI v))), es1, kc, ks) := by
      intro hs w1 w2 w3 w4
      have hp := stop hs
      have h0 : 0 ≤ zCod (zR R) n q := (num hp).mpr ⟨w1, by omega⟩
      have h4 := val hp h0
      exact K es1 v hT hr hf hb hp (Or.inl ⟨by omega, by omega, h4.symm⟩)
    have ch : ∀ {w u : Int}, w = (gI es1 79 6).toInt → u = (gA es1 82 w.toNat).toInt → zR R (pT es1).toNat = u := fun hw hu => by rw [hu, rR_ch hr hw]
    apply s_nm6 (d := d) (sh_of hT) ⟨by omega, by omega⟩ hhi hi32 hT
    · intro v1 e1 v2 e2 h1 v4 e4 v5 e5 h5
      exact bad (fun h => by omega) (by omega)
    · intro v1 e1 v2 e2 h1 v4 e4 v5 e5 h5 v7 e7 v8 e8 h8
      exact bad (fun h => by omega) (by omega)
    · intro v1 e1 v2 e2 h1 v4 e4 v5 e5 h5 v7 e7 v8 e8 h8 h9
      exact bad (fun h => by omega) (by omega)
    · intro v1 e1 v2 e2 h1 v4 e4 v5 e5 h5 v7 e7 v8 e8 h8 h9 h10
      exact good (fun h => by omega) (by omega) (by omega) h9 h10
    · intro v1 e1 v2 e2 h1 v4 e4 v5 e5 h5 v7 e7 v8 e8 h8 h9 h10
      exact bad (fun h => by omega) (by omega)
    · intro v1 e1 v2 e2 h1 v12 e12 v13 e13 h13 v4 e4 v5 e5 h5
      have c1 := ch e12 e13
      exact bad (fun h => by omega) (by omega)
    · intro v1 e1 v2 e2 h1 v12 e12 v13 e13 h13 v4 e4 v5 e5 h5 v7 e7 v8 e8 h8
      have c1 := ch e12 e13
      exact bad (fun h => by omega) (by omega)
    · intro v1 e1 v2 e2 h1 v12 e12 v13 e13 h13 v4 e4 v5 e5 h5 v7 e7 v8 e8 h8 h9
      have c1 := ch e12 e13
      exact bad (fun h => by omega) (by omega)
    · intro v1 e1 v2 e2 h1 v12 e12 v13 e13 h13 v4 e4 v5 e5 h5 v7 e7 v8 e8 h8 h9 h10
      have c1 := ch e12 e13
      exact good (fun h => by omega) (by omega) (by omega) h9 h10
    · intro v1 e1 v2 e2 h1 v12 e12 v13 e13 h13 v4 e4 v5 e5 h5 v7 e7 v8 e8 h8 h9 h10
      have c1 := ch e12 e13
      exact bad (fun h => by omega) (by omega)
    · intro v1 e1 v2 e2 h1 v12 e12 v13 e13 h13 v23 e23 v24 e24 h24 v4 e4 v5 e5 h5
      have c1 := ch e23 e24
      exact bad (fun h => by omega) (by omega)
    · intro v1 e1 v2 e2 h1 v12 e12 v13 e13 h13 v23 e23 v24 e24 h24 v4 e4 v5 e5 h5 v7 e7 v8 e8 h8
      have c1 := ch e23 e24
      exact bad (fun h => by omega) (by omega)
    · intro v1 e1 v2 e2 h1 v12 e12 v13 e13 h13 v23 e23 v24 e24 h24 v4 e4 v5 e5 h5 v7 e7 v8 e8 h8 h9
      have c1 := ch e23 e24
      exact bad (fun h => by omega) (by omega)
    · intro v1 e1 v2 e2 h1 v12 e12 v13 e13 h13 v23 e23 v24 e24 h24 v4 e4 v5 e5 h5 v7 e7 v8 e8 h8 h9 h10
      have c1 := ch e23 e24
      exact good (fun h => by omega) (by omega) (by omega) h9 h10
    · intro v1 e1 v2 e2 h1 v12 e12 v13 e13 h13 v23 e23 v24 e24 h24 v4 e4 v5 e5 h5 v7 e7 v8 e8 h8 h9 h10
      have c1 := ch e23 e24
      exact bad (fun h => by omega) (by omega)
    · intro v1 e1 v2 e2 h1 v12 e12 v13 e13 h13 v23 e23 v24 e24 h24 v34 e34 v35 e35 h35 v37 e37 es5 e5
      clear bad good val num stop
      have c1 := ch e12 e13
      have c2 := ch e23 e24
      obtain ⟨a1, a2, a3, a4, a5⟩ := rR_up (es' := es5) hT hr (by omega) (by rw [e5, e37])
      refine ih es5 v (by omega) a1 a2 (fr_trans hf a3) (by rw [a5, hb]) (by omega) ?_ (fun h => by omega) hi32
      rw [← hx, show (pT es5).toNat = (pT es1).toNat + 1 by omega]
      exact (zRn_go (by omega) (zDi_iff.mpr ⟨by omega, by omega⟩)).symm
    · intro v1 e1 v2 e2 h1 v12 e12 v13 e13 h13 v23 e23 v24 e24 h24 v34 e34 v35 e35 h35 v39 e39 v40 e40 v41 e41 v42 e42 es5 e5
      clear bad good val num stop
      have c1 := ch e12 e13
      have c2 := ch e23 e24
      have c3 := ch e39 e40
      have hv0 := hv (by omega)
      clear hv
      have hvb := zDvl_bd (c := zR R) (p := q) (k := (pT es1).toNat - q) (by omega) (fun i h2 h3 => hall i h2 (by omega))
      rw [← hv0] at hvb
      have h41 : v41 = 10 * v + v40 - 48 := by
        rw [e41]
        exact zI_toInt (by unfold i32 iLO iHI; omega)
      obtain ⟨a1, a2, a3, a4, a5⟩ := rR_up (es' := es5) hT hr (by omega) (by rw [e5, e42])
      refine ih es5 v41 (by omega) a1 a2 (fr_trans hf a3) (by rw [a5, hb]) (by omega) ?_ (fun h => ?_) (by rw [e41]; exact i32_rng _)
      · rw [← hx, show (pT es5).toNat = (pT es1).toNat + 1 by omega]
        exact (zRn_go (by omega) (zDi_iff.mpr ⟨by omega, by omega⟩)).symm
      · rw [show (pT es5).toNat - q = (pT es1).toNat - q + 1 by omega, zDvl_snoc, ← hv0, show q + ((pT es1).toNat - q) = (pT es1).toNat by omega, c3]
        exact h41
theorem nmG_spec {lo hi : Int} (hs : sh es) (hT : hOK tT es) (hr : rR R n es) (hlo : 0 ≤ lo ∧ lo ≤ 999) (hhi : -1 ≤ hi ∧ hi ≤ 999) (K : ∀ es' v, nmG R n lo hi es es' v → Q (.inl (some (.int (zI v))), es', kc, ks)) : aW O (d + 2) 181 kc ks Q (0, [some (.ref 143), some (.int (zI lo)), some (.int (zI hi)), none], [], es) := by
  have hpb := pT_bd hT
  refine s_kn0 (d := d) hs hT hr (fun es1 p1 => ?_)
  obtain ⟨q1, q2, q3, q4, q5, q6⟩ := p1
  have hle : zNx (zR R) n (pT es).toNat ≤ n := zNx_le (by have := hr.2.2; omega)
  refine nmG_loop (d := d + 1) (es := es) (q := zNx (zR R) n (pT es).toNat) hlo hhi hle (fun es' v a1 a2 a3 a4 a5 a6 => K es' v ⟨sh_of a1, a1, a2, a3, a4, a5, a6⟩) _ es1 0 (Nat.lt_succ_self _) q2 q3 q4 (by rw [q6, q5]) (by omega) (by rw [show (pT es1).toNat = zNx (zR R) n (pT es).toNat by omega]) (fun _ => ?_) (by unfold i32 iLO iHI; omega)
  rw [show (pT es1).toNat - zNx (zR R) n (pT es).toNat = 0 by omega]
  rfl
/-- a word, letter by letter -/
theorem isw_loop {t : List Nat} {wk : Nat} (hr : rR R n es) (hT : hOK tT es) (hk : 8 ≤ wk) (ht : pTX[wk - 8]? = some t) (ha : ∀ x ∈ t, x ≤ 127) (h0 : 0 < t.length ∧ t.length ≤ 10) (K : ∀ v : Int, iswG t R es v → Q (.inl (some (.int (zI v))), es, kc, ks)) : ∀ (N : Nat) (s k : Int), 10 - k < N → 0 ≤ k → k ≤ t.length → 0 ≤ s → s ≤ 1 → (s = 1 → pT es = bT es + t.length ∧ ∀ (i : Nat) x, (i : Int) < k → t[i]? = some x → zR R ((bT es).toNat + i) = (x : Int)) → (s = 0 → ¬ zSgE (zR R) (bT es).toNat (pT es).toNat t = true) → aW O (d + 1) 180 kc ks Q (24, [some (.ref 143), some (.ref wk), some (.int (zI s)), some (.int (zI k))], [], es) := by
  intro N
  induction N with
  | zero => intro s k h; omega
  | succ N ih =>
    intro s k hN hk0 hk1 hs0 hs1 h1 h2
    have hpb := pT_bd hT
    have hbb := bT_bd hT
    have hbd : bT es = (gI es 79 8).toInt := rfl
    refine s_iw24 (d := d) (tt := t) (sh_of hT) hk ht ha h0.2 ⟨hs0, hs1⟩ ⟨hk0, by omega⟩ (fun h => ?_) hT (fun h3 => ?_) (fun h3 h4 => ?_) (fun h3 h4 v3 e3 v4 e4 v5 e5 h5 => ?_) (fun h3 h4 v3 e3 v4 e4 v5 e5 h5 => ?_)
    · have := (h1 h).1
      omega
    · refine K s ⟨Or.inl h3, ?_⟩
      have := h2 h3
      constructor
      · intro h; omega
      · intro h; exact absurd h this
    · have h6 := h1 (by omega)
      refine K s ⟨Or.inr (by omega), fun _ => zSgE_iff.mpr ⟨by omega, fun i x hx => h6.2 i x ?_ hx⟩, fun _ => by omega⟩
      have := (List.getElem?_eq_some_iff.mp hx).1
      omega
    · have hlt : k.toNat < t.length := by omega
      have hx : t[k.toNat]? = some (t.getD k.toNat 0) := by rw [List.getD_eq_getElem?_getD, List.getElem?_eq_getElem hlt]; rfl
      have hz : zR R ((bT es).toNat + k.toNat) = v4 := by
        rw [e4, hr.1, show (v3 + k).toNat = (bT es).toNat + k.toNat by omega]
        rfl
      refine ih 0 (k + 1) (by omega) (by omega) (by omega) (by omega) (by omega) (fun h => by omega) (fun _ hh => ?_)
      have := (zSgE_iff.mp hh).2 k.toNat _ hx
      rw [hz, ← e5] at this
      exact h5 this
    · have hlt : k.toNat < t.length := by omega
      have hx : t[k.toNat]? = some (t.getD k.toNat 0) := by rw [List.getD_eq_getElem?_getD, List.getElem?_eq_getElem hlt]; rfl
      have hz : zR R ((bT es).toNat + k.toNat) = v4 := by
        rw [e4, hr.1, show (v3 + k).toNat = (bT es).toNat + k.toNat by omega]
        rfl
      have h6 := h1 (by omega)
      refine ih 1 (k + 1) (by omega) (by omega) (by omega) (by omega) (by omega) (fun _ => ⟨h6.1, fun i x hi hxi => ?_⟩) (fun h => by omega)
      by_cases hik : (i : Int) < k
      · exact h6.2 i x hik hxi
      · have hi2 : i = k.toNat := by omega
        subst hi2
        rw [hx] at hxi
        rw [hz, ← Option.some.inj hxi, ← e5]
        omega
theorem iswG_spec {t : List Nat} {wk : Nat} (hs : sh es) (hT : hOK tT es) (hr : rR R n es) (hk : 8 ≤ wk) (ht : pTX[wk - 8]? = some t) (ha : ∀ x ∈ t, x ≤ 127) (h0 : 0 < t.length ∧ t.length ≤ 10) (K : ∀ v : Int, iswG t R es v → Q (.inl (some (.int (zI v))), es, kc, ks)) : aW O (d + 1) 180 kc ks Q (0, [some (.ref 143), some (.ref wk), none, none], [], es) := by
  have hpb := pT_bd hT
  have hbb := bT_bd hT
  have hbd : bT es = (gI es 79 8).toInt := rfl
  have hpd : pT es = (gI es 79 6).toInt := rfl
  refine s_iw0 (d := d) (tt := t) hs hk ht ha h0.2 hT (fun v1 e1 v2 e2 h1 => ?_) (fun v1 e1 v2 e2 h1 => ?_)
  · exact isw_loop hr hT hk ht ha h0 K 11 0 0 (by omega) (by omega) (by omega) (by omega) (by omega) (fun h => by omega) (fun _ hh => by
      have := (zSgE_iff.mp hh).1
      omega)
  · exact isw_loop hr hT hk ht ha h0 K 11 1 0 (by omega) (by omega) (by omega) (by omega) (by omega) (fun _ => ⟨by omega, fun i x hi _ => by omega⟩) (fun h => by omega)
end
theorem s_rk0 {O : pOut} {d kc ks : Nat} {Q : pRes → Prop} {es : PH} {R : Nat → Int32} {n0 : Nat} {ln : Int} (hs_es : sh es) (hT_es : hOK tT es) (hr_es : rR R n0 es)
    (K1 : ∀ v1 : Int, iswG (zWds.getD 11 []) R  es v1 → v1 = 0 → ∀ v3 : Int, iswG (zWds.getD 12 []) R  es v3 → v3 = 0 → ∀ v5 : Int, iswG (zWds.getD 13 []) R  es v5 → v5 = 0 → ∀ v7 : Int, iswG (zWds.getD 14 []) R  es v7 → v7 = 0 → ∀ v9 : Int, iswG (zWds.getD 15 []) R  es v9 → v9 = 0 → aW O (d + 2) 179 kc ks Q (66, [some (.ref 143), some (.int (zI ln)), none], [.int (zI (-1))], es))
    (K2 : ∀ v1 : Int, iswG (zWds.getD 11 []) R  es v1 → v1 = 0 → ∀ v3 : Int, iswG (zWds.getD 12 []) R  es v3 → v3 = 0 → ∀ v5 : Int, iswG (zWds.getD 13 []) R  es v5 → v5 = 0 → ∀ v7 : Int, iswG (zWds.getD 14 []) R  es v7 → v7 = 0 → ∀ v9 : Int, iswG (zWds.getD 15 []) R  es v9 → ¬ (v9 = 0) → aW O (d + 2) 179 kc ks Q (66, [some (.ref 143), some (.int (zI ln)), none], [.int (zI 4)], es))
    (K3 : ∀ v1 : Int, iswG (zWds.getD 11 []) R  es v1 → v1 = 0 → ∀ v3 : Int, iswG (zWds.getD 12 []) R  es v3 → v3 = 0 → ∀ v5 : Int, iswG (zWds.getD 13 []) R  es v5 → v5 = 0 → ∀ v7 : Int, iswG (zWds.getD 14 []) R  es v7 → ¬ (v7 = 0) → aW O (d + 2) 179 kc ks Q (66, [some (.ref 143), some (.int (zI ln)), none], [.int (zI 3)], es))
    (K4 : ∀ v1 : Int, iswG (zWds.getD 11 []) R  es v1 → v1 = 0 → ∀ v3 : Int, iswG (zWds.getD 12 []) R  es v3 → v3 = 0 → ∀ v5 : Int, iswG (zWds.getD 13 []) R  es v5 → ¬ (v5 = 0) → aW O (d + 2) 179 kc ks Q (66, [some (.ref 143), some (.int (zI ln)), none], [.int (zI 2)], es))
    (K5 : ∀ v1 : Int, iswG (zWds.getD 11 []) R  es v1 → v1 = 0 → ∀ v3 : Int, iswG (zWds.getD 12 []) R  es v3 → ¬ (v3 = 0) → aW O (d + 2) 179 kc ks Q (66, [some (.ref 143), some (.int (zI ln)), none], [.int (zI 1)], es))
    (K6 : ∀ v1 : Int, iswG (zWds.getD 11 []) R  es v1 → ¬ (v1 = 0) → aW O (d + 2) 179 kc ks Q (66, [some (.ref 143), some (.int (zI ln)), none], [.int (zI 0)], es)) :
    aW O (d + 2) 179 kc ks Q (0, [some (.ref 143), some (.int (zI ln)), none], [], es) := by
  refine x0 (r := (1, [some (.ref 143), some (.int (zI ln)), none], [.ref 143], es)) i_179_0 rfl ?_
  refine x1 (r := (3, [some (.ref 143), some (.int (zI ln)), none], [.ref 34, .ref 143], es)) i_179_1 rfl (fun _ => rfl) rfl ?_
  refine x_call (vs := [.ref 143, .ref 34]) (rs := []) i_179_3 rfl (fun _ => rfl) rfl rfl rfl rfl rfl (pCall_v (p := 79) hs_es rfl rfl rfl rfl rfl (by decide) rfl rfl rfl rfl rfl) ?_
  show aW _ _ _ _ _ _ (0, [some (.ref 143), some (.ref 34), none, none], [], es)
  refine iswG_spec hs_es hT_es hr_es (by decide) rfl (by decide) (by decide) (fun v1 p_v1 => ?_)
  have r_v1 := p_v1.1
  show aW _ _ _ _ _ _ (6, [some (.ref 143), some (.int (zI ln)), none], [.int (zI v1)], es)
  by_cases c2 : v1 = 0
  · refine x_ifT i_179_6 (by unfold i32 iLO iHI; omega) rfl (by simp only [zC, cR]; omega) ?_
    refine x0 (r := (14, [some (.ref 143), some (.int (zI ln)), none], [.ref 143], es)) i_179_13 rfl ?_
    refine x1 (r := (16, [some (.ref 143), some (.int (zI ln)), none], [.ref 35, .ref 143], es)) i_179_14 rfl (fun _ => rfl) rfl ?_
    refine x_call (vs := [.ref 143, .ref 35]) (rs := []) i_179_16 rfl (fun _ => rfl) rfl rfl rfl rfl rfl (pCall_v (p := 79) hs_es rfl rfl rfl rfl rfl (by decide) rfl rfl rfl rfl rfl) ?_
    show aW _ _ _ _ _ _ (0, [some (.ref 143), some (.ref 35), none, none], [], es)
    refine iswG_spec hs_es hT_es hr_es (by decide) rfl (by decide) (by decide) (fun v3 p_v3 => ?_)
    have r_v3 := p_v3.1
    show aW _ _ _ _ _ _ (19, [some (.ref 143), some (.int (zI ln)), none], [.int (zI v3)], es)
    by_cases c4 : v3 = 0
    · refine x_ifT i_179_19 (by unfold i32 iLO iHI; omega) rfl (by simp only [zC, cR]; omega) ?_
      refine x0 (r := (27, [some (.ref 143), some (.int (zI ln)), none], [.ref 143], es)) i_179_26 rfl ?_
      refine x1 (r := (29, [some (.ref 143), some (.int (zI ln)), none], [.ref 36, .ref 143], es)) i_179_27 rfl (fun _ => rfl) rfl ?_
      refine x_call (vs := [.ref 143, .ref 36]) (rs := []) i_179_29 rfl (fun _ => rfl) rfl rfl rfl rfl rfl (pCall_v (p := 79) hs_es rfl rfl rfl rfl rfl (by decide) rfl rfl rfl rfl rfl) ?_
      show aW _ _ _ _ _ _ (0, [some (.ref 143), some (.ref 36), none, none], [], es)
      refine iswG_spec hs_es hT_es hr_es (by decide) rfl (by decide) (by decide) (fun v5 p_v5 => ?_)
      have r_v5 := p_v5.1
      show aW _ _ _ _ _ _ (32, [some (.ref 143), some (.int (zI ln)), none], [.int (zI v5)], es)
      by_cases c6 : v5 = 0
      · refine x_ifT i_179_32 (by unfold i32 iLO iHI; omega) rfl (by simp only [zC, cR]; omega) ?_
        refine x0 (r := (40, [some (.ref 143), some (.int (zI ln)), none], [.ref 143], es)) i_179_39 rfl ?_
        refine x1 (r := (42, [some (.ref 143), some (.int (zI ln)), none], [.ref 37, .ref 143], es)) i_179_40 rfl (fun _ => rfl) rfl ?_
        refine x_call (vs := [.ref 143, .ref 37]) (rs := []) i_179_42 rfl (fun _ => rfl) rfl rfl rfl rfl rfl (pCall_v (p := 79) hs_es rfl rfl rfl rfl rfl (by decide) rfl rfl rfl rfl rfl) ?_
        show aW _ _ _ _ _ _ (0, [some (.ref 143), some (.ref 37), none, none], [], es)
        refine iswG_spec hs_es hT_es hr_es (by decide) rfl (by decide) (by decide) (fun v7 p_v7 => ?_)
        have r_v7 := p_v7.1
        show aW _ _ _ _ _ _ (45, [some (.ref 143), some (.int (zI ln)), none], [.int (zI v7)], es)
        by_cases c8 : v7 = 0
        · refine x_ifT i_179_45 (by unfold i32 iLO iHI; omega) rfl (by simp only [zC, cR]; omega) ?_
          refine x0 (r := (53, [some (.ref 143), some (.int (zI ln)), none], [.ref 143], es)) i_179_52 rfl ?_
          refine x1 (r := (55, [some (.ref 143), some (.int (zI ln)), none], [.ref 38, .ref 143], es)) i_179_53 rfl (fun _ => rfl) rfl ?_
          refine x_call (vs := [.ref 143, .ref 38]) (rs := []) i_179_55 rfl (fun _ => rfl) rfl rfl rfl rfl rfl (pCall_v (p := 79) hs_es rfl rfl rfl rfl rfl (by decide) rfl rfl rfl rfl rfl) ?_
          show aW _ _ _ _ _ _ (0, [some (.ref 143), some (.ref 38), none, none], [], es)
          refine iswG_spec hs_es hT_es hr_es (by decide) rfl (by decide) (by decide) (fun v9 p_v9 => ?_)
          have r_v9 := p_v9.1
          show aW _ _ _ _ _ _ (58, [some (.ref 143), some (.int (zI ln)), none], [.int (zI v9)], es)
          by_cases c10 : v9 = 0
          · refine x_ifT i_179_58 (by unfold i32 iLO iHI; omega) rfl (by simp only [zC, cR]; omega) ?_
            refine x0 (r := (66, [some (.ref 143), some (.int (zI ln)), none], [.int (zI (-1))], es)) i_179_65 (by rfl) ?_
            exact K1 v1 p_v1 c2 v3 p_v3 c4 v5 p_v5 c6 v7 p_v7 c8 v9 p_v9 c10
          · refine x_ifF i_179_58 (by unfold i32 iLO iHI; omega) rfl (by simp only [zC, cR]; omega) ?_
            refine x0 (r := (62, [some (.ref 143), some (.int (zI ln)), none], [.int (zI 4)], es)) i_179_61 (by rfl) ?_
            refine x0 (r := (66, [some (.ref 143), some (.int (zI ln)), none], [.int (zI 4)], es)) i_179_62 rfl ?_
            exact K2 v1 p_v1 c2 v3 p_v3 c4 v5 p_v5 c6 v7 p_v7 c8 v9 p_v9 c10
        · refine x_ifF i_179_45 (by unfold i32 iLO iHI; omega) rfl (by simp only [zC, cR]; omega) ?_
          refine x0 (r := (49, [some (.ref 143), some (.int (zI ln)), none], [.int (zI 3)], es)) i_179_48 (by rfl) ?_
          refine x0 (r := (66, [some (.ref 143), some (.int (zI ln)), none], [.int (zI 3)], es)) i_179_49 rfl ?_
          exact K3 v1 p_v1 c2 v3 p_v3 c4 v5 p_v5 c6 v7 p_v7 c8
      · refine x_ifF i_179_32 (by unfold i32 iLO iHI; omega) rfl (by simp only [zC, cR]; omega) ?_
        refine x0 (r := (36, [some (.ref 143), some (.int (zI ln)), none], [.int (zI 2)], es)) i_179_35 (by rfl) ?_
        refine x0 (r := (66, [some (.ref 143), some (.int (zI ln)), none], [.int (zI 2)], es)) i_179_36 rfl ?_
        exact K4 v1 p_v1 c2 v3 p_v3 c4 v5 p_v5 c6
    · refine x_ifF i_179_19 (by unfold i32 iLO iHI; omega) rfl (by simp only [zC, cR]; omega) ?_
      refine x0 (r := (23, [some (.ref 143), some (.int (zI ln)), none], [.int (zI 1)], es)) i_179_22 (by rfl) ?_
      refine x0 (r := (66, [some (.ref 143), some (.int (zI ln)), none], [.int (zI 1)], es)) i_179_23 rfl ?_
      exact K5 v1 p_v1 c2 v3 p_v3 c4
  · refine x_ifF i_179_6 (by unfold i32 iLO iHI; omega) rfl (by simp only [zC, cR]; omega) ?_
    refine x0 (r := (10, [some (.ref 143), some (.int (zI ln)), none], [.int (zI 0)], es)) i_179_9 (by rfl) ?_
    refine x0 (r := (66, [some (.ref 143), some (.int (zI ln)), none], [.int (zI 0)], es)) i_179_10 rfl ?_
    exact K6 v1 p_v1 c2
theorem s_rk66 {O : pOut} {d kc ks : Nat} {Q : pRes → Prop} {es : PH} {R : Nat → Int32} {n0 : Nat} {ln s : Int} (hs_es : sh es) (hn : 0 ≤ ln ∧ ln ≤ 5) (hs : -1 ≤ s ∧ s ≤ 4) (hT_es : hOK tT es) (hr_es : rR R n0 es)
    (K1 : ∀ es1 : PH, es1 = sA es 84 (2 * ln).toNat (zI s) → s < 0 → ∀ es3 : PH, es3 = sA es1 84 ((2 * ln) + 1).toNat (zI 0) → Q (.inl (some (.int (zI 0))), es3, kc, ks))
    (K2 : ∀ es1 : PH, es1 = sA es 84 (2 * ln).toNat (zI s) → ¬ (s < 0) → 3 ≤ s → ∀ es5 : PH, es5 = sA es1 84 ((2 * ln) + 1).toNat (zI 0) → ∀ v6 : Int, v6 = (gA es5 84 ((2 * ln) + 1).toNat).toInt → v6 < 0 → Q (.inl (some (.int (zI 0))), es5, kc, ks))
    (K3 : ∀ es1 : PH, es1 = sA es 84 (2 * ln).toNat (zI s) → ¬ (s < 0) → 3 ≤ s → ∀ es5 : PH, es5 = sA es1 84 ((2 * ln) + 1).toNat (zI 0) → ∀ v6 : Int, v6 = (gA es5 84 ((2 * ln) + 1).toNat).toInt → ¬ (v6 < 0) → Q (.inl (some (.int (zI 1))), es5, kc, ks))
    (K4 : ∀ es1 : PH, es1 = sA es 84 (2 * ln).toNat (zI s) → ¬ (s < 0) → ¬ (3 ≤ s) → ∀ es8 : PH, ∀ v9 : Int, nmG R n0 1 5 es1 es8 v9 → ∀ es10 : PH, es10 = sA es8 84 ((2 * ln) + 1).toNat (zI v9) → ∀ v11 : Int, v11 = (gA es10 84 ((2 * ln) + 1).toNat).toInt → v11 < 0 → Q (.inl (some (.int (zI 0))), es10, kc, ks))
    (K5 : ∀ es1 : PH, es1 = sA es 84 (2 * ln).toNat (zI s) → ¬ (s < 0) → ¬ (3 ≤ s) → ∀ es8 : PH, ∀ v9 : Int, nmG R n0 1 5 es1 es8 v9 → ∀ es10 : PH, es10 = sA es8 84 ((2 * ln) + 1).toNat (zI v9) → ∀ v11 : Int, v11 = (gA es10 84 ((2 * ln) + 1).toNat).toInt → ¬ (v11 < 0) → Q (.inl (some (.int (zI 1))), es10, kc, ks)) :
    aW O (d + 3) 179 kc ks Q (66, [some (.ref 143), some (.int (zI ln)), none], [.int (zI s)], es) := by
  refine x0 (r := (67, [some (.ref 143), some (.int (zI ln)), some (.int (zI s))], [], es)) i_179_66 rfl ?_
  refine x0 (r := (68, [some (.ref 143), some (.int (zI ln)), some (.int (zI s))], [.ref 143], es)) i_179_67 rfl ?_
  refine x_getr (p := 79) (k := 148) i_179_68 hs_es rfl rfl ?_
  show aW _ _ _ _ _ _ (71, [some (.ref 143), some (.int (zI ln)), some (.int (zI s))], [.ref 148], es)
  refine x0 (r := (72, [some (.ref 143), some (.int (zI ln)), some (.int (zI s))], [.int (zI 2), .ref 148], es)) i_179_71 (by rfl) ?_
  refine x0 (r := (73, [some (.ref 143), some (.int (zI ln)), some (.int (zI s))], [.int (zI ln), .int (zI 2), .ref 148], es)) i_179_72 rfl ?_
  refine x_imul i_179_73 ?_
  refine x0 (r := (75, [some (.ref 143), some (.int (zI ln)), some (.int (zI s))], [.int (zI s), .int (zI (2 * ln)), .ref 148], es)) i_179_74 rfl ?_
  refine x_iast (p := 84) i_179_75 hs_es rfl (by unfold i32 iLO iHI; omega) (by omega) (by omega) ?_
  obtain ⟨es1, e_es1⟩ : ∃ z : PH, z = sA es 84 (2 * ln).toNat (zI s) := ⟨_, rfl⟩
  have hs_es1 : sh es1 := by rw [e_es1]; exact sh_sA hs_es
  have hT_es1 : hOK tT es1 := by rw [e_es1]; exact hOK_sA hT_es (p := 84) (n := 12) rfl (fun _ => by rw [zI_toInt (by unfold i32 iLO iHI; omega)]; exact ⟨by show (-1 : Int) ≤ s; omega, by show s ≤ (5 : Int); omega⟩)
  have hr_es1 : rR R n0 es1 := by rw [e_es1]; exact rR_sA hr_es (by decide)
  rw [← e_es1]
  refine x0 (r := (77, [some (.ref 143), some (.int (zI ln)), some (.int (zI s))], [.ref 143], es1)) i_179_76 rfl ?_
  refine x_getr (p := 79) (k := 148) i_179_77 hs_es1 rfl rfl ?_
  show aW _ _ _ _ _ _ (80, [some (.ref 143), some (.int (zI ln)), some (.int (zI s))], [.ref 148], es1)
  refine x0 (r := (81, [some (.ref 143), some (.int (zI ln)), some (.int (zI s))], [.int (zI 2), .ref 148], es1)) i_179_80 (by rfl) ?_
  refine x0 (r := (82, [some (.ref 143), some (.int (zI ln)), some (.int (zI s))], [.int (zI ln), .int (zI 2), .ref 148], es1)) i_179_81 rfl ?_
  refine x_imul i_179_82 ?_
  refine x0 (r := (84, [some (.ref 143), some (.int (zI ln)), some (.int (zI s))], [.int (zI 1), .int (zI (2 * ln)), .ref 148], es1)) i_179_83 (by rfl) ?_
  refine x_iadd i_179_84 ?_
  refine x0 (r := (86, [some (.ref 143), some (.int (zI ln)), some (.int (zI s))], [.int (zI s), .int (zI ((2 * ln) + 1)), .ref 148], es1)) i_179_85 rfl ?_
  by_cases c2 : s < 0
  · refine x_ifT i_179_86 (by unfold i32 iLO iHI; omega) rfl (by simp only [zC, cR]; omega) ?_
    refine x0 (r := (104, [some (.ref 143), some (.int (zI ln)), some (.int (zI s))], [.int (zI 0), .int (zI ((2 * ln) + 1)), .ref 148], es1)) i_179_103 (by rfl) ?_
    refine x_iast (p := 84) i_179_104 hs_es1 rfl (by unfold i32 iLO iHI; omega) (by omega) (by omega) ?_
    obtain ⟨es3, e_es3⟩ : ∃ z : PH, z = sA es1 84 ((2 * ln) + 1).toNat (zI 0) := ⟨_, rfl⟩
    have hs_es3 : sh es3 := by rw [e_es3]; exact sh_sA hs_es1
    have hT_es3 : hOK tT es3 := by rw [e_es3]; exact hOK_sA hT_es1 (p := 84) (n := 12) rfl (fun _ => by rw [zI_toInt (by unfold i32 iLO iHI; omega)]; exact ⟨by show (-1 : Int) ≤ 0; omega, by show 0 ≤ (5 : Int); omega⟩)
    have hr_es3 : rR R n0 es3 := by rw [e_es3]; exact rR_sA hr_es1 (by decide)
    rw [← e_es3]
    refine x0 (r := (106, [some (.ref 143), some (.int (zI ln)), some (.int (zI s))], [.int (zI s)], es3)) i_179_105 rfl ?_
    refine x_ifT i_179_106 (by unfold i32 iLO iHI; omega) rfl (by simp only [zC, cR]; omega) ?_
    refine x0 (r := (127, [some (.ref 143), some (.int (zI ln)), some (.int (zI s))], [.int (zI 0)], es3)) i_179_126 (by rfl) ?_
    refine x_ret (v := some (.int (zI 0))) i_179_127 rfl (fun _ => rfl) rfl rfl (pFin_b (by omega)) ?_
    exact K1 es1 e_es1 c2 es3 e_es3
  · refine x_ifF i_179_86 (by unfold i32 iLO iHI; omega) rfl (by simp only [zC, cR]; omega) ?_
    refine x0 (r := (90, [some (.ref 143), some (.int (zI ln)), some (.int (zI s))], [.int (zI s), .int (zI ((2 * ln) + 1)), .ref 148], es1)) i_179_89 rfl ?_
    refine x0 (r := (91, [some (.ref 143), some (.int (zI ln)), some (.int (zI s))], [.int (zI 3), .int (zI s), .int (zI ((2 * ln) + 1)), .ref 148], es1)) i_179_90 (by rfl) ?_
    by_cases c4 : 3 ≤ s
    · refine x_cmpT i_179_91 (by unfold i32 iLO iHI; omega) (by unfold i32 iLO iHI; omega) rfl (by simp only [zC, cR]; omega) ?_
      refine x0 (r := (104, [some (.ref 143), some (.int (zI ln)), some (.int (zI s))], [.int (zI 0), .int (zI ((2 * ln) + 1)), .ref 148], es1)) i_179_103 (by rfl) ?_
      refine x_iast (p := 84) i_179_104 hs_es1 rfl (by unfold i32 iLO iHI; omega) (by omega) (by omega) ?_
      obtain ⟨es5, e_es5⟩ : ∃ z : PH, z = sA es1 84 ((2 * ln) + 1).toNat (zI 0) := ⟨_, rfl⟩
      have hs_es5 : sh es5 := by rw [e_es5]; exact sh_sA hs_es1
      have hT_es5 : hOK tT es5 := by rw [e_es5]; exact hOK_sA hT_es1 (p := 84) (n := 12) rfl (fun _ => by rw [zI_toInt (by unfold i32 iLO iHI; omega)]; exact ⟨by show (-1 : Int) ≤ 0; omega, by show 0 ≤ (5 : Int); omega⟩)
      have hr_es5 : rR R n0 es5 := by rw [e_es5]; exact rR_sA hr_es1 (by decide)
      rw [← e_es5]
      refine x0 (r := (106, [some (.ref 143), some (.int (zI ln)), some (.int (zI s))], [.int (zI s)], es5)) i_179_105 rfl ?_
      refine x_ifF i_179_106 (by unfold i32 iLO iHI; omega) rfl (by simp only [zC, cR]; omega) ?_
      refine x0 (r := (110, [some (.ref 143), some (.int (zI ln)), some (.int (zI s))], [.ref 143], es5)) i_179_109 rfl ?_
      refine x_getr (p := 79) (k := 148) i_179_110 hs_es5 rfl rfl ?_
      show aW _ _ _ _ _ _ (113, [some (.ref 143), some (.int (zI ln)), some (.int (zI s))], [.ref 148], es5)
      refine x0 (r := (114, [some (.ref 143), some (.int (zI ln)), some (.int (zI s))], [.int (zI 2), .ref 148], es5)) i_179_113 (by rfl) ?_
      refine x0 (r := (115, [some (.ref 143), some (.int (zI ln)), some (.int (zI s))], [.int (zI ln), .int (zI 2), .ref 148], es5)) i_179_114 rfl ?_
      refine x_imul i_179_115 ?_
      refine x0 (r := (117, [some (.ref 143), some (.int (zI ln)), some (.int (zI s))], [.int (zI 1), .int (zI (2 * ln)), .ref 148], es5)) i_179_116 (by rfl) ?_
      refine x_iadd i_179_117 ?_
      refine x_iald (p := 84) i_179_118 hs_es5 rfl (by unfold i32 iLO iHI; omega) (by omega) (by omega) ?_
      obtain ⟨v6, e_v6⟩ : ∃ z : Int, z = (gA es5 84 ((2 * ln) + 1).toNat).toInt := ⟨_, rfl⟩
      rw [← e_v6]
      have r_v6 : iLO ≤ v6 ∧ v6 ≤ iHI := by rw [e_v6]; exact i32_rng _
      unfold iLO iHI at r_v6
      have b_v6 : (-1 : Int) ≤ v6 ∧ v6 ≤ (5 : Int) := by rw [e_v6]; exact gA_bd hT_es5 (p := 84) (k := ((2 * ln) + 1).toNat) rfl (by omega) (by decide)
      by_cases c7 : v6 < 0
      · refine x_ifT i_179_119 (by unfold i32 iLO iHI; omega) rfl (by simp only [zC, cR]; omega) ?_
        refine x0 (r := (127, [some (.ref 143), some (.int (zI ln)), some (.int (zI s))], [.int (zI 0)], es5)) i_179_126 (by rfl) ?_
        refine x_ret (v := some (.int (zI 0))) i_179_127 rfl (fun _ => rfl) rfl rfl (pFin_b (by omega)) ?_
        exact K2 es1 e_es1 c2 c4 es5 e_es5 v6 e_v6 c7
      · refine x_ifF i_179_119 (by unfold i32 iLO iHI; omega) rfl (by simp only [zC, cR]; omega) ?_
        refine x0 (r := (123, [some (.ref 143), some (.int (zI ln)), some (.int (zI s))], [.int (zI 1)], es5)) i_179_122 (by rfl) ?_
        refine x0 (r := (127, [some (.ref 143), some (.int (zI ln)), some (.int (zI s))], [.int (zI 1)], es5)) i_179_123 rfl ?_
        refine x_ret (v := some (.int (zI 1))) i_179_127 rfl (fun _ => rfl) rfl rfl (pFin_b (by omega)) ?_
        exact K3 es1 e_es1 c2 c4 es5 e_es5 v6 e_v6 c7
    · refine x_cmpF i_179_91 (by unfold i32 iLO iHI; omega) (by unfold i32 iLO iHI; omega) rfl (by simp only [zC, cR]; omega) ?_
      refine x0 (r := (95, [some (.ref 143), some (.int (zI ln)), some (.int (zI s))], [.ref 143, .int (zI ((2 * ln) + 1)), .ref 148], es1)) i_179_94 rfl ?_
      refine x0 (r := (96, [some (.ref 143), some (.int (zI ln)), some (.int (zI s))], [.int (zI 1), .ref 143, .int (zI ((2 * ln) + 1)), .ref 148], es1)) i_179_95 (by rfl) ?_
      refine x0 (r := (97, [some (.ref 143), some (.int (zI ln)), some (.int (zI s))], [.int (zI 5), .int (zI 1), .ref 143, .int (zI ((2 * ln) + 1)), .ref 148], es1)) i_179_96 (by rfl) ?_
      refine x_call (vs := [.ref 143, .int (zI 1), .int (zI 5)]) (rs := [.int (zI ((2 * ln) + 1)), .ref 148]) i_179_97 rfl (fun _ => rfl) rfl rfl rfl rfl rfl (pCall_v (p := 79) hs_es1 rfl rfl rfl rfl rfl (by decide) rfl rfl rfl rfl rfl) ?_
      show aW _ _ _ _ _ _ (0, [some (.ref 143), some (.int (zI 1)), some (.int (zI 5)), none], [], es1)
      refine nmG_spec hs_es1 hT_es1 hr_es1 (by omega) (by omega) (fun es8 v9 p_es8 => ?_)
      have hs_es8 : sh es8 := p_es8.1
      have hT_es8 : hOK tT es8 := p_es8.2.1
      have hr_es8 : rR R n0 es8 := p_es8.2.2.1
      have r_v9 := nmG_rng p_es8
      show aW _ _ _ _ _ _ (100, [some (.ref 143), some (.int (zI ln)), some (.int (zI s))], [.int (zI v9), .int (zI ((2 * ln) + 1)), .ref 148], es8)
      refine x0 (r := (104, [some (.ref 143), some (.int (zI ln)), some (.int (zI s))], [.int (zI v9), .int (zI ((2 * ln) + 1)), .ref 148], es8)) i_179_100 rfl ?_
      refine x_iast (p := 84) i_179_104 hs_es8 rfl (by unfold i32 iLO iHI; omega) (by omega) (by omega) ?_
      obtain ⟨es10, e_es10⟩ : ∃ z : PH, z = sA es8 84 ((2 * ln) + 1).toNat (zI v9) := ⟨_, rfl⟩
      have hs_es10 : sh es10 := by rw [e_es10]; exact sh_sA hs_es8
      have hT_es10 : hOK tT es10 := by rw [e_es10]; exact hOK_sA hT_es8 (p := 84) (n := 12) rfl (fun _ => by rw [zI_toInt (by unfold i32 iLO iHI; omega)]; exact ⟨by show (-1 : Int) ≤ v9; omega, by show v9 ≤ (5 : Int); omega⟩)
      have hr_es10 : rR R n0 es10 := by rw [e_es10]; exact rR_sA hr_es8 (by decide)
      rw [← e_es10]
      refine x0 (r := (106, [some (.ref 143), some (.int (zI ln)), some (.int (zI s))], [.int (zI s)], es10)) i_179_105 rfl ?_
      refine x_ifF i_179_106 (by unfold i32 iLO iHI; omega) rfl (by simp only [zC, cR]; omega) ?_
      refine x0 (r := (110, [some (.ref 143), some (.int (zI ln)), some (.int (zI s))], [.ref 143], es10)) i_179_109 rfl ?_
      refine x_getr (p := 79) (k := 148) i_179_110 hs_es10 rfl rfl ?_
      show aW _ _ _ _ _ _ (113, [some (.ref 143), some (.int (zI ln)), some (.int (zI s))], [.ref 148], es10)
      refine x0 (r := (114, [some (.ref 143), some (.int (zI ln)), some (.int (zI s))], [.int (zI 2), .ref 148], es10)) i_179_113 (by rfl) ?_
      refine x0 (r := (115, [some (.ref 143), some (.int (zI ln)), some (.int (zI s))], [.int (zI ln), .int (zI 2), .ref 148], es10)) i_179_114 rfl ?_
      refine x_imul i_179_115 ?_
      refine x0 (r := (117, [some (.ref 143), some (.int (zI ln)), some (.int (zI s))], [.int (zI 1), .int (zI (2 * ln)), .ref 148], es10)) i_179_116 (by rfl) ?_
      refine x_iadd i_179_117 ?_
      refine x_iald (p := 84) i_179_118 hs_es10 rfl (by unfold i32 iLO iHI; omega) (by omega) (by omega) ?_
      obtain ⟨v11, e_v11⟩ : ∃ z : Int, z = (gA es10 84 ((2 * ln) + 1).toNat).toInt := ⟨_, rfl⟩
      rw [← e_v11]
      have r_v11 : iLO ≤ v11 ∧ v11 ≤ iHI := by rw [e_v11]; exact i32_rng _
      unfold iLO iHI at r_v11
      have b_v11 : (-1 : Int) ≤ v11 ∧ v11 ≤ (5 : Int) := by rw [e_v11]; exact gA_bd hT_es10 (p := 84) (k := ((2 * ln) + 1).toNat) rfl (by omega) (by decide)
      by_cases c12 : v11 < 0
      · refine x_ifT i_179_119 (by unfold i32 iLO iHI; omega) rfl (by simp only [zC, cR]; omega) ?_
        refine x0 (r := (127, [some (.ref 143), some (.int (zI ln)), some (.int (zI s))], [.int (zI 0)], es10)) i_179_126 (by rfl) ?_
        refine x_ret (v := some (.int (zI 0))) i_179_127 rfl (fun _ => rfl) rfl rfl (pFin_b (by omega)) ?_
        exact K4 es1 e_es1 c2 c4 es8 v9 p_es8 es10 e_es10 v11 e_v11 c12
      · refine x_ifF i_179_119 (by unfold i32 iLO iHI; omega) rfl (by simp only [zC, cR]; omega) ?_
        refine x0 (r := (123, [some (.ref 143), some (.int (zI ln)), some (.int (zI s))], [.int (zI 1)], es10)) i_179_122 (by rfl) ?_
        refine x0 (r := (127, [some (.ref 143), some (.int (zI ln)), some (.int (zI s))], [.int (zI 1)], es10)) i_179_123 rfl ?_
        refine x_ret (v := some (.int (zI 1))) i_179_127 rfl (fun _ => rfl) rfl rfl (pFin_b (by omega)) ?_
        exact K5 es1 e_es1 c2 c4 es8 v9 p_es8 es10 e_es10 v11 e_v11 c12
theorem s_kal0 {O : pOut} {d kc ks : Nat} {Q : pRes → Prop} {es : PH} (hs_es : sh es) (hT_es : hOK tT es)
    (K1 : ∀ v1 : Int, v1 = (gI es 79 5).toInt → ∀ es2 : PH, es2 = sI es 79 7 (.int (zI v1)) → ∀ es3 : PH, es3 = sI es2 79 5 (.int (zI 0)) → ∀ es4 : PH, es4 = sI es3 79 6 (.int (zI 0)) → ∀ es5 : PH, es5 = sI es4 79 12 (.int (zI 0)) → aW O d 175 kc ks Q (24, [some (.ref 143), some (.int (zI 1)), none], [.ref 143], es5)) :
    aW O d 175 kc ks Q (0, [some (.ref 143), some (.int (zI 1)), none], [], es) := by
  refine x0 (r := (1, [some (.ref 143), some (.int (zI 1)), none], [.ref 143], es)) i_175_0 rfl ?_
  refine x0 (r := (2, [some (.ref 143), some (.int (zI 1)), none], [.ref 143, .ref 143], es)) i_175_1 rfl ?_
  refine x_geti (p := 79) i_175_2 hs_es rfl rfl ?_
  obtain ⟨v1, e_v1⟩ : ∃ z : Int, z = (gI es 79 5).toInt := ⟨_, rfl⟩
  rw [← e_v1]
  have r_v1 : iLO ≤ v1 ∧ v1 ≤ iHI := by rw [e_v1]; exact i32_rng _
  unfold iLO iHI at r_v1
  have b_v1 : (0 : Int) ≤ v1 ∧ v1 ≤ (400 : Int) := by rw [e_v1]; exact gI_bd hT_es (p := 79) (b := 5) rfl rfl
  refine x_puti (p := 79) (ty := .int) i_175_5 hs_es rfl rfl rfl (Or.inl rfl) ?_
  obtain ⟨es2, e_es2⟩ : ∃ z : PH, z = sI es 79 7 (.int (zI v1)) := ⟨_, rfl⟩
  have hs_es2 : sh es2 := by rw [e_es2]; exact sh_sI hs_es (p := 79) (b := 7) rfl rfl
  have hT_es2 : hOK tT es2 := by rw [e_es2]; exact hOK_sI hT_es (p := 79) (b := 7) rfl rfl (by rw [zI_toInt (by unfold i32 iLO iHI; omega)]; exact ⟨by show (0 : Int) ≤ v1; omega, by show v1 ≤ (400 : Int); omega⟩)
  rw [← e_es2]
  refine x0 (r := (9, [some (.ref 143), some (.int (zI 1)), none], [.ref 143], es2)) i_175_8 rfl ?_
  refine x0 (r := (10, [some (.ref 143), some (.int (zI 1)), none], [.int (zI 0), .ref 143], es2)) i_175_9 (by rfl) ?_
  refine x_puti (p := 79) (ty := .int) i_175_10 hs_es2 rfl rfl rfl (Or.inl rfl) ?_
  obtain ⟨es3, e_es3⟩ : ∃ z : PH, z = sI es2 79 5 (.int (zI 0)) := ⟨_, rfl⟩
  have hs_es3 : sh es3 := by rw [e_es3]; exact sh_sI hs_es2 (p := 79) (b := 5) rfl rfl
  have hT_es3 : hOK tT es3 := by rw [e_es3]; exact hOK_sI hT_es2 (p := 79) (b := 5) rfl rfl (by rw [zI_toInt (by unfold i32 iLO iHI; omega)]; exact ⟨by show (0 : Int) ≤ 0; omega, by show 0 ≤ (400 : Int); omega⟩)
  rw [← e_es3]
  refine x0 (r := (14, [some (.ref 143), some (.int (zI 1)), none], [.ref 143], es3)) i_175_13 rfl ?_
  refine x0 (r := (15, [some (.ref 143), some (.int (zI 1)), none], [.int (zI 0), .ref 143], es3)) i_175_14 (by rfl) ?_
  refine x_puti (p := 79) (ty := .int) i_175_15 hs_es3 rfl rfl rfl (Or.inl rfl) ?_
  obtain ⟨es4, e_es4⟩ : ∃ z : PH, z = sI es3 79 6 (.int (zI 0)) := ⟨_, rfl⟩
  have hs_es4 : sh es4 := by rw [e_es4]; exact sh_sI hs_es3 (p := 79) (b := 6) rfl rfl
  have hT_es4 : hOK tT es4 := by rw [e_es4]; exact hOK_sI hT_es3 (p := 79) (b := 6) rfl rfl (by rw [zI_toInt (by unfold i32 iLO iHI; omega)]; exact ⟨by show (0 : Int) ≤ 0; omega, by show 0 ≤ (400 : Int); omega⟩)
  rw [← e_es4]
  refine x0 (r := (19, [some (.ref 143), some (.int (zI 1)), none], [.ref 143], es4)) i_175_18 rfl ?_
  refine x0 (r := (20, [some (.ref 143), some (.int (zI 1)), none], [.int (zI 0), .ref 143], es4)) i_175_19 (by rfl) ?_
  refine x_puti (p := 79) (ty := .int) i_175_20 hs_es4 rfl rfl rfl (Or.inl rfl) ?_
  obtain ⟨es5, e_es5⟩ : ∃ z : PH, z = sI es4 79 12 (.int (zI 0)) := ⟨_, rfl⟩
  have hs_es5 : sh es5 := by rw [e_es5]; exact sh_sI hs_es4 (p := 79) (b := 12) rfl rfl
  have hT_es5 : hOK tT es5 := by rw [e_es5]; exact hOK_sI hT_es4 (p := 79) (b := 12) rfl rfl (by rw [zI_toInt (by unfold i32 iLO iHI; omega)]; exact ⟨by show (0 : Int) ≤ 0; omega, by show 0 ≤ (400 : Int); omega⟩)
  rw [← e_es5]
  refine x0 (r := (24, [some (.ref 143), some (.int (zI 1)), none], [.ref 143], es5)) i_175_23 rfl ?_
  exact K1 v1 e_v1 es2 e_es2 es3 e_es3 es4 e_es4 es5 e_es5
theorem s_kal27 {O : pOut} {d kc ks : Nat} {Q : pRes → Prop} {es : PH} (hs_es : sh es) (hT_es : hOK tT es)
    (K1 : ∀ v1 : Int, v1 = (gI es 79 6).toInt → ∀ v2 : Int, v2 = (gI es 79 7).toInt → v1 ≠ v2 → aW O d 175 kc ks Q (42, [some (.ref 143), some (.int (zI 1)), some (.int (zI 0))], [], es))
    (K2 : ∀ v1 : Int, v1 = (gI es 79 6).toInt → ∀ v2 : Int, v2 = (gI es 79 7).toInt → ¬ (v1 ≠ v2) → Q (.inl (some (.int (zI 0))), es, kc, ks)) :
    aW O d 175 kc ks Q (27, [some (.ref 143), some (.int (zI 1)), none], [], es) := by
  refine x0 (r := (28, [some (.ref 143), some (.int (zI 1)), none], [.ref 143], es)) i_175_27 rfl ?_
  refine x_geti (p := 79) i_175_28 hs_es rfl rfl ?_
  obtain ⟨v1, e_v1⟩ : ∃ z : Int, z = (gI es 79 6).toInt := ⟨_, rfl⟩
  rw [← e_v1]
  have r_v1 : iLO ≤ v1 ∧ v1 ≤ iHI := by rw [e_v1]; exact i32_rng _
  unfold iLO iHI at r_v1
  have b_v1 : (0 : Int) ≤ v1 ∧ v1 ≤ (400 : Int) := by rw [e_v1]; exact gI_bd hT_es (p := 79) (b := 6) rfl rfl
  refine x0 (r := (32, [some (.ref 143), some (.int (zI 1)), none], [.ref 143, .int (zI v1)], es)) i_175_31 rfl ?_
  refine x_geti (p := 79) i_175_32 hs_es rfl rfl ?_
  obtain ⟨v2, e_v2⟩ : ∃ z : Int, z = (gI es 79 7).toInt := ⟨_, rfl⟩
  rw [← e_v2]
  have r_v2 : iLO ≤ v2 ∧ v2 ≤ iHI := by rw [e_v2]; exact i32_rng _
  unfold iLO iHI at r_v2
  have b_v2 : (0 : Int) ≤ v2 ∧ v2 ≤ (400 : Int) := by rw [e_v2]; exact gI_bd hT_es (p := 79) (b := 7) rfl rfl
  by_cases c3 : v1 ≠ v2
  · refine x_cmpT i_175_35 (by unfold i32 iLO iHI; omega) (by unfold i32 iLO iHI; omega) rfl (by simp only [zC, cR]; omega) ?_
    refine x0 (r := (41, [some (.ref 143), some (.int (zI 1)), none], [.int (zI 0)], es)) i_175_40 (by rfl) ?_
    refine x0 (r := (42, [some (.ref 143), some (.int (zI 1)), some (.int (zI 0))], [], es)) i_175_41 rfl ?_
    exact K1 v1 e_v1 v2 e_v2 c3
  · refine x_cmpF i_175_35 (by unfold i32 iLO iHI; omega) (by unfold i32 iLO iHI; omega) rfl (by simp only [zC, cR]; omega) ?_
    refine x0 (r := (39, [some (.ref 143), some (.int (zI 1)), none], [.int (zI 0)], es)) i_175_38 (by rfl) ?_
    refine x_ret (v := some (.int (zI 0))) i_175_39 rfl (fun _ => rfl) rfl rfl rfl ?_
    exact K2 v1 e_v1 v2 e_v2 c3
theorem s_kal42 {O : pOut} {d kc ks : Nat} {Q : pRes → Prop} {es : PH} {R : Nat → Int32} {n0 : Nat} {ln : Int} (hs_es : sh es) (hn : 0 ≤ ln ∧ ln ≤ 6) (hT_es : hOK tT es) (hr_es : rR R n0 es)
    (K1 : ∀ es1 : PH, ltG R n0  es es1 → ln ≠ 6 → aW O (d + 3) 175 kc ks Q (69, [some (.ref 143), some (.int (zI 1)), some (.int (zI ln))], [.int (zI ln), .ref 143], es1))
    (K2 : ∀ es1 : PH, ltG R n0  es es1 → ¬ (ln ≠ 6) → Q (.inl (some (.int (zI (-1)))), es1, kc, ks)) :
    aW O (d + 3) 175 kc ks Q (42, [some (.ref 143), some (.int (zI 1)), some (.int (zI ln))], [], es) := by
  refine x0 (r := (43, [some (.ref 143), some (.int (zI 1)), some (.int (zI ln))], [.ref 143], es)) i_175_42 rfl ?_
  refine x_call (vs := [.ref 143]) (rs := []) i_175_43 rfl (fun _ => rfl) rfl rfl rfl rfl rfl (pCall_v (p := 79) hs_es rfl rfl rfl rfl rfl (by decide) rfl rfl rfl rfl rfl) ?_
  show aW _ _ _ _ _ _ (0, [some (.ref 143)], [], es)
  refine ltG_spec hs_es hT_es hr_es (fun es1 p_es1 => ?_)
  have hs_es1 : sh es1 := p_es1.1
  have hT_es1 : hOK tT es1 := p_es1.2.1
  have hr_es1 : rR R n0 es1 := p_es1.2.2.1
  show aW _ _ _ _ _ _ (46, [some (.ref 143), some (.int (zI 1)), some (.int (zI ln))], [], es1)
  refine x0 (r := (47, [some (.ref 143), some (.int (zI 1)), some (.int (zI ln))], [.int (zI ln)], es1)) i_175_46 rfl ?_
  refine x0 (r := (48, [some (.ref 143), some (.int (zI 1)), some (.int (zI ln))], [.int (zI 1), .int (zI ln)], es1)) i_175_47 rfl ?_
  refine x_ifF i_175_48 (by unfold i32 iLO iHI; omega) rfl (by simp only [zC, cR]; omega) ?_
  refine x0 (r := (53, [some (.ref 143), some (.int (zI 1)), some (.int (zI ln))], [.int (zI 6), .int (zI ln)], es1)) i_175_51 (by rfl) ?_
  refine x0 (r := (58, [some (.ref 143), some (.int (zI 1)), some (.int (zI ln))], [.int (zI 6), .int (zI ln)], es1)) i_175_53 rfl ?_
  by_cases c2 : ln ≠ 6
  · refine x_cmpT i_175_58 (by unfold i32 iLO iHI; omega) (by unfold i32 iLO iHI; omega) rfl (by simp only [zC, cR]; omega) ?_
    refine x0 (r := (64, [some (.ref 143), some (.int (zI 1)), some (.int (zI ln))], [.int (zI 1)], es1)) i_175_63 rfl ?_
    refine x_ifF i_175_64 (by unfold i32 iLO iHI; omega) rfl (by simp only [zC, cR]; omega) ?_
    refine x0 (r := (68, [some (.ref 143), some (.int (zI 1)), some (.int (zI ln))], [.ref 143], es1)) i_175_67 rfl ?_
    refine x0 (r := (69, [some (.ref 143), some (.int (zI 1)), some (.int (zI ln))], [.int (zI ln), .ref 143], es1)) i_175_68 rfl ?_
    exact K1 es1 p_es1 c2
  · refine x_cmpF i_175_58 (by unfold i32 iLO iHI; omega) (by unfold i32 iLO iHI; omega) rfl (by simp only [zC, cR]; omega) ?_
    refine x0 (r := (62, [some (.ref 143), some (.int (zI 1)), some (.int (zI ln))], [.int (zI (-1))], es1)) i_175_61 (by rfl) ?_
    refine x_ret (v := some (.int (zI (-1)))) i_175_62 rfl (fun _ => rfl) rfl rfl rfl ?_
    exact K2 es1 p_es1 c2
theorem s_kal72 {O : pOut} {d kc ks : Nat} {Q : pRes → Prop} {es : PH} {R : Nat → Int32} {n0 : Nat} {ln v : Int} (hs_es : sh es) (hn : 0 ≤ ln ∧ ln ≤ 5) (hv : v = 0 ∨ v = 1) (hT_es : hOK tT es) (hr_es : rR R n0 es)
    (K1 : v = 0 → Q (.inl (some (.int (zI (-1)))), es, kc, ks))
    (K2 : ¬ (v = 0) → ∀ es2 : PH, blG R n0  es es2 → ∀ v3 : Int, v3 = (gI es2 79 6).toInt → ∀ v4 : Int, v4 = (gI es2 79 7).toInt → v3 ≠ v4 → ∀ v6 : Int, v6 = (gI es2 79 6).toInt → ∀ v7 : Int, v7 = (gI es2 79 7).toInt → v7 ≤ v6 → Q (.inl (some (.int (zI (-1)))), es2, kc, ks))
    (K3 : ¬ (v = 0) → ∀ es2 : PH, blG R n0  es es2 → ∀ v3 : Int, v3 = (gI es2 79 6).toInt → ∀ v4 : Int, v4 = (gI es2 79 7).toInt → v3 ≠ v4 → ∀ v6 : Int, v6 = (gI es2 79 6).toInt → ∀ v7 : Int, v7 = (gI es2 79 7).toInt → ¬ (v7 ≤ v6) → ∀ v9 : Int, v9 = (gI es2 79 6).toInt → ∀ v10 : Int, v10 = (gA es2 82 v9.toNat).toInt → v10 < 59 → Q (.inl (some (.int (zI (-1)))), es2, kc, ks))
    (K4 : ¬ (v = 0) → ∀ es2 : PH, blG R n0  es es2 → ∀ v3 : Int, v3 = (gI es2 79 6).toInt → ∀ v4 : Int, v4 = (gI es2 79 7).toInt → v3 ≠ v4 → ∀ v6 : Int, v6 = (gI es2 79 6).toInt → ∀ v7 : Int, v7 = (gI es2 79 7).toInt → ¬ (v7 ≤ v6) → ∀ v9 : Int, v9 = (gI es2 79 6).toInt → ∀ v10 : Int, v10 = (gA es2 82 v9.toNat).toInt → ¬ (v10 < 59) → ∀ v12 : Int, v12 = (gI es2 79 6).toInt → ∀ v13 : Int, v13 = (gA es2 82 v12.toNat).toInt → 59 < v13 → Q (.inl (some (.int (zI (-1)))), es2, kc, ks))
    (K5 : ¬ (v = 0) → ∀ es2 : PH, blG R n0  es es2 → ∀ v3 : Int, v3 = (gI es2 79 6).toInt → ∀ v4 : Int, v4 = (gI es2 79 7).toInt → v3 ≠ v4 → ∀ v6 : Int, v6 = (gI es2 79 6).toInt → ∀ v7 : Int, v7 = (gI es2 79 7).toInt → ¬ (v7 ≤ v6) → ∀ v9 : Int, v9 = (gI es2 79 6).toInt → ∀ v10 : Int, v10 = (gA es2 82 v9.toNat).toInt → ¬ (v10 < 59) → ∀ v12 : Int, v12 = (gI es2 79 6).toInt → ∀ v13 : Int, v13 = (gA es2 82 v12.toNat).toInt → ¬ (59 < v13) → ∀ v15 : Int, v15 = (gI es2 79 6).toInt → ∀ es16 : PH, es16 = sI es2 79 6 (.int (zI (v15 + 1))) → aW O (d + 2) 175 kc ks Q (42, [some (.ref 143), some (.int (zI 1)), some (.int (zI (ln + 1)))], [], es16))
    (K6 : ¬ (v = 0) → ∀ es2 : PH, blG R n0  es es2 → ∀ v3 : Int, v3 = (gI es2 79 6).toInt → ∀ v4 : Int, v4 = (gI es2 79 7).toInt → ¬ (v3 ≠ v4) → Q (.inl (some (.int (zI (ln + 1)))), es2, kc, ks)) :
    aW O (d + 2) 175 kc ks Q (72, [some (.ref 143), some (.int (zI 1)), some (.int (zI ln))], [.int (zI v)], es) := by
  by_cases c1 : v = 0
  · refine x_ifT i_175_72 (by unfold i32 iLO iHI; omega) rfl (by simp only [zC, cR]; omega) ?_
    refine x0 (r := (87, [some (.ref 143), some (.int (zI 1)), some (.int (zI ln))], [.int (zI (-1))], es)) i_175_86 (by rfl) ?_
    refine x_ret (v := some (.int (zI (-1)))) i_175_87 rfl (fun _ => rfl) rfl rfl rfl ?_
    exact K1 c1
  · refine x_ifF i_175_72 (by unfold i32 iLO iHI; omega) rfl (by simp only [zC, cR]; omega) ?_
    refine x0 (r := (88, [some (.ref 143), some (.int (zI 1)), some (.int (zI ln))], [], es)) i_175_75 rfl ?_
    refine x0 (r := (89, [some (.ref 143), some (.int (zI 1)), some (.int (zI ln))], [.ref 143], es)) i_175_88 rfl ?_
    refine x_call (vs := [.ref 143]) (rs := []) i_175_89 rfl (fun _ => rfl) rfl rfl rfl rfl rfl (pCall_v (p := 79) hs_es rfl rfl rfl rfl rfl (by decide) rfl rfl rfl rfl rfl) ?_
    show aW _ _ _ _ _ _ (0, [some (.ref 143)], [], es)
    refine blG_spec hs_es hT_es hr_es (fun es2 p_es2 => ?_)
    have hs_es2 : sh es2 := p_es2.1
    have hT_es2 : hOK tT es2 := p_es2.2.1
    have hr_es2 : rR R n0 es2 := p_es2.2.2.1
    show aW _ _ _ _ _ _ (92, [some (.ref 143), some (.int (zI 1)), some (.int (zI ln))], [], es2)
    refine x0 (r := (93, [some (.ref 143), some (.int (zI 1)), some (.int (zI ln))], [.ref 143], es2)) i_175_92 rfl ?_
    refine x_geti (p := 79) i_175_93 hs_es2 rfl rfl ?_
    obtain ⟨v3, e_v3⟩ : ∃ z : Int, z = (gI es2 79 6).toInt := ⟨_, rfl⟩
    rw [← e_v3]
    have r_v3 : iLO ≤ v3 ∧ v3 ≤ iHI := by rw [e_v3]; exact i32_rng _
    unfold iLO iHI at r_v3
    have b_v3 : (0 : Int) ≤ v3 ∧ v3 ≤ (400 : Int) := by rw [e_v3]; exact gI_bd hT_es2 (p := 79) (b := 6) rfl rfl
    refine x0 (r := (97, [some (.ref 143), some (.int (zI 1)), some (.int (zI ln))], [.ref 143, .int (zI v3)], es2)) i_175_96 rfl ?_
    refine x_geti (p := 79) i_175_97 hs_es2 rfl rfl ?_
    obtain ⟨v4, e_v4⟩ : ∃ z : Int, z = (gI es2 79 7).toInt := ⟨_, rfl⟩
    rw [← e_v4]
    have r_v4 : iLO ≤ v4 ∧ v4 ≤ iHI := by rw [e_v4]; exact i32_rng _
    unfold iLO iHI at r_v4
    have b_v4 : (0 : Int) ≤ v4 ∧ v4 ≤ (400 : Int) := by rw [e_v4]; exact gI_bd hT_es2 (p := 79) (b := 7) rfl rfl
    by_cases c5 : v3 ≠ v4
    · refine x_cmpT i_175_100 (by unfold i32 iLO iHI; omega) (by unfold i32 iLO iHI; omega) rfl (by simp only [zC, cR]; omega) ?_
      refine x0 (r := (108, [some (.ref 143), some (.int (zI 1)), some (.int (zI ln))], [.ref 143], es2)) i_175_107 rfl ?_
      refine x0 (r := (110, [some (.ref 143), some (.int (zI 1)), some (.int (zI ln))], [.int (zI 59), .ref 143], es2)) i_175_108 (by rfl) ?_
      refine x0 (r := (112, [some (.ref 143), some (.int (zI 1)), some (.int (zI ln))], [.int (zI 59), .int (zI 59), .ref 143], es2)) i_175_110 (by rfl) ?_
      refine x_call (vs := [.ref 143, .int (zI 59), .int (zI 59)]) (rs := []) i_175_112 rfl (fun _ => rfl) rfl rfl rfl rfl rfl (pCall_v (p := 79) hs_es2 rfl rfl rfl rfl rfl (by decide) rfl rfl rfl rfl rfl) ?_
      show aW _ _ _ _ _ _ (0, [some (.ref 143), some (.int (zI 59)), some (.int (zI 59))], [], es2)
      refine x0 (r := (1, [some (.ref 143), some (.int (zI 59)), some (.int (zI 59))], [.ref 143], es2)) i_177_0 rfl ?_
      refine x_geti (p := 79) i_177_1 hs_es2 rfl rfl ?_
      obtain ⟨v6, e_v6⟩ : ∃ z : Int, z = (gI es2 79 6).toInt := ⟨_, rfl⟩
      rw [← e_v6]
      have r_v6 : iLO ≤ v6 ∧ v6 ≤ iHI := by rw [e_v6]; exact i32_rng _
      unfold iLO iHI at r_v6
      have b_v6 : (0 : Int) ≤ v6 ∧ v6 ≤ (400 : Int) := by rw [e_v6]; exact gI_bd hT_es2 (p := 79) (b := 6) rfl rfl
      refine x0 (r := (5, [some (.ref 143), some (.int (zI 59)), some (.int (zI 59))], [.ref 143, .int (zI v6)], es2)) i_177_4 rfl ?_
      refine x_geti (p := 79) i_177_5 hs_es2 rfl rfl ?_
      obtain ⟨v7, e_v7⟩ : ∃ z : Int, z = (gI es2 79 7).toInt := ⟨_, rfl⟩
      rw [← e_v7]
      have r_v7 : iLO ≤ v7 ∧ v7 ≤ iHI := by rw [e_v7]; exact i32_rng _
      unfold iLO iHI at r_v7
      have b_v7 : (0 : Int) ≤ v7 ∧ v7 ≤ (400 : Int) := by rw [e_v7]; exact gI_bd hT_es2 (p := 79) (b := 7) rfl rfl
      by_cases c8 : v7 ≤ v6
      · refine x_cmpT i_177_8 (by unfold i32 iLO iHI; omega) (by unfold i32 iLO iHI; omega) rfl (by simp only [zC, cR]; omega) ?_
        refine x0 (r := (42, [some (.ref 143), some (.int (zI 59)), some (.int (zI 59))], [.int (zI 0)], es2)) i_177_41 (by rfl) ?_
        refine x_ret (v := some (.int (zI 0))) i_177_42 rfl (fun _ => rfl) rfl rfl (pFin_b (by omega)) ?_
        show aW _ _ _ _ _ _ (115, [some (.ref 143), some (.int (zI 1)), some (.int (zI ln))], [.int (zI 0)], es2)
        refine x_ifF i_175_115 (by unfold i32 iLO iHI; omega) rfl (by simp only [zC, cR]; omega) ?_
        refine x0 (r := (119, [some (.ref 143), some (.int (zI 1)), some (.int (zI ln))], [.int (zI (-1))], es2)) i_175_118 (by rfl) ?_
        refine x_ret (v := some (.int (zI (-1)))) i_175_119 rfl (fun _ => rfl) rfl rfl rfl ?_
        exact K2 c1 es2 p_es2 v3 e_v3 v4 e_v4 c5 v6 e_v6 v7 e_v7 c8
      · refine x_cmpF i_177_8 (by unfold i32 iLO iHI; omega) (by unfold i32 iLO iHI; omega) rfl (by simp only [zC, cR]; omega) ?_
        refine x0 (r := (12, [some (.ref 143), some (.int (zI 59)), some (.int (zI 59))], [.ref 143], es2)) i_177_11 rfl ?_
        refine x_getr (p := 79) (k := 146) i_177_12 hs_es2 rfl rfl ?_
        show aW _ _ _ _ _ _ (15, [some (.ref 143), some (.int (zI 59)), some (.int (zI 59))], [.ref 146], es2)
        refine x0 (r := (16, [some (.ref 143), some (.int (zI 59)), some (.int (zI 59))], [.ref 143, .ref 146], es2)) i_177_15 rfl ?_
        refine x_geti (p := 79) i_177_16 hs_es2 rfl rfl ?_
        obtain ⟨v9, e_v9⟩ : ∃ z : Int, z = (gI es2 79 6).toInt := ⟨_, rfl⟩
        rw [← e_v9]
        have r_v9 : iLO ≤ v9 ∧ v9 ≤ iHI := by rw [e_v9]; exact i32_rng _
        unfold iLO iHI at r_v9
        have b_v9 : (0 : Int) ≤ v9 ∧ v9 ≤ (400 : Int) := by rw [e_v9]; exact gI_bd hT_es2 (p := 79) (b := 6) rfl rfl
        refine x_bald (p := 82) i_177_19 hs_es2 rfl (by decide) (by unfold i32 iLO iHI; omega) (by omega) (by omega) ?_
        obtain ⟨v10, e_v10⟩ : ∃ z : Int, z = (gA es2 82 v9.toNat).toInt := ⟨_, rfl⟩
        rw [← e_v10]
        have r_v10 : iLO ≤ v10 ∧ v10 ≤ iHI := by rw [e_v10]; exact i32_rng _
        unfold iLO iHI at r_v10
        have b_v10 : (-128 : Int) ≤ v10 ∧ v10 ≤ (127 : Int) := by rw [e_v10]; exact gA_bd hT_es2 (p := 82) (k := v9.toNat) rfl (by omega) (by decide)
        refine x0 (r := (21, [some (.ref 143), some (.int (zI 59)), some (.int (zI 59))], [.int (zI 59), .int (zI v10)], es2)) i_177_20 rfl ?_
        by_cases c11 : v10 < 59
        · refine x_cmpT i_177_21 (by unfold i32 iLO iHI; omega) (by unfold i32 iLO iHI; omega) rfl (by simp only [zC, cR]; omega) ?_
          refine x0 (r := (42, [some (.ref 143), some (.int (zI 59)), some (.int (zI 59))], [.int (zI 0)], es2)) i_177_41 (by rfl) ?_
          refine x_ret (v := some (.int (zI 0))) i_177_42 rfl (fun _ => rfl) rfl rfl (pFin_b (by omega)) ?_
          show aW _ _ _ _ _ _ (115, [some (.ref 143), some (.int (zI 1)), some (.int (zI ln))], [.int (zI 0)], es2)
          refine x_ifF i_175_115 (by unfold i32 iLO iHI; omega) rfl (by simp only [zC, cR]; omega) ?_
          refine x0 (r := (119, [some (.ref 143), some (.int (zI 1)), some (.int (zI ln))], [.int (zI (-1))], es2)) i_175_118 (by rfl) ?_
          refine x_ret (v := some (.int (zI (-1)))) i_175_119 rfl (fun _ => rfl) rfl rfl rfl ?_
          exact K3 c1 es2 p_es2 v3 e_v3 v4 e_v4 c5 v6 e_v6 v7 e_v7 c8 v9 e_v9 v10 e_v10 c11
        · refine x_cmpF i_177_21 (by unfold i32 iLO iHI; omega) (by unfold i32 iLO iHI; omega) rfl (by simp only [zC, cR]; omega) ?_
          refine x0 (r := (25, [some (.ref 143), some (.int (zI 59)), some (.int (zI 59))], [.ref 143], es2)) i_177_24 rfl ?_
          refine x_getr (p := 79) (k := 146) i_177_25 hs_es2 rfl rfl ?_
          show aW _ _ _ _ _ _ (28, [some (.ref 143), some (.int (zI 59)), some (.int (zI 59))], [.ref 146], es2)
          refine x0 (r := (29, [some (.ref 143), some (.int (zI 59)), some (.int (zI 59))], [.ref 143, .ref 146], es2)) i_177_28 rfl ?_
          refine x_geti (p := 79) i_177_29 hs_es2 rfl rfl ?_
          obtain ⟨v12, e_v12⟩ : ∃ z : Int, z = (gI es2 79 6).toInt := ⟨_, rfl⟩
          rw [← e_v12]
          have r_v12 : iLO ≤ v12 ∧ v12 ≤ iHI := by rw [e_v12]; exact i32_rng _
          unfold iLO iHI at r_v12
          have b_v12 : (0 : Int) ≤ v12 ∧ v12 ≤ (400 : Int) := by rw [e_v12]; exact gI_bd hT_es2 (p := 79) (b := 6) rfl rfl
          refine x_bald (p := 82) i_177_32 hs_es2 rfl (by decide) (by unfold i32 iLO iHI; omega) (by omega) (by omega) ?_
          obtain ⟨v13, e_v13⟩ : ∃ z : Int, z = (gA es2 82 v12.toNat).toInt := ⟨_, rfl⟩
          rw [← e_v13]
          have r_v13 : iLO ≤ v13 ∧ v13 ≤ iHI := by rw [e_v13]; exact i32_rng _
          unfold iLO iHI at r_v13
          have b_v13 : (-128 : Int) ≤ v13 ∧ v13 ≤ (127 : Int) := by rw [e_v13]; exact gA_bd hT_es2 (p := 82) (k := v12.toNat) rfl (by omega) (by decide)
          refine x0 (r := (34, [some (.ref 143), some (.int (zI 59)), some (.int (zI 59))], [.int (zI 59), .int (zI v13)], es2)) i_177_33 rfl ?_
          by_cases c14 : 59 < v13
          · refine x_cmpT i_177_34 (by unfold i32 iLO iHI; omega) (by unfold i32 iLO iHI; omega) rfl (by simp only [zC, cR]; omega) ?_
            refine x0 (r := (42, [some (.ref 143), some (.int (zI 59)), some (.int (zI 59))], [.int (zI 0)], es2)) i_177_41 (by rfl) ?_
            refine x_ret (v := some (.int (zI 0))) i_177_42 rfl (fun _ => rfl) rfl rfl (pFin_b (by omega)) ?_
            show aW _ _ _ _ _ _ (115, [some (.ref 143), some (.int (zI 1)), some (.int (zI ln))], [.int (zI 0)], es2)
            refine x_ifF i_175_115 (by unfold i32 iLO iHI; omega) rfl (by simp only [zC, cR]; omega) ?_
            refine x0 (r := (119, [some (.ref 143), some (.int (zI 1)), some (.int (zI ln))], [.int (zI (-1))], es2)) i_175_118 (by rfl) ?_
            refine x_ret (v := some (.int (zI (-1)))) i_175_119 rfl (fun _ => rfl) rfl rfl rfl ?_
            exact K4 c1 es2 p_es2 v3 e_v3 v4 e_v4 c5 v6 e_v6 v7 e_v7 c8 v9 e_v9 v10 e_v10 c11 v12 e_v12 v13 e_v13 c14
          · refine x_cmpF i_177_34 (by unfold i32 iLO iHI; omega) (by unfold i32 iLO iHI; omega) rfl (by simp only [zC, cR]; omega) ?_
            refine x0 (r := (38, [some (.ref 143), some (.int (zI 59)), some (.int (zI 59))], [.int (zI 1)], es2)) i_177_37 (by rfl) ?_
            refine x0 (r := (42, [some (.ref 143), some (.int (zI 59)), some (.int (zI 59))], [.int (zI 1)], es2)) i_177_38 rfl ?_
            refine x_ret (v := some (.int (zI 1))) i_177_42 rfl (fun _ => rfl) rfl rfl (pFin_b (by omega)) ?_
            show aW _ _ _ _ _ _ (115, [some (.ref 143), some (.int (zI 1)), some (.int (zI ln))], [.int (zI 1)], es2)
            refine x_ifT i_175_115 (by unfold i32 iLO iHI; omega) rfl (by simp only [zC, cR]; omega) ?_
            refine x0 (r := (121, [some (.ref 143), some (.int (zI 1)), some (.int (zI ln))], [.ref 143], es2)) i_175_120 rfl ?_
            refine x0 (r := (122, [some (.ref 143), some (.int (zI 1)), some (.int (zI ln))], [.ref 143, .ref 143], es2)) i_175_121 rfl ?_
            refine x_geti (p := 79) i_175_122 hs_es2 rfl rfl ?_
            obtain ⟨v15, e_v15⟩ : ∃ z : Int, z = (gI es2 79 6).toInt := ⟨_, rfl⟩
            rw [← e_v15]
            have r_v15 : iLO ≤ v15 ∧ v15 ≤ iHI := by rw [e_v15]; exact i32_rng _
            unfold iLO iHI at r_v15
            have b_v15 : (0 : Int) ≤ v15 ∧ v15 ≤ (400 : Int) := by rw [e_v15]; exact gI_bd hT_es2 (p := 79) (b := 6) rfl rfl
            refine x0 (r := (126, [some (.ref 143), some (.int (zI 1)), some (.int (zI ln))], [.int (zI 1), .int (zI v15), .ref 143], es2)) i_175_125 (by rfl) ?_
            refine x_iadd i_175_126 ?_
            refine x_puti (p := 79) (ty := .int) i_175_127 hs_es2 rfl rfl rfl (Or.inl rfl) ?_
            obtain ⟨es16, e_es16⟩ : ∃ z : PH, z = sI es2 79 6 (.int (zI (v15 + 1))) := ⟨_, rfl⟩
            have hs_es16 : sh es16 := by rw [e_es16]; exact sh_sI hs_es2 (p := 79) (b := 6) rfl rfl
            have hT_es16 : hOK tT es16 := by rw [e_es16]; exact hOK_sI hT_es2 (p := 79) (b := 6) rfl rfl (by rw [zI_toInt (by unfold i32 iLO iHI; omega)]; exact ⟨by show (0 : Int) ≤ (v15 + 1); omega, by show (v15 + 1) ≤ (400 : Int); omega⟩)
            rw [← e_es16]
            refine x_iinc (x := ln) i_175_130 rfl (by show 2 < 3; decide) ?_
            show aW _ _ _ _ _ _ (133, [some (.ref 143), some (.int (zI 1)), some (.int (zI (ln + 1)))], [], es16)
            refine x0 (r := (42, [some (.ref 143), some (.int (zI 1)), some (.int (zI (ln + 1)))], [], es16)) i_175_133 rfl ?_
            exact K5 c1 es2 p_es2 v3 e_v3 v4 e_v4 c5 v6 e_v6 v7 e_v7 c8 v9 e_v9 v10 e_v10 c11 v12 e_v12 v13 e_v13 c14 v15 e_v15 es16 e_es16
    · refine x_cmpF i_175_100 (by unfold i32 iLO iHI; omega) (by unfold i32 iLO iHI; omega) rfl (by simp only [zC, cR]; omega) ?_
      refine x0 (r := (104, [some (.ref 143), some (.int (zI 1)), some (.int (zI ln))], [.int (zI ln)], es2)) i_175_103 rfl ?_
      refine x0 (r := (105, [some (.ref 143), some (.int (zI 1)), some (.int (zI ln))], [.int (zI 1), .int (zI ln)], es2)) i_175_104 (by rfl) ?_
      refine x_iadd i_175_105 ?_
      refine x_ret (v := some (.int (zI (ln + 1)))) i_175_106 rfl (fun _ => rfl) rfl rfl rfl ?_
      exact K6 c1 es2 p_es2 v3 e_v3 v4 e_v4 c5
/-! a KIND's LINES as its text tells them -/
def zKlL (c : Nat → Int) (n : Nat) : Nat → Nat → List (Int × Int)
  | 0, _ => []
  | j + 1, q => match zKl c n q with
    | (_, none) => []
    | (b, some x) => x :: (if n ≤ b then [] else if zCod c n b = -1059 then zKlL c n j (zNx c n (zBe c n b)) else [])
def zKtL (c : Nat → Int) (n : Nat) : List (Int × Int) := if n ≤ zNx c n 0 then [] else zKlL c n 6 (zNx c n 0)
theorem zKlL_yes {c : Nat → Int} {n q j b : Nat} {x : Int × Int} (h : zKl c n q = (b, some x)) : zKlL c n (j + 1) q = x :: (if n ≤ b then [] else if zCod c n b = -1059 then zKlL c n j (zNx c n (zBe c n b)) else []) := by
  simp only [zKlL, h]
/-- how far the reference says: leaps and bites 0 -/
def zFar (x : Int × Int) : Int := if x.1 ≤ -15 then 0 else x.2
/-- the reference's row of LINES -/
def lsR (l : List (Int × Int)) (es : PH) : Prop := ∀ (i : Nat) (x : Int × Int), l[i]? = some x → (gA es 84 (2 * i)).toInt = -12 - x.1 ∧ (gA es 84 (2 * i + 1)).toInt = zFar x
def frK : List aMod := [(79, 8, 0, 1), (79, 10, 0, 1), (84, 0, 0, 12)]
def rkG (R : Nat → Int32) (n ln : Nat) (es es' : PH) (v : Int) : Prop := sh es' ∧ hOK tT es' ∧ rR R n es' ∧ fr frK es es' ∧ (v = 0 ∨ v = 1) ∧
  (v = 1 → (zKl (zR R) n (bT es).toNat).2.isSome = true ∧ zNx (zR R) n (pT es').toNat = (zKl (zR R) n (bT es).toNat).1 ∧ (∀ x, (zKl (zR R) n (bT es).toNat).2 = some x → (gA es' 84 (2 * ln)).toInt = -12 - x.1 ∧ (gA es' 84 (2 * ln + 1)).toInt = zFar x) ∧ ∀ k, k < 2 * ln → gA es' 84 k = gA es 84 k) ∧
  (v = 0 → (zKl (zR R) n (bT es).toNat).2 = none ∧ bT es' = ((zKl (zR R) n (bT es).toNat).1 : Nat))
theorem upd_at {f : Nat → Int32} {k : Nat} {x : Int32} : upd f k x k = x := by unfold upd; rw [if_pos rfl]
section
variable {O : pOut} {d kc ks : Nat} {Q : pRes → Prop} {es : PH} {R : Nat → Int32} {n : Nat}
theorem pT_sA {p k : Nat} {x : Int32} : pT (sA es p k x) = pT es := by unfold pT; rw [gI_sA]
theorem bT_sA {p k : Nat} {x : Int32} : bT (sA es p k x) = bT es := by unfold bT; rw [gI_sA]
theorem hOK_k84 (hT : hOK tT es) {k : Nat} {x : Int} (h : -1 ≤ x ∧ x ≤ 5) : hOK tT (sA es 84 k (zI x)) := hOK_sA hT (p := 84) (t := 0) (n := 12) rfl (fun _ => by rw [zI_toInt (by unfold i32 iLO iHI; omega)]; exact ⟨by show (-1 : Int) ≤ x; omega, by show x ≤ (5 : Int); omega⟩)
theorem gA_k84 (hT : hOK tT es) {k : Nat} {x : Int} (h : -1 ≤ x ∧ x ≤ 5) : (gA (sA es 84 k (zI x)) 84 k).toInt = x := by
  rw [gA_sA (sh_of hT) (p := 84) (t := 0) (n := 12) rfl (by decide), upd_at]
  exact zI_toInt (by unfold i32 iLO iHI; omega)
theorem gA_n84 {k j : Nat} {x : Int32} (hT : hOK tT es) (h : j ≠ k) : gA (sA es 84 k x) 84 j = gA es 84 j := by
  rw [gA_sA (sh_of hT) (p := 84) (t := 0) (n := 12) rfl (by decide)]
  unfold upd
  rw [if_neg h]
theorem fr_k84 {k : Nat} {x : Int32} (h : k < 12) : fr frK es (sA es 84 k x) := fr_sA (mIn_of (p := 84) (kd := 0) (lo := 0) (hi := 12) (by decide) (Nat.zero_le _) h)
theorem frB_K {a b : PH} (h : fr frB a b) : fr frK a b := fr_wk (by simp only [frB, frK, mAl, mHq, true_and, and_true, false_and, and_false, or_false, false_or, not_false_eq_true, Nat.reduceEqDiff] <;> (repeat' apply And.intro) <;> intros <;> omega) h
theorem rk_tail {s : Int} {lN : Nat} {ln : Int} (hlN : ln = (lN : Int)) (hn : 0 ≤ ln ∧ ln ≤ 5) (hs : -1 ≤ s ∧ s ≤ 4) (hT : hOK tT es) (hr : rR R n es) (hp : (pT es).toNat = zRn (zR R) n zLe (bT es).toNat) (hc : (s = -1 ∧ ¬ (-16 ≤ zCod (zR R) n (bT es).toNat ∧ zCod (zR R) n (bT es).toNat ≤ -12)) ∨ (0 ≤ s ∧ zCod (zR R) n (bT es).toNat = -12 - s)) (K : ∀ es' v, rkG R n lN es es' v → Q (.inl (some (.int (zI v))), es', kc, ks)) : aW O (d + 3) 179 kc ks Q (66, [some (.ref 143), some (.int (zI ln)), none], [.int (zI s)], es) := by
  have hbb := bT_bd hT
  obtain ⟨hn4, hrng⟩ := rR_rng hT hr
  have word : 0 ≤ s → (bT es).toNat < n ∧ zBe (zR R) n (bT es).toNat = (pT es).toNat := by
    intro h0
    have h1 : zCod (zR R) n (bT es).toNat = -12 - s := by omega
    have h2 := zBe_word (q := (bT es).toNat) hrng (by omega) (by omega)
    exact ⟨h2.1, by rw [h2.2, hp]⟩
  have e1T : hOK tT (sA es 84 (2 * ln).toNat (zI s)) := hOK_k84 hT (by omega)
  refine s_rk66 (d := d) (sh_of hT) hn hs hT hr (fun es1 e1 h1 es3 e3 => ?_) (fun es1 e1 h1 h2 es5 e5 v6 e6 h6 => ?_) (fun es1 e1 h1 h2 es5 e5 v6 e6 h6 => ?_) (fun es1 e1 h1 h2 es8 v9 p9 es10 e10 v11 e11 h11 => ?_) (fun es1 e1 h1 h2 es8 v9 p9 es10 e10 v11 e11 h11 => ?_)
  · have hk : zKl (zR R) n (bT es).toNat = ((bT es).toNat, none) := by
      unfold zKl
      rw [if_neg (by omega)]
    rw [← e1] at e1T
    have e3T : hOK tT es3 := by rw [e3]; exact hOK_k84 e1T (by omega)
    refine K es3 0 ⟨sh_of e3T, e3T, by rw [e3, e1]; exact rR_sA (rR_sA hr (by decide)) (by decide), by rw [e3, e1]; exact fr_trans (fr_k84 (by omega)) (fr_k84 (by omega)), Or.inl rfl, fun h => by omega, fun _ => ?_⟩
    rw [hk]
    refine ⟨rfl, ?_⟩
    show bT es3 = (((bT es).toNat : Nat) : Int)
    rw [e3, e1, bT_sA, bT_sA]
    omega
  · rw [← e1] at e1T
    have h7 := gA_k84 (k := ((2 * ln) + 1).toNat) e1T (x := 0) (by omega)
    rw [← e5, ← e6] at h7
    omega
  · obtain ⟨w1, w2⟩ := word (by omega)
    have hk : zKl (zR R) n (bT es).toNat = (zNx (zR R) n (zBe (zR R) n (bT es).toNat), some (zCod (zR R) n (bT es).toNat, 1)) := by
      unfold zKl
      rw [if_pos (by omega), if_neg (by omega)]
    rw [← e1] at e1T
    have e5T : hOK tT es5 := by rw [e5]; exact hOK_k84 e1T (by omega)
    refine K es5 1 ⟨sh_of e5T, e5T, by rw [e5, e1]; exact rR_sA (rR_sA hr (by decide)) (by decide), by rw [e5, e1]; exact fr_trans (fr_k84 (by omega)) (fr_k84 (by omega)), Or.inr rfl, fun _ => ?_, fun h => by omega⟩
    rw [hk]
    refine ⟨rfl, ?_, fun x hx => ?_, fun k hlt => ?_⟩
    · show zNx (zR R) n (pT es5).toNat = zNx (zR R) n (zBe (zR R) n (bT es).toNat)
      rw [e5, e1, pT_sA, pT_sA, w2]
    · have hx' : (zCod (zR R) n (bT es).toNat, (1 : Int)) = x := Option.some.inj hx
      have h50 := gA_k84 (k := ((2 * ln) + 1).toNat) e1T (x := 0) (by omega)
      have h10 := gA_k84 (k := (2 * ln).toNat) hT (x := s) (by omega)
      rw [← e5] at h50
      rw [← e1] at h10
      rw [← hx']
      refine ⟨?_, ?_⟩
      · show _ = -12 - zCod (zR R) n (bT es).toNat
        rw [e5, gA_n84 e1T (by omega), show 2 * lN = (2 * ln).toNat by omega, h10]
        omega
      · show _ = if zCod (zR R) n (bT es).toNat ≤ -15 then 0 else (1 : Int)
        rw [if_pos (by omega), show 2 * lN + 1 = ((2 * ln) + 1).toNat by omega, h50]
    · rw [e5, gA_n84 e1T (by omega), e1, gA_n84 hT (by omega)]
  · obtain ⟨w1, w2⟩ := word (by omega)
    obtain ⟨q1, q2, q3, q4, q5, q6, q7⟩ := p9
    have hv9 : -1 ≤ v9 ∧ v9 ≤ 5 := by omega
    have h12 := gA_k84 (k := ((2 * ln) + 1).toNat) q2 (x := v9) hv9
    rw [← e10, ← e11] at h12
    rw [show pT es1 = pT es by rw [e1, pT_sA], ← w2] at q5 q6 q7
    have hk : zKl (zR R) n (bT es).toNat = (zNx (zR R) n (zBe (zR R) n (bT es).toNat), none) := by
      unfold zKl
      rw [if_pos (by omega), if_pos (by omega), if_neg (by omega)]
    have e10T : hOK tT es10 := by rw [e10]; exact hOK_k84 q2 hv9
    refine K es10 0 ⟨sh_of e10T, e10T, by rw [e10]; exact rR_sA q3 (by decide), ?_, Or.inl rfl, fun h => by omega, fun _ => ?_⟩
    · rw [e10]
      refine fr_trans ?_ (fr_trans (frB_K q4) (fr_k84 (by omega)))
      rw [e1]; exact fr_k84 (by omega)
    · rw [hk]
      refine ⟨rfl, ?_⟩
      show bT es10 = ((zNx (zR R) n (zBe (zR R) n (bT es).toNat) : Nat) : Int)
      rw [e10, bT_sA]
      exact q5
  · obtain ⟨w1, w2⟩ := word (by omega)
    have e1T' : hOK tT es1 := by rw [e1]; exact e1T
    obtain ⟨q1, q2, q3, q4, q5, q6, q7⟩ := p9
    have hv9 : -1 ≤ v9 ∧ v9 ≤ 5 := by omega
    have h12 := gA_k84 (k := ((2 * ln) + 1).toNat) q2 (x := v9) hv9
    rw [← e10, ← e11] at h12
    rw [show pT es1 = pT es by rw [e1, pT_sA], ← w2] at q5 q6 q7
    have h13 := zCod_val (q := zNx (zR R) n (zBe (zR R) n (bT es).toNat)) hrng (by omega)
    have hk : zKl (zR R) n (bT es).toNat = (zNx (zR R) n (zBe (zR R) n (zNx (zR R) n (zBe (zR R) n (bT es).toNat))), some (zCod (zR R) n (bT es).toNat, zCod (zR R) n (zNx (zR R) n (zBe (zR R) n (bT es).toNat)))) := by
      unfold zKl
      rw [if_pos (by omega), if_pos (by omega), if_pos (by omega)]
    have e10T : hOK tT es10 := by rw [e10]; exact hOK_k84 q2 hv9
    refine K es10 1 ⟨sh_of e10T, e10T, by rw [e10]; exact rR_sA q3 (by decide), ?_, Or.inr rfl, fun _ => ?_, fun h => by omega⟩
    · rw [e10]
      refine fr_trans ?_ (fr_trans (frB_K q4) (fr_k84 (by omega)))
      rw [e1]; exact fr_k84 (by omega)
    · rw [hk]
      have h81 : gA es8 84 = gA es1 84 := by
        funext k
        rw [fr_gA q4 (sh_of e1T') (p := 84) (t := 0) (n := 12) rfl (by decide)]
        unfold mIn
        simp [frB]
      refine ⟨rfl, ?_, fun x hx => ?_, fun k hlt => ?_⟩
      rotate_left
      · have hx' : (zCod (zR R) n (bT es).toNat, zCod (zR R) n (zNx (zR R) n (zBe (zR R) n (bT es).toNat))) = x := Option.some.inj hx
        have h50 := gA_k84 (k := ((2 * ln) + 1).toNat) q2 (x := v9) hv9
        have h10 := gA_k84 (k := (2 * ln).toNat) hT (x := s) (by omega)
        rw [← e10] at h50
        rw [← e1] at h10
        rw [← hx']
        refine ⟨?_, ?_⟩
        · show _ = -12 - zCod (zR R) n (bT es).toNat
          rw [e10, gA_n84 q2 (by omega), h81, show 2 * lN = (2 * ln).toNat by omega, h10]
          omega
        · show _ = if zCod (zR R) n (bT es).toNat ≤ -15 then 0 else zCod (zR R) n (zNx (zR R) n (zBe (zR R) n (bT es).toNat))
          rw [if_neg (by omega), show 2 * lN + 1 = ((2 * ln) + 1).toNat by omega, h50]
          omega
      · rw [e10, gA_n84 q2 (by omega), h81, e1, gA_n84 hT (by omega)]
      show zNx (zR R) n (pT es10).toNat = zNx (zR R) n (zBe (zR R) n (zNx (zR R) n (zBe (zR R) n (bT es).toNat)))
      rw [e10, pT_sA, h13.2.2.2, show (pT es8).toNat = zRn (zR R) n zDi (zNx (zR R) n (zBe (zR R) n (bT es).toNat)) by omega]
theorem rkG_spec {lN : Nat} {ln : Int} (hlN : ln = (lN : Int)) (hs : sh es) (hT : hOK tT es) (hr : rR R n es) (hn : 0 ≤ ln ∧ ln ≤ 5) (hp : (pT es).toNat = zRn (zR R) n zLe (bT es).toNat) (hq : bT es ≤ (n : Int)) (K : ∀ es' v, rkG R n lN es es' v → Q (.inl (some (.int (zI v))), es', kc, ks)) : aW O (d + 3) 179 kc ks Q (0, [some (.ref 143), some (.int (zI ln)), none], [], es) := by
  have hbb := bT_bd hT
  obtain ⟨hn4, hrng⟩ := rR_rng hT hr
  have hw : ∀ {i : Nat} {w : List Nat} {v : Int}, zWds[i]? = some w → iswG w R es v → (v = 0 ∨ v = 1) ∧ (v = 1 ↔ zCod (zR R) n (bT es).toNat = -1 - i) := by
    intro i w v hi hv
    refine ⟨hv.1, ?_⟩
    rw [hv.2, zCod_word hrng hi (by omega), hp]
  refine s_rk0 (d := d + 1) hs hT hr (fun v1 p1 h1 v3 p3 h3 v5 p5 h5 v7 p7 h7 v9 p9 h9 => ?_) (fun v1 p1 h1 v3 p3 h3 v5 p5 h5 v7 p7 h7 v9 p9 h9 => ?_) (fun v1 p1 h1 v3 p3 h3 v5 p5 h5 v7 p7 h7 => ?_) (fun v1 p1 h1 v3 p3 h3 v5 p5 h5 => ?_) (fun v1 p1 h1 v3 p3 h3 => ?_) (fun v1 p1 h1 => ?_)
  · have g1 := hw (i := 11) rfl p1
    have g3 := hw (i := 12) rfl p3
    have g5 := hw (i := 13) rfl p5
    have g7 := hw (i := 14) rfl p7
    have g9 := hw (i := 15) rfl p9
    exact rk_tail hlN hn (by omega) hT hr hp (Or.inl ⟨rfl, by omega⟩) K
  · have g9 := hw (i := 15) rfl p9
    exact rk_tail hlN hn (by omega) hT hr hp (Or.inr ⟨by omega, by omega⟩) K
  · have g7 := hw (i := 14) rfl p7
    exact rk_tail hlN hn (by omega) hT hr hp (Or.inr ⟨by omega, by omega⟩) K
  · have g5 := hw (i := 13) rfl p5
    exact rk_tail hlN hn (by omega) hT hr hp (Or.inr ⟨by omega, by omega⟩) K
  · have g3 := hw (i := 12) rfl p3
    exact rk_tail hlN hn (by omega) hT hr hp (Or.inr ⟨by omega, by omega⟩) K
  · have g1 := hw (i := 11) rfl p1
    exact rk_tail hlN hn (by omega) hT hr hp (Or.inr ⟨by omega, by omega⟩) K
end
def frKA : List aMod := [(79, 8, 0, 1), (79, 10, 0, 1), (84, 0, 0, 12), (79, 9, 0, 1), (79, 7, 0, 1), (79, 14, 0, 1)]
/-- what KIND's reader of the reference says -/
def kaG (R : Nat → Int32) (n : Nat) (es es' : PH) (v : Int) : Prop := hOK tT es' ∧ fr frKA es es' ∧ ((zKt (zR R) n).2 = none → v = -1 ∧ bT es' = ((zKt (zR R) n).1 : Nat)) ∧ (∀ j : Nat, (zKt (zR R) n).2 = some j → v = 6 - (j : Int) ∧ j ≤ 6 ∧ (zKtL (zR R) n).length + j = 6 ∧ lsR (zKtL (zR R) n) es')
theorem zKtF_z {c : Nat → Int} {n q : Nat} : zKtF c n 0 q = (q, none) := rfl
theorem zKtF_no {c : Nat → Int} {n q j b : Nat} (h : zKl c n q = (b, none)) : zKtF c n (j + 1) q = (b, none) := by
  simp only [zKtF, h]
theorem zKtF_yes {c : Nat → Int} {n q j b : Nat} {x : Int × Int} (h : zKl c n q = (b, some x)) : zKtF c n (j + 1) q = if n ≤ b then (b, some j) else if zCod c n b = -1059 then zKtF c n j (zNx c n (zBe c n b)) else (b, none) := by
  simp only [zKtF, h]
theorem zKl_no {c : Nat → Int} {n q : Nat} (h : (zKl c n q).2 = none) : zKl c n q = ((zKl c n q).1, none) := by
  rw [← h]
theorem zKl_yes {c : Nat → Int} {n q : Nat} (h : (zKl c n q).2.isSome = true) : ∃ x, zKl c n q = ((zKl c n q).1, some x) := by
  obtain ⟨x, hx⟩ := Option.isSome_iff_exists.mp h
  exact ⟨x, by rw [← hx]⟩
theorem frB_A {a b : PH} (h : fr frB a b) : fr frKA a b := fr_wk (by simp only [frB, frKA, mAl, mHq, true_and, and_true, false_and, and_false, or_false, false_or, not_false_eq_true, Nat.reduceEqDiff] <;> (repeat' apply And.intro) <;> intros <;> omega) h
theorem frK_A {a b : PH} (h : fr frK a b) : fr frKA a b := fr_wk (by simp only [frK, frKA, mAl, mHq, true_and, and_true, false_and, and_false, or_false, false_or, not_false_eq_true, Nat.reduceEqDiff] <;> (repeat' apply And.intro) <;> intros <;> omega) h
section
variable {O : pOut} {d kc ks : Nat} {Q : pRes → Prop} {es : PH} {R : Nat → Int32} {n : Nat}
theorem ka_loop (K : ∀ es' v, kaG R n es es' v → Q (.inl (some (.int (zI v))), es', kc, ks)) : ∀ (N : Nat) (es1 : PH) (ln : Int) (acc : List (Int × Int)), (acc.length : Int) = ln → lsR acc es1 → acc ++ zKlL (zR R) n N (zNx (zR R) n (pT es1).toNat) = zKtL (zR R) n → ln + (N : Int) = 6 → 0 ≤ ln → hOK tT es1 → rR R n es1 → fr frKA es es1 → zKtF (zR R) n N (zNx (zR R) n (pT es1).toNat) = zKt (zR R) n → aW O (d + 4) 175 kc ks Q (42, [some (.ref 143), some (.int (zI 1)), some (.int (zI ln))], [], es1) := by
  intro N
  induction N with
  | zero =>
    intro es1 ln acc hla hls hap hl h0 hT hr hf hx
    refine s_kal42 (d := d + 1) (sh_of hT) ⟨h0, by omega⟩ hT hr (fun es2 p2 h2 => absurd (show ln = 6 by omega) h2) (fun es2 p2 h2 => ?_)
    obtain ⟨q1, q2, q3, q4, q5, q6⟩ := p2
    rw [zKtF_z] at hx
    refine K es2 (-1) ⟨q2, fr_trans hf (frB_A q4), fun _ => ⟨rfl, ?_⟩, fun j hj => ?_⟩
    · rw [← hx]; exact q5
    · rw [← hx] at hj; cases hj
  | succ N ih =>
    intro es1 ln acc hla hls hap hl h0 hT hr hf hx
    have hpb := pT_bd hT
    have hr2 := hr.2.2
    obtain ⟨hn4, hrng⟩ := rR_rng hT hr
    refine s_kal42 (d := d + 1) (sh_of hT) ⟨h0, by omega⟩ hT hr (fun es2 p2 h2 => ?_) (fun es2 p2 h2 => absurd (show ln ≠ 6 by omega) h2)
    obtain ⟨q1, q2, q3, q4, q5, q6⟩ := p2
    have hle : zNx (zR R) n (pT es1).toNat ≤ n := zNx_le (by omega)
    have hq : (bT es2).toNat = zNx (zR R) n (pT es1).toNat := by omega
    refine x_call (vs := [.ref 143, .int (zI ln)]) (rs := []) i_175_69 rfl (fun _ => rfl) rfl rfl rfl rfl rfl (pCall_v (p := 79) q1 rfl rfl rfl rfl rfl (by decide) rfl rfl rfl rfl rfl) ?_
    show aW _ _ _ _ _ _ (0, [some (.ref 143), some (.int (zI ln)), none], [], es2)
    refine rkG_spec (lN := acc.length) hla.symm (d := d) q1 q2 q3 ⟨h0, by omega⟩ (by rw [hq]; omega) (by omega) (fun es3 v p3 => ?_)
    show aW _ _ _ _ _ _ (72, [some (.ref 143), some (.int (zI 1)), some (.int (zI ln))], [.int (zI v)], es3)
    obtain ⟨w1, w2, w3, w4, w5, w6, w7⟩ := p3
    rw [hq] at w6 w7
    have hf3 : fr frKA es es3 := fr_trans hf (fr_trans (frB_A q4) (frK_A w4))
    have hpb3 := pT_bd w2
    have hr3 := w3.2.2
    -- the token behind the line
    have h42 : gA es2 84 = gA es1 84 := by
      funext k
      rw [fr_gA q4 (sh_of hT) (p := 84) (t := 0) (n := 12) rfl (by decide)]
      unfold mIn
      simp [frB]
    have got : ¬ v = 0 → ∀ es4, blG R n es3 es4 → ∃ x, zKl (zR R) n (zNx (zR R) n (pT es1).toNat) = ((zKl (zR R) n (zNx (zR R) n (pT es1).toNat)).1, some x) ∧ lsR (acc ++ [x]) es4 := by
      intro hv es4 p4
      obtain ⟨g1, g2, g3, g4⟩ := w6 (by omega)
      obtain ⟨x, hk⟩ := zKl_yes g1
      have h43 : gA es4 84 = gA es3 84 := by
        funext k
        rw [fr_gA p4.2.2.2.1 w1 (p := 84) (t := 0) (n := 12) rfl (by decide)]
        unfold mIn
        simp [frB]
      refine ⟨x, hk, fun i y hy => ?_⟩
      rw [h43]
      by_cases hi : i < acc.length
      · rw [List.getElem?_append_left hi] at hy
        rw [g4 (2 * i) (by omega), g4 (2 * i + 1) (by omega), h42]
        exact hls i y hy
      · rw [List.getElem?_append_right (by omega)] at hy
        have hi0 : i - acc.length = 0 := by
          cases hz : i - acc.length with
          | zero => rfl
          | succ z => rw [hz] at hy; cases hy
        rw [hi0] at hy
        have hxy : x = y := Option.some.inj hy
        rw [show i = acc.length by omega, ← hxy]
        exact g3 x (by rw [hk])
    have nxt : ¬ v = 0 → ∀ es4, blG R n es3 es4 → hOK tT es4 ∧ rR R n es4 ∧ fr frKA es es4 ∧ bT es4 = pT es4 ∧ pT es4 = ((zKl (zR R) n (zNx (zR R) n (pT es1).toNat)).1 : Nat) ∧ zKt (zR R) n = (if n ≤ (pT es4).toNat then ((pT es4).toNat, some N) else if zCod (zR R) n (pT es4).toNat = -1059 then zKtF (zR R) n N (zNx (zR R) n (zBe (zR R) n (pT es4).toNat)) else ((pT es4).toNat, none)) := by
      intro hv es4 p4
      obtain ⟨r1, r2, r3, r4, r5, r6⟩ := p4
      obtain ⟨g1, g2, g3, g4⟩ := w6 (by omega)
      obtain ⟨x, hk⟩ := zKl_yes g1
      have hp4 : pT es4 = ((zKl (zR R) n (zNx (zR R) n (pT es1).toNat)).1 : Nat) := by rw [r5, g2]
      refine ⟨r2, r3, fr_trans hf3 (frB_A r4), r6, hp4, ?_⟩
      rw [← hx, zKtF_yes hk, show (pT es4).toNat = (zKl (zR R) n (zNx (zR R) n (pT es1).toNat)).1 by omega]
    have bad : ∀ es4, blG R n es3 es4 → ¬ v = 0 → pT es4 < (n : Int) → ¬ zR R (pT es4).toNat = 59 → Q (.inl (some (.int (zI (-1)))), es4, kc, ks) := by
      intro es4 p4 hv h5 h6
      obtain ⟨a1, a2, a3, a4, a5, a6⟩ := nxt hv es4 p4
      have hpb4 := pT_bd a1
      have hns : ¬ zCod (zR R) n (pT es4).toNat = -1059 := fun h7 => h6 ((zCod_sign (x := 59) hrng (Or.inr (by omega))).mp h7).2
      rw [if_neg (by omega), if_neg hns] at a6
      refine K es4 (-1) ⟨a1, a3, fun _ => ⟨rfl, ?_⟩, fun j hj => ?_⟩
      · rw [a6, a4]
        show pT es4 = (((pT es4).toNat : Nat) : Int)
        omega
      · rw [a6] at hj; cases hj
    refine s_kal72 (d := d + 2) w1 ⟨h0, by omega⟩ w5 w2 w3 (fun hv => ?_) (fun hv es4 p4 v5 e5 v6 e6 h6 v7 e7 v8 e8 h8 => ?_) (fun hv es4 p4 v5 e5 v6 e6 h6 v7 e7 v8 e8 h8 v9 e9 v10 e10 h10 => ?_) (fun hv es4 p4 v5 e5 v6 e6 h6 v7 e7 v8 e8 h8 v9 e9 v10 e10 h10 v11 e11 v12 e12 h12 => ?_) (fun hv es4 p4 v5 e5 v6 e6 h6 v7 e7 v8 e8 h8 v9 e9 v10 e10 h10 v11 e11 v12 e12 h12 v15 e15 es16 e16 => ?_) (fun hv es4 p4 v5 e5 v6 e6 h6 => ?_)
    · obtain ⟨g1, g2⟩ := w7 hv
      have hk := zKtF_no (j := N) (zKl_no g1)
      rw [hx] at hk
      refine K es3 (-1) ⟨w2, hf3, fun _ => ⟨rfl, ?_⟩, fun j hj => ?_⟩
      · rw [hk]; exact g2
      · rw [hk] at hj; cases hj
    · obtain ⟨a1, a2, a3, a4, a5, a6⟩ := nxt hv es4 p4
      have b1 := a2.2.1
      have b2 := a2.2.2
      have hpd : pT es4 = (gI es4 79 6).toInt := rfl
      omega
    · obtain ⟨a1, a2, a3, a4, a5, a6⟩ := nxt hv es4 p4
      have b1 := a2.2.1
      have hpd : pT es4 = (gI es4 79 6).toInt := rfl
      have c1 := rR_ch a2 e9
      exact bad es4 p4 hv (by omega) (by omega)
    · obtain ⟨a1, a2, a3, a4, a5, a6⟩ := nxt hv es4 p4
      have b1 := a2.2.1
      have hpd : pT es4 = (gI es4 79 6).toInt := rfl
      have c1 := rR_ch a2 e11
      exact bad es4 p4 hv (by omega) (by omega)
    · obtain ⟨a1, a2, a3, a4, a5, a6⟩ := nxt hv es4 p4
      have b1 := a2.2.1
      have b2 := a2.2.2
      have hpb4 := pT_bd a1
      have hpd : pT es4 = (gI es4 79 6).toInt := rfl
      have c1 := rR_ch a2 e9
      have c2 := rR_ch a2 e11
      have hlt : (pT es4).toNat < n := by omega
      have hsc : zCod (zR R) n (pT es4).toNat = -1059 := (zCod_sign (x := 59) hrng (Or.inr (by omega))).mpr ⟨hlt, by omega⟩
      have hbe := zBe_sign (q := (pT es4).toNat) hrng (by omega) (by omega)
      rw [if_neg (by omega), if_pos hsc, hbe.2] at a6
      obtain ⟨u1, u2, u3, u4, u5⟩ := rR_up (es' := es16) a1 a2 (by omega) (by rw [e16, e15])
      obtain ⟨x, hkx, hlx⟩ := got hv es4 p4
      have hls16 : lsR (acc ++ [x]) es16 := by
        intro i y hy
        rw [e16, gA_sI]
        exact hlx i y hy
      have hpe : (zKl (zR R) n (zNx (zR R) n (pT es1).toNat)).1 = (pT es4).toNat := by omega
      rw [zKlL_yes hkx, hpe, if_neg (by omega), if_pos hsc, hbe.2] at hap
      refine ih es16 (ln + 1) (acc ++ [x]) (by rw [List.length_append]; show ((acc.length + 1 : Nat) : Int) = ln + 1; omega) hls16 (by rw [show (pT es16).toNat = (pT es4).toNat + 1 by omega, List.append_assoc]; exact hap) (by omega) (by omega) u1 u2 (fr_trans a3 (frB_A u3)) ?_
      rw [a6, show (pT es16).toNat = (pT es4).toNat + 1 by omega]
    · obtain ⟨a1, a2, a3, a4, a5, a6⟩ := nxt hv es4 p4
      have b1 := a2.2.1
      have hpd : pT es4 = (gI es4 79 6).toInt := rfl
      rw [if_pos (by omega)] at a6
      refine K es4 (ln + 1) ⟨a1, a3, fun hj => ?_, fun j hj => ?_⟩
      · rw [a6] at hj; cases hj
      · rw [a6] at hj
        cases hj
        obtain ⟨x, hkx, hlx⟩ := got hv es4 p4
        have hpe : (zKl (zR R) n (zNx (zR R) n (pT es1).toNat)).1 = (pT es4).toNat := by omega
        rw [zKlL_yes hkx, hpe, if_pos (by omega)] at hap
        refine ⟨by omega, by omega, ?_, by rw [← hap]; exact hlx⟩
        rw [← hap, List.length_append]
        show acc.length + 1 + N = 6
        omega
theorem kaG_spec (hs : sh es) (hT : hOK tT es) (hR : gA es 82 = R) (hn : (gI es 79 5).toInt = (n : Int)) (K : ∀ es' v, kaG R n es es' v → Q (.inl (some (.int (zI v))), es', kc, ks)) : aW O (d + 4) 175 kc ks Q (0, [some (.ref 143), some (.int (zI 1)), none], [], es) := by
  have hb5 : (0 : Int) ≤ (gI es 79 5).toInt ∧ (gI es 79 5).toInt ≤ (400 : Int) := gI_bd hT (p := 79) (b := 5) rfl rfl
  have z0 : (zI 0).toInt = 0 := rfl
  refine s_kal0 hs hT (fun v1 e1 es2 e2 es3 e3 es4 e4 es5 e5 => ?_)
  have hz1 : (zI v1).toInt = v1 := zI_toInt (by unfold i32 iLO iHI; omega)
  have hT2 : hOK tT es2 := by rw [e2]; exact hOK_sI hT (p := 79) (b := 7) rfl rfl (by rw [hz1, e1]; exact hb5)
  have hT3 : hOK tT es3 := by rw [e3]; exact hOK_sI hT2 (p := 79) (b := 5) rfl rfl (by rw [z0]; exact ⟨by show (0 : Int) ≤ 0; omega, by show (0 : Int) ≤ 400; omega⟩)
  have hT4 : hOK tT es4 := by rw [e4]; exact hOK_sI hT3 (p := 79) (b := 6) rfl rfl (by rw [z0]; exact ⟨by show (0 : Int) ≤ 0; omega, by show (0 : Int) ≤ 400; omega⟩)
  have hT5 : hOK tT es5 := by rw [e5]; exact hOK_sI hT4 (p := 79) (b := 12) rfl rfl (by rw [z0]; exact ⟨by show (0 : Int) ≤ 0; omega, by show (0 : Int) ≤ 400; omega⟩)
  have hp5 : pT es5 = 0 := by
    unfold pT
    rw [e5, gI_sI_ne (Or.inr (by decide)), e4, gI_sI (sh_of hT3) (p := 79) (b := 6) rfl (by decide)]
    exact z0
  have hr5 : rR R n es5 := by
    refine ⟨by rw [e5, e4, e3, e2, gA_sI, gA_sI, gA_sI, gA_sI]; exact hR, ?_, by omega⟩
    rw [e5, gI_sI_ne (Or.inr (by decide)), e4, gI_sI_ne (Or.inr (by decide)), e3, gI_sI_ne (Or.inr (by decide)), e2, gI_sI hs (p := 79) (b := 7) rfl (by decide), hz1, e1]
    exact hn
  have hf5 : fr frKA es es5 := by
    refine fr_trans (b := es2) (by rw [e2]; exact fr_sI rfl) (fr_trans (b := es3) (by rw [e3]; exact fr_sI rfl) (fr_trans (b := es4) (by rw [e4]; exact fr_sI rfl) (by rw [e5]; exact fr_sI rfl)))
  refine x_call (vs := [.ref 143]) (rs := []) i_175_24 rfl (fun _ => rfl) rfl rfl rfl rfl rfl (pCall_v (p := 79) (sh_of hT5) rfl rfl rfl rfl rfl (by decide) rfl rfl rfl rfl rfl) ?_
  show aW _ _ _ _ _ _ (0, [some (.ref 143)], [], es5)
  refine blG_spec (d := d + 2) (sh_of hT5) hT5 hr5 (fun es6 p6 => ?_)
  show aW _ _ _ _ _ _ (27, [some (.ref 143), some (.int (zI 1)), none], [], es6)
  obtain ⟨q1, q2, q3, q4, q5, q6⟩ := p6
  rw [hp5] at q5
  have q5' : pT es6 = (zNx (zR R) n 0 : Nat) := q5
  have hle : zNx (zR R) n 0 ≤ n := zNx_le (Nat.zero_le n)
  have b1 := q3.2.1
  have hpd : pT es6 = (gI es6 79 6).toInt := rfl
  refine s_kal27 q1 q2 (fun v1 e1 v2 e2 h1 => ?_) (fun v1 e1 v2 e2 h1 => ?_)
  · refine ka_loop K 6 es6 0 [] rfl (fun i y hy => by cases hy) (by rw [show (pT es6).toNat = zNx (zR R) n 0 by omega, zNx_nx]; unfold zKtL; rw [if_neg (by omega)]; rfl) (by omega) (by omega) q2 q3 (fr_trans hf5 (frB_A q4)) ?_
    rw [show (pT es6).toNat = zNx (zR R) n 0 by omega, zNx_nx]
    unfold zKt
    rw [if_neg (by omega)]
  · have hk : zKt (zR R) n = (zNx (zR R) n 0, some 6) := by
      unfold zKt
      rw [if_pos (by omega)]
    refine K es6 0 ⟨q2, fr_trans hf5 (frB_A q4), fun hj => ?_, fun j hj => ?_⟩
    · rw [hk] at hj; cases hj
    · rw [hk] at hj
      cases hj
      have hl : zKtL (zR R) n = [] := by
        unfold zKtL
        rw [if_pos (by omega)]
      rw [hl]
      exact ⟨by omega, by omega, rfl, fun i y hy => by cases hy⟩
end
section
variable {O : pOut} {d : Nat} {es : PH} {R : Nat → Int32} {n : Nat}
theorem ka_fn (hs : sh es) (hT : hOK tT es) (hR : gA es 82 = R) (hn : (gI es 79 5).toInt = (n : Int)) : aW O (d + 4) 175 0 0 (fun o => ∃ v, o.1 = .inl (some (.int (zI v))) ∧ kaG R n es o.2.1 v) (0, [some (.ref 143), some (.int (zI 1)), none], [], es) := kaG_spec (d := d) hs hT hR hn (fun es' v h => ⟨v, rfl, h⟩)
end
