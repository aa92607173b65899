/-! FEED of both sides, by hand; printed by wip/rel/feed.py -/
theorem i_11_0 : iRow 11 0 = some (.aload_n 0, 0, 0, 0, (some (Jvm.ClassFile.FieldType.int))) := rfl
theorem i_11_1 : iRow 11 1 = some (.getfield 12, 137, 11, 0, (some (Jvm.ClassFile.FieldType.int))) := rfl
theorem i_11_4 : iRow 11 4 = some (.bipush 20, 0, 0, 0, (some (Jvm.ClassFile.FieldType.int))) := rfl
theorem i_11_6 : iRow 11 6 = some (.invokevirtual 67, 20, 12, 1, (some (Jvm.ClassFile.FieldType.int))) := rfl
theorem i_11_9 : iRow 11 9 = some (.ifCond .ne 5, 0, 0, 0, (some (Jvm.ClassFile.FieldType.int))) := rfl
theorem i_11_12 : iRow 11 12 = some (.iconst (-1), 0, 0, 0, (some (Jvm.ClassFile.FieldType.int))) := rfl
theorem i_11_13 : iRow 11 13 = some (.ireturn, 0, 0, 0, (some (Jvm.ClassFile.FieldType.int))) := rfl
theorem i_11_14 : iRow 11 14 = some (.aload_n 0, 0, 0, 0, (some (Jvm.ClassFile.FieldType.int))) := rfl
theorem i_11_15 : iRow 11 15 = some (.getfield 12, 137, 11, 0, (some (Jvm.ClassFile.FieldType.int))) := rfl
theorem i_11_18 : iRow 11 18 = some (.iload_n 1, 0, 0, 0, (some (Jvm.ClassFile.FieldType.int))) := rfl
theorem i_11_19 : iRow 11 19 = some (.invokevirtual 71, 21, 13, 1, (some (Jvm.ClassFile.FieldType.int))) := rfl
theorem i_11_22 : iRow 11 22 = some (.aload_n 0, 0, 0, 0, (some (Jvm.ClassFile.FieldType.int))) := rfl
theorem i_11_23 : iRow 11 23 = some (.getfield 12, 137, 11, 0, (some (Jvm.ClassFile.FieldType.int))) := rfl
theorem i_11_26 : iRow 11 26 = some (.iload_n 2, 0, 0, 0, (some (Jvm.ClassFile.FieldType.int))) := rfl
theorem i_11_27 : iRow 11 27 = some (.invokevirtual 71, 21, 13, 1, (some (Jvm.ClassFile.FieldType.int))) := rfl
theorem i_11_30 : iRow 11 30 = some (.aload_n 0, 0, 0, 0, (some (Jvm.ClassFile.FieldType.int))) := rfl
theorem i_11_31 : iRow 11 31 = some (.getfield 12, 137, 11, 0, (some (Jvm.ClassFile.FieldType.int))) := rfl
theorem i_11_34 : iRow 11 34 = some (.iload_n 3, 0, 0, 0, (some (Jvm.ClassFile.FieldType.int))) := rfl
theorem i_11_35 : iRow 11 35 = some (.invokevirtual 71, 21, 13, 1, (some (Jvm.ClassFile.FieldType.int))) := rfl
theorem i_11_38 : iRow 11 38 = some (.aload_n 0, 0, 0, 0, (some (Jvm.ClassFile.FieldType.int))) := rfl
theorem i_11_39 : iRow 11 39 = some (.getfield 12, 137, 11, 0, (some (Jvm.ClassFile.FieldType.int))) := rfl
theorem i_11_42 : iRow 11 42 = some (.iload 4, 0, 0, 0, (some (Jvm.ClassFile.FieldType.int))) := rfl
theorem i_11_44 : iRow 11 44 = some (.invokevirtual 71, 21, 13, 1, (some (Jvm.ClassFile.FieldType.int))) := rfl
theorem i_11_47 : iRow 11 47 = some (.aload_n 0, 0, 0, 0, (some (Jvm.ClassFile.FieldType.int))) := rfl
theorem i_11_48 : iRow 11 48 = some (.getfield 12, 137, 11, 0, (some (Jvm.ClassFile.FieldType.int))) := rfl
theorem i_11_51 : iRow 11 51 = some (.iload 5, 0, 0, 0, (some (Jvm.ClassFile.FieldType.int))) := rfl
theorem i_11_53 : iRow 11 53 = some (.invokevirtual 71, 21, 13, 1, (some (Jvm.ClassFile.FieldType.int))) := rfl
theorem i_11_56 : iRow 11 56 = some (.aload_n 0, 0, 0, 0, (some (Jvm.ClassFile.FieldType.int))) := rfl
theorem i_11_57 : iRow 11 57 = some (.getfield 12, 137, 11, 0, (some (Jvm.ClassFile.FieldType.int))) := rfl
theorem i_11_60 : iRow 11 60 = some (.getfield 75, 3, 8, 1, (some (Jvm.ClassFile.FieldType.int))) := rfl
theorem i_11_63 : iRow 11 63 = some (.ireturn, 0, 0, 0, (some (Jvm.ClassFile.FieldType.int))) := rfl
theorem i_12_0 : iRow 12 0 = some (.aload_n 0, 0, 0, 0, (some (Jvm.ClassFile.FieldType.boolean))) := rfl
theorem i_12_1 : iRow 12 1 = some (.getfield 15, 2, 8, 1, (some (Jvm.ClassFile.FieldType.boolean))) := rfl
theorem i_12_4 : iRow 12 4 = some (.iload_n 1, 0, 0, 0, (some (Jvm.ClassFile.FieldType.boolean))) := rfl
theorem i_12_5 : iRow 12 5 = some (.iadd, 0, 0, 0, (some (Jvm.ClassFile.FieldType.boolean))) := rfl
theorem i_12_6 : iRow 12 6 = some (.sipush 400, 0, 0, 0, (some (Jvm.ClassFile.FieldType.boolean))) := rfl
theorem i_12_9 : iRow 12 9 = some (.if_icmp .gt 7, 0, 0, 0, (some (Jvm.ClassFile.FieldType.boolean))) := rfl
theorem i_12_12 : iRow 12 12 = some (.iconst 1, 0, 0, 0, (some (Jvm.ClassFile.FieldType.boolean))) := rfl
theorem i_12_13 : iRow 12 13 = some (.goto 4, 0, 0, 0, (some (Jvm.ClassFile.FieldType.boolean))) := rfl
theorem i_12_16 : iRow 12 16 = some (.iconst 0, 0, 0, 0, (some (Jvm.ClassFile.FieldType.boolean))) := rfl
theorem i_12_17 : iRow 12 17 = some (.ireturn, 0, 0, 0, (some (Jvm.ClassFile.FieldType.boolean))) := rfl
theorem i_13_0 : iRow 13 0 = some (.bipush 24, 0, 0, 0, none) := rfl
theorem i_13_2 : iRow 13 2 = some (.istore_n 2, 0, 0, 0, none) := rfl
theorem i_13_3 : iRow 13 3 = some (.iload_n 2, 0, 0, 0, none) := rfl
theorem i_13_4 : iRow 13 4 = some (.ifCond .lt 37, 0, 0, 0, none) := rfl
theorem i_13_7 : iRow 13 7 = some (.aload_n 0, 0, 0, 0, none) := rfl
theorem i_13_8 : iRow 13 8 = some (.getfield 9, 0, 8, 0, none) := rfl
theorem i_13_11 : iRow 13 11 = some (.aload_n 0, 0, 0, 0, none) := rfl
theorem i_13_12 : iRow 13 12 = some (.getfield 15, 2, 8, 1, none) := rfl
theorem i_13_15 : iRow 13 15 = some (.iload_n 1, 0, 0, 0, none) := rfl
theorem i_13_16 : iRow 13 16 = some (.iload_n 2, 0, 0, 0, none) := rfl
theorem i_13_17 : iRow 13 17 = some (.iushr, 0, 0, 0, none) := rfl
theorem i_13_18 : iRow 13 18 = some (.sipush 255, 0, 0, 0, none) := rfl
theorem i_13_21 : iRow 13 21 = some (.iand, 0, 0, 0, none) := rfl
theorem i_13_22 : iRow 13 22 = some (.invokestatic 19, 5, 14, 3, none) := rfl
theorem i_13_25 : iRow 13 25 = some (.aload_n 0, 0, 0, 0, none) := rfl
theorem i_13_26 : iRow 13 26 = some (.dup, 0, 0, 0, none) := rfl
theorem i_13_27 : iRow 13 27 = some (.getfield 15, 2, 8, 1, none) := rfl
theorem i_13_30 : iRow 13 30 = some (.iconst 1, 0, 0, 0, none) := rfl
theorem i_13_31 : iRow 13 31 = some (.iadd, 0, 0, 0, none) := rfl
theorem i_13_32 : iRow 13 32 = some (.putfield 15, 2, 8, 1, none) := rfl
theorem i_13_35 : iRow 13 35 = some (.iinc 2 (-8), 0, 0, 0, none) := rfl
theorem i_13_38 : iRow 13 38 = some (.goto (-35), 0, 0, 0, none) := rfl
theorem i_13_41 : iRow 13 41 = some (.return_, 0, 0, 0, none) := rfl
theorem i_171_0 : iRow 171 0 = some (.aload_n 0, 0, 0, 0, (some (Jvm.ClassFile.FieldType.int))) := rfl
theorem i_171_1 : iRow 171 1 = some (.iconst 0, 0, 0, 0, (some (Jvm.ClassFile.FieldType.int))) := rfl
theorem i_171_2 : iRow 171 2 = some (.putfield 3, 164, 12, 0, (some (Jvm.ClassFile.FieldType.int))) := rfl
theorem i_171_5 : iRow 171 5 = some (.aload_n 0, 0, 0, 0, (some (Jvm.ClassFile.FieldType.int))) := rfl
theorem i_171_6 : iRow 171 6 = some (.getfield 118, 169, 12, 5, (some (Jvm.ClassFile.FieldType.int))) := rfl
theorem i_171_9 : iRow 171 9 = some (.bipush 20, 0, 0, 0, (some (Jvm.ClassFile.FieldType.int))) := rfl
theorem i_171_11 : iRow 171 11 = some (.iadd, 0, 0, 0, (some (Jvm.ClassFile.FieldType.int))) := rfl
theorem i_171_12 : iRow 171 12 = some (.sipush 400, 0, 0, 0, (some (Jvm.ClassFile.FieldType.int))) := rfl
theorem i_171_15 : iRow 171 15 = some (.if_icmp .le 5, 0, 0, 0, (some (Jvm.ClassFile.FieldType.int))) := rfl
theorem i_171_18 : iRow 171 18 = some (.iconst (-1), 0, 0, 0, (some (Jvm.ClassFile.FieldType.int))) := rfl
theorem i_171_19 : iRow 171 19 = some (.ireturn, 0, 0, 0, (some (Jvm.ClassFile.FieldType.int))) := rfl
theorem i_171_20 : iRow 171 20 = some (.aload_n 0, 0, 0, 0, (some (Jvm.ClassFile.FieldType.int))) := rfl
theorem i_171_21 : iRow 171 21 = some (.getfield 27, 175, 12, 11, (some (Jvm.ClassFile.FieldType.int))) := rfl
theorem i_171_24 : iRow 171 24 = some (.iconst 0, 0, 0, 0, (some (Jvm.ClassFile.FieldType.int))) := rfl
theorem i_171_25 : iRow 171 25 = some (.iload_n 1, 0, 0, 0, (some (Jvm.ClassFile.FieldType.int))) := rfl
theorem i_171_26 : iRow 171 26 = some (.iastore, 0, 0, 0, (some (Jvm.ClassFile.FieldType.int))) := rfl
theorem i_171_27 : iRow 171 27 = some (.aload_n 0, 0, 0, 0, (some (Jvm.ClassFile.FieldType.int))) := rfl
theorem i_171_28 : iRow 171 28 = some (.getfield 27, 175, 12, 11, (some (Jvm.ClassFile.FieldType.int))) := rfl
theorem i_171_31 : iRow 171 31 = some (.iconst 1, 0, 0, 0, (some (Jvm.ClassFile.FieldType.int))) := rfl
theorem i_171_32 : iRow 171 32 = some (.iload_n 2, 0, 0, 0, (some (Jvm.ClassFile.FieldType.int))) := rfl
theorem i_171_33 : iRow 171 33 = some (.iastore, 0, 0, 0, (some (Jvm.ClassFile.FieldType.int))) := rfl
theorem i_171_34 : iRow 171 34 = some (.aload_n 0, 0, 0, 0, (some (Jvm.ClassFile.FieldType.int))) := rfl
theorem i_171_35 : iRow 171 35 = some (.getfield 27, 175, 12, 11, (some (Jvm.ClassFile.FieldType.int))) := rfl
theorem i_171_38 : iRow 171 38 = some (.iconst 2, 0, 0, 0, (some (Jvm.ClassFile.FieldType.int))) := rfl
theorem i_171_39 : iRow 171 39 = some (.iload_n 3, 0, 0, 0, (some (Jvm.ClassFile.FieldType.int))) := rfl
theorem i_171_40 : iRow 171 40 = some (.iastore, 0, 0, 0, (some (Jvm.ClassFile.FieldType.int))) := rfl
theorem i_171_41 : iRow 171 41 = some (.aload_n 0, 0, 0, 0, (some (Jvm.ClassFile.FieldType.int))) := rfl
theorem i_171_42 : iRow 171 42 = some (.getfield 27, 175, 12, 11, (some (Jvm.ClassFile.FieldType.int))) := rfl
theorem i_171_45 : iRow 171 45 = some (.iconst 3, 0, 0, 0, (some (Jvm.ClassFile.FieldType.int))) := rfl
theorem i_171_46 : iRow 171 46 = some (.iload 4, 0, 0, 0, (some (Jvm.ClassFile.FieldType.int))) := rfl
theorem i_171_48 : iRow 171 48 = some (.iastore, 0, 0, 0, (some (Jvm.ClassFile.FieldType.int))) := rfl
theorem i_171_49 : iRow 171 49 = some (.aload_n 0, 0, 0, 0, (some (Jvm.ClassFile.FieldType.int))) := rfl
theorem i_171_50 : iRow 171 50 = some (.getfield 27, 175, 12, 11, (some (Jvm.ClassFile.FieldType.int))) := rfl
theorem i_171_53 : iRow 171 53 = some (.iconst 4, 0, 0, 0, (some (Jvm.ClassFile.FieldType.int))) := rfl
theorem i_171_54 : iRow 171 54 = some (.iload 5, 0, 0, 0, (some (Jvm.ClassFile.FieldType.int))) := rfl
theorem i_171_56 : iRow 171 56 = some (.iastore, 0, 0, 0, (some (Jvm.ClassFile.FieldType.int))) := rfl
theorem i_171_57 : iRow 171 57 = some (.iconst 0, 0, 0, 0, (some (Jvm.ClassFile.FieldType.int))) := rfl
theorem i_171_58 : iRow 171 58 = some (.istore 6, 0, 0, 0, (some (Jvm.ClassFile.FieldType.int))) := rfl
theorem i_171_60 : iRow 171 60 = some (.iload 6, 0, 0, 0, (some (Jvm.ClassFile.FieldType.int))) := rfl
theorem i_171_62 : iRow 171 62 = some (.bipush 20, 0, 0, 0, (some (Jvm.ClassFile.FieldType.int))) := rfl
theorem i_171_64 : iRow 171 64 = some (.if_icmp .ge 42, 0, 0, 0, (some (Jvm.ClassFile.FieldType.int))) := rfl
theorem i_171_67 : iRow 171 67 = some (.aload_n 0, 0, 0, 0, (some (Jvm.ClassFile.FieldType.int))) := rfl
theorem i_171_68 : iRow 171 68 = some (.getfield 20, 168, 12, 4, (some (Jvm.ClassFile.FieldType.int))) := rfl
theorem i_171_71 : iRow 171 71 = some (.aload_n 0, 0, 0, 0, (some (Jvm.ClassFile.FieldType.int))) := rfl
theorem i_171_72 : iRow 171 72 = some (.getfield 118, 169, 12, 5, (some (Jvm.ClassFile.FieldType.int))) := rfl
theorem i_171_75 : iRow 171 75 = some (.iload 6, 0, 0, 0, (some (Jvm.ClassFile.FieldType.int))) := rfl
theorem i_171_77 : iRow 171 77 = some (.iadd, 0, 0, 0, (some (Jvm.ClassFile.FieldType.int))) := rfl
theorem i_171_78 : iRow 171 78 = some (.aload_n 0, 0, 0, 0, (some (Jvm.ClassFile.FieldType.int))) := rfl
theorem i_171_79 : iRow 171 79 = some (.getfield 27, 175, 12, 11, (some (Jvm.ClassFile.FieldType.int))) := rfl
theorem i_171_82 : iRow 171 82 = some (.iload 6, 0, 0, 0, (some (Jvm.ClassFile.FieldType.int))) := rfl
theorem i_171_84 : iRow 171 84 = some (.iconst 4, 0, 0, 0, (some (Jvm.ClassFile.FieldType.int))) := rfl
theorem i_171_85 : iRow 171 85 = some (.idiv, 0, 0, 0, (some (Jvm.ClassFile.FieldType.int))) := rfl
theorem i_171_86 : iRow 171 86 = some (.iaload, 0, 0, 0, (some (Jvm.ClassFile.FieldType.int))) := rfl
theorem i_171_87 : iRow 171 87 = some (.bipush 24, 0, 0, 0, (some (Jvm.ClassFile.FieldType.int))) := rfl
theorem i_171_89 : iRow 171 89 = some (.bipush 8, 0, 0, 0, (some (Jvm.ClassFile.FieldType.int))) := rfl
theorem i_171_91 : iRow 171 91 = some (.iload 6, 0, 0, 0, (some (Jvm.ClassFile.FieldType.int))) := rfl
theorem i_171_93 : iRow 171 93 = some (.iconst 4, 0, 0, 0, (some (Jvm.ClassFile.FieldType.int))) := rfl
theorem i_171_94 : iRow 171 94 = some (.irem, 0, 0, 0, (some (Jvm.ClassFile.FieldType.int))) := rfl
theorem i_171_95 : iRow 171 95 = some (.imul, 0, 0, 0, (some (Jvm.ClassFile.FieldType.int))) := rfl
theorem i_171_96 : iRow 171 96 = some (.isub, 0, 0, 0, (some (Jvm.ClassFile.FieldType.int))) := rfl
theorem i_171_97 : iRow 171 97 = some (.ishr, 0, 0, 0, (some (Jvm.ClassFile.FieldType.int))) := rfl
theorem i_171_98 : iRow 171 98 = some (.i2b, 0, 0, 0, (some (Jvm.ClassFile.FieldType.int))) := rfl
theorem i_171_99 : iRow 171 99 = some (.bastore, 0, 0, 0, (some (Jvm.ClassFile.FieldType.int))) := rfl
theorem i_171_100 : iRow 171 100 = some (.iinc 6 1, 0, 0, 0, (some (Jvm.ClassFile.FieldType.int))) := rfl
theorem i_171_103 : iRow 171 103 = some (.goto (-43), 0, 0, 0, (some (Jvm.ClassFile.FieldType.int))) := rfl
theorem i_171_106 : iRow 171 106 = some (.aload_n 0, 0, 0, 0, (some (Jvm.ClassFile.FieldType.int))) := rfl
theorem i_171_107 : iRow 171 107 = some (.dup, 0, 0, 0, (some (Jvm.ClassFile.FieldType.int))) := rfl
theorem i_171_108 : iRow 171 108 = some (.getfield 118, 169, 12, 5, (some (Jvm.ClassFile.FieldType.int))) := rfl
theorem i_171_111 : iRow 171 111 = some (.bipush 20, 0, 0, 0, (some (Jvm.ClassFile.FieldType.int))) := rfl
theorem i_171_113 : iRow 171 113 = some (.iadd, 0, 0, 0, (some (Jvm.ClassFile.FieldType.int))) := rfl
theorem i_171_114 : iRow 171 114 = some (.putfield 118, 169, 12, 5, (some (Jvm.ClassFile.FieldType.int))) := rfl
theorem i_171_117 : iRow 171 117 = some (.aload_n 0, 0, 0, 0, (some (Jvm.ClassFile.FieldType.int))) := rfl
theorem i_171_118 : iRow 171 118 = some (.getfield 118, 169, 12, 5, (some (Jvm.ClassFile.FieldType.int))) := rfl
theorem i_171_121 : iRow 171 121 = some (.ireturn, 0, 0, 0, (some (Jvm.ClassFile.FieldType.int))) := rfl
section
variable {O : pOut} {d j kc ks pc q a b : Nat} {Q : pRes → Prop} {L : PL} {s : List Value} {es : PH} {ret : Option FieldType}
theorem x_i2b {x : Int} (hi : iRow j pc = some (.i2b, q, a, b, ret)) (K : aW O d j kc ks Q (pc + 1, L, .int (zI ((zI x).toInt8.toInt32).toInt) :: s, es)) : aW O d j kc ks Q (pc, L, .int (zI x) :: s, es) := by
  rw [zI_id] at K
  exact x0 (r := (pc + 1, L, .int ((zI x).toInt8.toInt32) :: s, es)) hi rfl K
theorem x_bast2 {p n : Nat} {sp : Nat → Int × Int} {x v : Int} (hi' : iRow j pc = some (.bastore, q, a, b, ret)) (hs : sh es) (hp : tT[p]? = some (.inl (2, n, sp))) (hx : i32 x) (h0 : 0 ≤ x) (h1 : x < n) (K : aW O d j kc ks Q (pc + 1, L, s, sA es p x.toNat (vp_nar .byte (zI v)))) : aW O d j kc ks Q (pc, L, .int (zI v) :: .int (zI x) :: .ref (64 + p) :: s, es) := by
  have h2 := sh_arr hs hp (by decide)
  obtain ⟨c1, c2⟩ := pIn_of (i := zI x) (n := n) (by rw [zI_toInt hx]; exact h0) (by rw [zI_toInt hx]; exact h1)
  have c3 : (zI x).toNatClampNeg = x.toNat := by
    rw [zI_toInt hx] at c2; omega
  refine x1 hi' rfl (fun ini => ?_) rfl K
  simp only [pS1]
  have h64 : ¬ 64 + p < 64 := by omega
  rw [if_neg h64, show 64 + p - 64 = p by omega, h2]
  simp only [c1, if_true, c3]
  unfold sA
  rw [h2]
end
/-- the m-th byte of a word, the highest first: as the class holds it, and as the reference does -/
def cByte (x : Int32) (m : Nat) : Int32 := (x.toUInt32 >>> ((zI (24 - 8 * (m : Int))).toUInt32 &&& Int32.toUInt32 31)).toInt32 &&& zI 255
def rByte (x : Int32) (m : Nat) : Int32 := (x >>> (zI (24 - 8 * (m : Int)) &&& 31)).toInt8.toInt32
theorem mask255 (x : Int32) : (x &&& zI 255).toInt = x.toInt % 256 := by
  have h := Jvm.Kit.i32_mask x (zI 255) (k := 8) (by decide) (by decide)
  rw [h]
  rfl
theorem toInt_nat (x : Int32) : x.toInt = (x.toBitVec.toNat : Int) ∨ x.toInt = (x.toBitVec.toNat : Int) - 4294967296 := by
  have e : x.toInt = x.toBitVec.toInt := rfl
  rw [e, BitVec.toInt_eq_toNat_cond]
  split
  · exact Or.inl rfl
  · right
    omega
theorem byte_k (x : Int32) (k : Nat) (s1 s2 : Int32) (hk : k = 0 ∨ k = 8 ∨ k = 16 ∨ k = 24) (h1 : ((s1.toUInt32 &&& Int32.toUInt32 31).toBitVec % 32).toNat = k) (h2 : (s2.toBitVec.smod 32).toNat = k) :
    (x.toUInt32 >>> (s1.toUInt32 &&& Int32.toUInt32 31)).toInt32.toInt % 256 = (x >>> s2).toInt % 256 := by
  have e1 := pk_ushr x s1 k h1
  have e2 := Jvm.Kit.i32_shr x s2 h2
  have t1 := toInt_nat (x.toUInt32 >>> (s1.toUInt32 &&& Int32.toUInt32 31)).toInt32
  have t2 := toInt_nat x
  rw [e1] at t1
  rw [e2]
  rcases hk with rfl | rfl | rfl | rfl
  · have p : (2 : Nat) ^ 0 = 1 := rfl
    have p2 : (2 : Int) ^ 0 = 1 := rfl
    rw [p] at t1
    rw [p2]
    omega
  · have p : (2 : Nat) ^ 8 = 256 := rfl
    have p2 : (2 : Int) ^ 8 = 256 := rfl
    rw [p] at t1
    rw [p2]
    omega
  · have p : (2 : Nat) ^ 16 = 65536 := rfl
    have p2 : (2 : Int) ^ 16 = 65536 := rfl
    rw [p] at t1
    rw [p2]
    omega
  · have p : (2 : Nat) ^ 24 = 16777216 := rfl
    have p2 : (2 : Int) ^ 24 = 16777216 := rfl
    rw [p] at t1
    rw [p2]
    omega
theorem byte_eq (x : Int32) (m : Nat) (hm : m < 4) : cByte x m = rByte x m &&& zI 255 := by
  apply Int32.toInt_inj.mp
  unfold cByte rByte
  rw [mask255, mask255, lg_i2b_toInt]
  have h : ((x >>> (zI (24 - 8 * (m : Int)) &&& 31)).toInt.bmod (2 ^ 8)) % 256 = (x >>> (zI (24 - 8 * (m : Int)) &&& 31)).toInt % 256 := by
    have p : ((2 ^ 8 : Nat) : Int) = 256 := rfl
    have := Int.bmod_emod (x := (x >>> (zI (24 - 8 * (m : Int)) &&& 31)).toInt) (m := 2 ^ 8)
    rw [p] at this
    exact this
  rw [h]
  obtain rfl | rfl | rfl | rfl : m = 0 ∨ m = 1 ∨ m = 2 ∨ m = 3 := by omega
  · exact byte_k x 24 _ _ (by decide) (by decide) (by decide)
  · exact byte_k x 16 _ _ (by decide) (by decide) (by decide)
  · exact byte_k x 8 _ _ (by decide) (by decide) (by decide)
  · exact byte_k x 0 _ _ (by decide) (by decide) (by decide)
def setP (x v : Int) (es es' : PH) : Prop := sh es' ∧ es' = sA es 2 x.toNat (zI v)
theorem set_tp {O : pOut} {d kc ks : Nat} {Q : pRes → Prop} {es : PH} {x v : Int} (hs : sh es) (h0 : 0 ≤ x) (h1 : x < 400) (K : ∀ es', setP x v es es' → Q (.inl none, es', kc, ks)) : aW O d 14 kc ks Q (0, [some (.ref 66), some (.int (zI x)), some (.int (zI v))], [], es) := by
  have hx : i32 x := by unfold i32 iLO iHI; omega
  refine x0 (r := (1, [some (.ref 66), some (.int (zI x)), some (.int (zI v))], [.int (zI x)], es)) i_14_0 rfl ?_
  refine x_ifF i_14_1 hx rfl (by simp only [zC, cR]; omega) ?_
  refine x0 (r := (5, [some (.ref 66), some (.int (zI x)), some (.int (zI v))], [.int (zI x)], es)) i_14_4 rfl ?_
  refine x0 (r := (6, [some (.ref 66), some (.int (zI x)), some (.int (zI v))], [.ref 66, .int (zI x)], es)) i_14_5 rfl ?_
  refine x_alen (p := 2) (n := 400) i_14_6 hs rfl ?_
  refine x_cmpF i_14_7 hx (by unfold i32 iLO iHI; omega) rfl (by simp only [zC, cR]; omega) ?_
  refine x0 (r := (11, [some (.ref 66), some (.int (zI x)), some (.int (zI v))], [.ref 66], es)) i_14_10 rfl ?_
  refine x0 (r := (12, [some (.ref 66), some (.int (zI x)), some (.int (zI v))], [.int (zI x), .ref 66], es)) i_14_11 rfl ?_
  refine x0 (r := (13, [some (.ref 66), some (.int (zI x)), some (.int (zI v))], [.int (zI v), .int (zI x), .ref 66], es)) i_14_12 rfl ?_
  refine x_iast (p := 2) (n := 400) i_14_13 hs rfl hx h0 h1 ?_
  refine x_ret (v := none) i_14_14 rfl (fun _ => rfl) rfl rfl rfl ?_
  exact K _ ⟨sh_sA hs, rfl⟩
theorem s_ap3 {O : pOut} {d kc ks : Nat} {Q : pRes → Prop} {es : PH} {w q : Int} (hs_es : sh es) (h_w : -2147483648 ≤ w ∧ w ≤ 2147483647) (h_q : -8 ≤ q ∧ q ≤ 24) (h_z : 0 ≤ (gI es 1 1).toInt ∧ (0 ≤ q → (gI es 1 1).toInt ≤ 399))
    (K1 : q < 0 → Q (.inl (none), es, kc, ks))
    (K2 : ¬ (q < 0) → ∀ v2 : Int, v2 = (gI es 1 1).toInt → ∀ v3 : Int, v3 = ((zI w).toUInt32 >>> ((zI q).toUInt32 &&& Int32.toUInt32 31)).toInt32.toInt → ∀ v4 : Int, v4 = (zI v3 &&& zI 255).toInt → ∀ es5 : PH, setP v2 v4 es es5 → ∀ v6 : Int, v6 = (gI es5 1 1).toInt → ∀ es7 : PH, es7 = sI es5 1 1 (.int (zI (v6 + 1))) → aW O (d + 1) 13 kc ks Q (3, [some (.ref 65), some (.int (zI w)), some (.int (zI (q + (-8))))], [], es7)) :
    aW O (d + 1) 13 kc ks Q (3, [some (.ref 65), some (.int (zI w)), some (.int (zI q))], [], es) := by
  refine x0 (r := (4, [some (.ref 65), some (.int (zI w)), some (.int (zI q))], [.int (zI q)], es)) i_13_3 rfl ?_
  by_cases c1 : q < 0
  · refine x_ifT i_13_4 (by unfold i32 iLO iHI; omega) rfl (by simp only [zC, cR]; omega) ?_
    refine x_ret (v := none) i_13_41 rfl (fun _ => rfl) rfl rfl rfl ?_
    exact K1 c1
  · refine x_ifF i_13_4 (by unfold i32 iLO iHI; omega) rfl (by simp only [zC, cR]; omega) ?_
    refine x0 (r := (8, [some (.ref 65), some (.int (zI w)), some (.int (zI q))], [.ref 65], es)) i_13_7 rfl ?_
    refine x_getr (p := 1) (k := 66) i_13_8 hs_es rfl rfl ?_
    show aW _ _ _ _ _ _ (11, [some (.ref 65), some (.int (zI w)), some (.int (zI q))], [.ref 66], es)
    refine x0 (r := (12, [some (.ref 65), some (.int (zI w)), some (.int (zI q))], [.ref 65, .ref 66], es)) i_13_11 rfl ?_
    refine x_geti (p := 1) i_13_12 hs_es rfl rfl ?_
    obtain ⟨v2, e_v2⟩ : ∃ z : Int, z = (gI es 1 1).toInt := ⟨_, rfl⟩
    rw [← e_v2]
    have r_v2 : iLO ≤ v2 ∧ v2 ≤ iHI := by rw [e_v2]; exact i32_rng _
    unfold iLO iHI at r_v2
    refine x0 (r := (16, [some (.ref 65), some (.int (zI w)), some (.int (zI q))], [.int (zI w), .int (zI v2), .ref 66], es)) i_13_15 rfl ?_
    refine x0 (r := (17, [some (.ref 65), some (.int (zI w)), some (.int (zI q))], [.int (zI q), .int (zI w), .int (zI v2), .ref 66], es)) i_13_16 rfl ?_
    refine x_op i_13_17 (w := ((zI w).toUInt32 >>> ((zI q).toUInt32 &&& Int32.toUInt32 31)).toInt32) rfl rfl ?_
    obtain ⟨v3, e_v3⟩ : ∃ z : Int, z = ((zI w).toUInt32 >>> ((zI q).toUInt32 &&& Int32.toUInt32 31)).toInt32.toInt := ⟨_, rfl⟩
    rw [← e_v3]
    have r_v3 : iLO ≤ v3 ∧ v3 ≤ iHI := by rw [e_v3]; exact i32_rng _
    unfold iLO iHI at r_v3
    refine x0 (r := (21, [some (.ref 65), some (.int (zI w)), some (.int (zI q))], [.int (zI 255), .int (zI v3), .int (zI v2), .ref 66], es)) i_13_18 (by rfl) ?_
    refine x_op i_13_21 (w := (zI v3 &&& zI 255)) rfl rfl ?_
    obtain ⟨v4, e_v4⟩ : ∃ z : Int, z = (zI v3 &&& zI 255).toInt := ⟨_, rfl⟩
    rw [← e_v4]
    have r_v4 : iLO ≤ v4 ∧ v4 ≤ iHI := by rw [e_v4]; exact i32_rng _
    unfold iLO iHI at r_v4
    refine x_call (vs := [.ref 66, .int (zI v2), .int (zI v4)]) (rs := []) i_13_22 rfl (fun _ => rfl) rfl rfl rfl rfl rfl rfl ?_
    show aW _ _ _ _ _ _ (0, [some (.ref 66), some (.int (zI v2)), some (.int (zI v4))], [], es)
    refine set_tp hs_es (by omega) (by omega) (fun es5 p_es5 => ?_)
    have hs_es5 : sh es5 := p_es5.1
    show aW _ _ _ _ _ _ (25, [some (.ref 65), some (.int (zI w)), some (.int (zI q))], [], es5)
    refine x0 (r := (26, [some (.ref 65), some (.int (zI w)), some (.int (zI q))], [.ref 65], es5)) i_13_25 rfl ?_
    refine x0 (r := (27, [some (.ref 65), some (.int (zI w)), some (.int (zI q))], [.ref 65, .ref 65], es5)) i_13_26 rfl ?_
    refine x_geti (p := 1) i_13_27 hs_es5 rfl rfl ?_
    obtain ⟨v6, e_v6⟩ : ∃ z : Int, z = (gI es5 1 1).toInt := ⟨_, rfl⟩
    rw [← e_v6]
    have r_v6 : iLO ≤ v6 ∧ v6 ≤ iHI := by rw [e_v6]; exact i32_rng _
    unfold iLO iHI at r_v6
    refine x0 (r := (31, [some (.ref 65), some (.int (zI w)), some (.int (zI q))], [.int (zI 1), .int (zI v6), .ref 65], es5)) i_13_30 (by rfl) ?_
    refine x_iadd i_13_31 ?_
    refine x_puti (p := 1) (ty := .int) i_13_32 hs_es5 rfl rfl rfl (Or.inl rfl) ?_
    obtain ⟨es7, e_es7⟩ : ∃ z : PH, z = sI es5 1 1 (.int (zI (v6 + 1))) := ⟨_, rfl⟩
    have hs_es7 : sh es7 := by rw [e_es7]; exact sh_sI hs_es5 (p := 1) (b := 1) rfl rfl
    rw [← e_es7]
    refine x_iinc (x := q) i_13_35 rfl (by show 2 < 3; decide) ?_
    show aW _ _ _ _ _ _ (38, [some (.ref 65), some (.int (zI w)), some (.int (zI (q + (-8))))], [], es7)
    refine x0 (r := (3, [some (.ref 65), some (.int (zI w)), some (.int (zI (q + (-8))))], [], es7)) i_13_38 rfl ?_
    exact K2 c1 v2 e_v2 v3 e_v3 v4 e_v4 es5 p_es5 v6 e_v6 es7 e_es7
theorem s_ap0 {O : pOut} {d kc ks : Nat} {Q : pRes → Prop} {es : PH} {w : Int} (hs_es : sh es)
    (K1 : aW O d 13 kc ks Q (3, [some (.ref 65), some (.int (zI w)), some (.int (zI 24))], [], es)) :
    aW O d 13 kc ks Q (0, [some (.ref 65), some (.int (zI w)), none], [], es) := by
  refine x0 (r := (2, [some (.ref 65), some (.int (zI w)), none], [.int (zI 24)], es)) i_13_0 (by rfl) ?_
  refine x0 (r := (3, [some (.ref 65), some (.int (zI w)), some (.int (zI 24))], [], es)) i_13_2 rfl ?_
  exact K1
theorem s_xf0 {O : pOut} {d kc ks : Nat} {Q : pRes → Prop} {es : PH} {a1 a2 a3 a4 a5 : Int} (hs_es : sh es) (h_z : 0 ≤ (gI es 1 1).toInt ∧ (gI es 1 1).toInt ≤ 400)
    (K1 : ∀ v1 : Int, v1 = (gI es 1 1).toInt → 400 < (v1 + 20) → Q (.inl (some (.int (zI (-1)))), es, kc, ks))
    (K2 : ∀ v1 : Int, v1 = (gI es 1 1).toInt → ¬ (400 < (v1 + 20)) → aW O (d + 1) 11 kc ks Q (14, [some (.ref 64), some (.int (zI a1)), some (.int (zI a2)), some (.int (zI a3)), some (.int (zI a4)), some (.int (zI a5))], [], es)) :
    aW O (d + 1) 11 kc ks Q (0, [some (.ref 64), some (.int (zI a1)), some (.int (zI a2)), some (.int (zI a3)), some (.int (zI a4)), some (.int (zI a5))], [], es) := by
  refine x0 (r := (1, [some (.ref 64), some (.int (zI a1)), some (.int (zI a2)), some (.int (zI a3)), some (.int (zI a4)), some (.int (zI a5))], [.ref 64], es)) i_11_0 rfl ?_
  refine x_getr (p := 0) (k := 65) i_11_1 hs_es rfl rfl ?_
  show aW _ _ _ _ _ _ (4, [some (.ref 64), some (.int (zI a1)), some (.int (zI a2)), some (.int (zI a3)), some (.int (zI a4)), some (.int (zI a5))], [.ref 65], es)
  refine x0 (r := (6, [some (.ref 64), some (.int (zI a1)), some (.int (zI a2)), some (.int (zI a3)), some (.int (zI a4)), some (.int (zI a5))], [.int (zI 20), .ref 65], es)) i_11_4 (by rfl) ?_
  refine x_call (vs := [.ref 65, .int (zI 20)]) (rs := []) i_11_6 rfl (fun _ => rfl) rfl rfl rfl rfl rfl (pCall_v (p := 1) hs_es rfl rfl rfl rfl rfl (by decide) rfl rfl rfl rfl rfl) ?_
  show aW _ _ _ _ _ _ (0, [some (.ref 65), some (.int (zI 20))], [], es)
  refine x0 (r := (1, [some (.ref 65), some (.int (zI 20))], [.ref 65], es)) i_12_0 rfl ?_
  refine x_geti (p := 1) i_12_1 hs_es rfl rfl ?_
  obtain ⟨v1, e_v1⟩ : ∃ z : Int, z = (gI es 1 1).toInt := ⟨_, rfl⟩
  rw [← e_v1]
  have r_v1 : iLO ≤ v1 ∧ v1 ≤ iHI := by rw [e_v1]; exact i32_rng _
  unfold iLO iHI at r_v1
  refine x0 (r := (5, [some (.ref 65), some (.int (zI 20))], [.int (zI 20), .int (zI v1)], es)) i_12_4 rfl ?_
  refine x_iadd i_12_5 ?_
  refine x0 (r := (9, [some (.ref 65), some (.int (zI 20))], [.int (zI 400), .int (zI (v1 + 20))], es)) i_12_6 (by rfl) ?_
  by_cases c2 : 400 < (v1 + 20)
  · refine x_cmpT i_12_9 (by unfold i32 iLO iHI; omega) (by unfold i32 iLO iHI; omega) rfl (by simp only [zC, cR]; omega) ?_
    refine x0 (r := (17, [some (.ref 65), some (.int (zI 20))], [.int (zI 0)], es)) i_12_16 (by rfl) ?_
    refine x_ret (v := some (.int (zI 0))) i_12_17 rfl (fun _ => rfl) rfl rfl (pFin_b (by omega)) ?_
    show aW _ _ _ _ _ _ (9, [some (.ref 64), some (.int (zI a1)), some (.int (zI a2)), some (.int (zI a3)), some (.int (zI a4)), some (.int (zI a5))], [.int (zI 0)], es)
    refine x_ifF i_11_9 (by unfold i32 iLO iHI; omega) rfl (by simp only [zC, cR]; omega) ?_
    refine x0 (r := (13, [some (.ref 64), some (.int (zI a1)), some (.int (zI a2)), some (.int (zI a3)), some (.int (zI a4)), some (.int (zI a5))], [.int (zI (-1))], es)) i_11_12 (by rfl) ?_
    refine x_ret (v := some (.int (zI (-1)))) i_11_13 rfl (fun _ => rfl) rfl rfl rfl ?_
    exact K1 v1 e_v1 c2
  · refine x_cmpF i_12_9 (by unfold i32 iLO iHI; omega) (by unfold i32 iLO iHI; omega) rfl (by simp only [zC, cR]; omega) ?_
    refine x0 (r := (13, [some (.ref 65), some (.int (zI 20))], [.int (zI 1)], es)) i_12_12 (by rfl) ?_
    refine x0 (r := (17, [some (.ref 65), some (.int (zI 20))], [.int (zI 1)], es)) i_12_13 rfl ?_
    refine x_ret (v := some (.int (zI 1))) i_12_17 rfl (fun _ => rfl) rfl rfl (pFin_b (by omega)) ?_
    show aW _ _ _ _ _ _ (9, [some (.ref 64), some (.int (zI a1)), some (.int (zI a2)), some (.int (zI a3)), some (.int (zI a4)), some (.int (zI a5))], [.int (zI 1)], es)
    refine x_ifT i_11_9 (by unfold i32 iLO iHI; omega) rfl (by simp only [zC, cR]; omega) ?_
    exact K2 v1 e_v1 c2
theorem s_xf14 {O : pOut} {d kc ks : Nat} {Q : pRes → Prop} {es : PH} {a1 a2 a3 a4 a5 : Int} (hs_es : sh es)
    (K1 : aW O d 11 kc ks Q (19, [some (.ref 64), some (.int (zI a1)), some (.int (zI a2)), some (.int (zI a3)), some (.int (zI a4)), some (.int (zI a5))], [.int (zI a1), .ref 65], es)) :
    aW O d 11 kc ks Q (14, [some (.ref 64), some (.int (zI a1)), some (.int (zI a2)), some (.int (zI a3)), some (.int (zI a4)), some (.int (zI a5))], [], es) := by
  refine x0 (r := (15, [some (.ref 64), some (.int (zI a1)), some (.int (zI a2)), some (.int (zI a3)), some (.int (zI a4)), some (.int (zI a5))], [.ref 64], es)) i_11_14 rfl ?_
  refine x_getr (p := 0) (k := 65) i_11_15 hs_es rfl rfl ?_
  show aW _ _ _ _ _ _ (18, [some (.ref 64), some (.int (zI a1)), some (.int (zI a2)), some (.int (zI a3)), some (.int (zI a4)), some (.int (zI a5))], [.ref 65], es)
  refine x0 (r := (19, [some (.ref 64), some (.int (zI a1)), some (.int (zI a2)), some (.int (zI a3)), some (.int (zI a4)), some (.int (zI a5))], [.int (zI a1), .ref 65], es)) i_11_18 rfl ?_
  exact K1
theorem s_xf22 {O : pOut} {d kc ks : Nat} {Q : pRes → Prop} {es : PH} {a1 a2 a3 a4 a5 : Int} (hs_es : sh es)
    (K1 : aW O d 11 kc ks Q (27, [some (.ref 64), some (.int (zI a1)), some (.int (zI a2)), some (.int (zI a3)), some (.int (zI a4)), some (.int (zI a5))], [.int (zI a2), .ref 65], es)) :
    aW O d 11 kc ks Q (22, [some (.ref 64), some (.int (zI a1)), some (.int (zI a2)), some (.int (zI a3)), some (.int (zI a4)), some (.int (zI a5))], [], es) := by
  refine x0 (r := (23, [some (.ref 64), some (.int (zI a1)), some (.int (zI a2)), some (.int (zI a3)), some (.int (zI a4)), some (.int (zI a5))], [.ref 64], es)) i_11_22 rfl ?_
  refine x_getr (p := 0) (k := 65) i_11_23 hs_es rfl rfl ?_
  show aW _ _ _ _ _ _ (26, [some (.ref 64), some (.int (zI a1)), some (.int (zI a2)), some (.int (zI a3)), some (.int (zI a4)), some (.int (zI a5))], [.ref 65], es)
  refine x0 (r := (27, [some (.ref 64), some (.int (zI a1)), some (.int (zI a2)), some (.int (zI a3)), some (.int (zI a4)), some (.int (zI a5))], [.int (zI a2), .ref 65], es)) i_11_26 rfl ?_
  exact K1
theorem s_xf30 {O : pOut} {d kc ks : Nat} {Q : pRes → Prop} {es : PH} {a1 a2 a3 a4 a5 : Int} (hs_es : sh es)
    (K1 : aW O d 11 kc ks Q (35, [some (.ref 64), some (.int (zI a1)), some (.int (zI a2)), some (.int (zI a3)), some (.int (zI a4)), some (.int (zI a5))], [.int (zI a3), .ref 65], es)) :
    aW O d 11 kc ks Q (30, [some (.ref 64), some (.int (zI a1)), some (.int (zI a2)), some (.int (zI a3)), some (.int (zI a4)), some (.int (zI a5))], [], es) := by
  refine x0 (r := (31, [some (.ref 64), some (.int (zI a1)), some (.int (zI a2)), some (.int (zI a3)), some (.int (zI a4)), some (.int (zI a5))], [.ref 64], es)) i_11_30 rfl ?_
  refine x_getr (p := 0) (k := 65) i_11_31 hs_es rfl rfl ?_
  show aW _ _ _ _ _ _ (34, [some (.ref 64), some (.int (zI a1)), some (.int (zI a2)), some (.int (zI a3)), some (.int (zI a4)), some (.int (zI a5))], [.ref 65], es)
  refine x0 (r := (35, [some (.ref 64), some (.int (zI a1)), some (.int (zI a2)), some (.int (zI a3)), some (.int (zI a4)), some (.int (zI a5))], [.int (zI a3), .ref 65], es)) i_11_34 rfl ?_
  exact K1
theorem s_xf38 {O : pOut} {d kc ks : Nat} {Q : pRes → Prop} {es : PH} {a1 a2 a3 a4 a5 : Int} (hs_es : sh es)
    (K1 : aW O d 11 kc ks Q (44, [some (.ref 64), some (.int (zI a1)), some (.int (zI a2)), some (.int (zI a3)), some (.int (zI a4)), some (.int (zI a5))], [.int (zI a4), .ref 65], es)) :
    aW O d 11 kc ks Q (38, [some (.ref 64), some (.int (zI a1)), some (.int (zI a2)), some (.int (zI a3)), some (.int (zI a4)), some (.int (zI a5))], [], es) := by
  refine x0 (r := (39, [some (.ref 64), some (.int (zI a1)), some (.int (zI a2)), some (.int (zI a3)), some (.int (zI a4)), some (.int (zI a5))], [.ref 64], es)) i_11_38 rfl ?_
  refine x_getr (p := 0) (k := 65) i_11_39 hs_es rfl rfl ?_
  show aW _ _ _ _ _ _ (42, [some (.ref 64), some (.int (zI a1)), some (.int (zI a2)), some (.int (zI a3)), some (.int (zI a4)), some (.int (zI a5))], [.ref 65], es)
  refine x0 (r := (44, [some (.ref 64), some (.int (zI a1)), some (.int (zI a2)), some (.int (zI a3)), some (.int (zI a4)), some (.int (zI a5))], [.int (zI a4), .ref 65], es)) i_11_42 rfl ?_
  exact K1
theorem s_xf47 {O : pOut} {d kc ks : Nat} {Q : pRes → Prop} {es : PH} {a1 a2 a3 a4 a5 : Int} (hs_es : sh es)
    (K1 : aW O d 11 kc ks Q (53, [some (.ref 64), some (.int (zI a1)), some (.int (zI a2)), some (.int (zI a3)), some (.int (zI a4)), some (.int (zI a5))], [.int (zI a5), .ref 65], es)) :
    aW O d 11 kc ks Q (47, [some (.ref 64), some (.int (zI a1)), some (.int (zI a2)), some (.int (zI a3)), some (.int (zI a4)), some (.int (zI a5))], [], es) := by
  refine x0 (r := (48, [some (.ref 64), some (.int (zI a1)), some (.int (zI a2)), some (.int (zI a3)), some (.int (zI a4)), some (.int (zI a5))], [.ref 64], es)) i_11_47 rfl ?_
  refine x_getr (p := 0) (k := 65) i_11_48 hs_es rfl rfl ?_
  show aW _ _ _ _ _ _ (51, [some (.ref 64), some (.int (zI a1)), some (.int (zI a2)), some (.int (zI a3)), some (.int (zI a4)), some (.int (zI a5))], [.ref 65], es)
  refine x0 (r := (53, [some (.ref 64), some (.int (zI a1)), some (.int (zI a2)), some (.int (zI a3)), some (.int (zI a4)), some (.int (zI a5))], [.int (zI a5), .ref 65], es)) i_11_51 rfl ?_
  exact K1
theorem s_xf56 {O : pOut} {d kc ks : Nat} {Q : pRes → Prop} {es : PH} {a1 a2 a3 a4 a5 : Int} (hs_es : sh es)
    (K1 : ∀ v1 : Int, v1 = (gI es 1 1).toInt → Q (.inl (some (.int (zI v1))), es, kc, ks)) :
    aW O d 11 kc ks Q (56, [some (.ref 64), some (.int (zI a1)), some (.int (zI a2)), some (.int (zI a3)), some (.int (zI a4)), some (.int (zI a5))], [], es) := by
  refine x0 (r := (57, [some (.ref 64), some (.int (zI a1)), some (.int (zI a2)), some (.int (zI a3)), some (.int (zI a4)), some (.int (zI a5))], [.ref 64], es)) i_11_56 rfl ?_
  refine x_getr (p := 0) (k := 65) i_11_57 hs_es rfl rfl ?_
  show aW _ _ _ _ _ _ (60, [some (.ref 64), some (.int (zI a1)), some (.int (zI a2)), some (.int (zI a3)), some (.int (zI a4)), some (.int (zI a5))], [.ref 65], es)
  refine x_geti (p := 1) i_11_60 hs_es rfl rfl ?_
  obtain ⟨v1, e_v1⟩ : ∃ z : Int, z = (gI es 1 1).toInt := ⟨_, rfl⟩
  rw [← e_v1]
  have r_v1 : iLO ≤ v1 ∧ v1 ≤ iHI := by rw [e_v1]; exact i32_rng _
  unfold iLO iHI at r_v1
  refine x_ret (v := some (.int (zI v1))) i_11_63 rfl (fun _ => rfl) rfl rfl rfl ?_
  exact K1 v1 e_v1
theorem s_mf0 {O : pOut} {d kc ks : Nat} {Q : pRes → Prop} {es : PH} {a1 a2 a3 a4 a5 : Int} (hs_es : sh es)
    (K1 : ∀ es1 : PH, es1 = sI es 79 0 (.int (zI 0)) → aW O d 171 kc ks Q (5, [some (.ref 143), some (.int (zI a1)), some (.int (zI a2)), some (.int (zI a3)), some (.int (zI a4)), some (.int (zI a5)), none], [], es1)) :
    aW O d 171 kc ks Q (0, [some (.ref 143), some (.int (zI a1)), some (.int (zI a2)), some (.int (zI a3)), some (.int (zI a4)), some (.int (zI a5)), none], [], es) := by
  refine x0 (r := (1, [some (.ref 143), some (.int (zI a1)), some (.int (zI a2)), some (.int (zI a3)), some (.int (zI a4)), some (.int (zI a5)), none], [.ref 143], es)) i_171_0 rfl ?_
  refine x0 (r := (2, [some (.ref 143), some (.int (zI a1)), some (.int (zI a2)), some (.int (zI a3)), some (.int (zI a4)), some (.int (zI a5)), none], [.int (zI 0), .ref 143], es)) i_171_1 (by rfl) ?_
  refine x_puti (p := 79) (ty := .int) i_171_2 hs_es rfl rfl rfl (Or.inl rfl) ?_
  obtain ⟨es1, e_es1⟩ : ∃ z : PH, z = sI es 79 0 (.int (zI 0)) := ⟨_, rfl⟩
  have hs_es1 : sh es1 := by rw [e_es1]; exact sh_sI hs_es (p := 79) (b := 0) rfl rfl
  rw [← e_es1]
  exact K1 es1 e_es1
theorem s_mf5 {O : pOut} {d kc ks : Nat} {Q : pRes → Prop} {es : PH} {a1 a2 a3 a4 a5 : Int} (hs_es : sh es) (h_z : 0 ≤ (gI es 79 5).toInt ∧ (gI es 79 5).toInt ≤ 400)
    (K1 : ∀ v1 : Int, v1 = (gI es 79 5).toInt → (v1 + 20) ≤ 400 → ∀ es3 : PH, es3 = sA es 83 (Int.toNat 0) (zI a1) → ∀ es4 : PH, es4 = sA es3 83 (Int.toNat 1) (zI a2) → ∀ es5 : PH, es5 = sA es4 83 (Int.toNat 2) (zI a3) → ∀ es6 : PH, es6 = sA es5 83 (Int.toNat 3) (zI a4) → ∀ es7 : PH, es7 = sA es6 83 (Int.toNat 4) (zI a5) → aW O d 171 kc ks Q (60, [some (.ref 143), some (.int (zI a1)), some (.int (zI a2)), some (.int (zI a3)), some (.int (zI a4)), some (.int (zI a5)), some (.int (zI 0))], [], es7))
    (K2 : ∀ v1 : Int, v1 = (gI es 79 5).toInt → ¬ ((v1 + 20) ≤ 400) → Q (.inl (some (.int (zI (-1)))), es, kc, ks)) :
    aW O d 171 kc ks Q (5, [some (.ref 143), some (.int (zI a1)), some (.int (zI a2)), some (.int (zI a3)), some (.int (zI a4)), some (.int (zI a5)), none], [], es) := by
  refine x0 (r := (6, [some (.ref 143), some (.int (zI a1)), some (.int (zI a2)), some (.int (zI a3)), some (.int (zI a4)), some (.int (zI a5)), none], [.ref 143], es)) i_171_5 rfl ?_
  refine x_geti (p := 79) i_171_6 hs_es rfl rfl ?_
  obtain ⟨v1, e_v1⟩ : ∃ z : Int, z = (gI es 79 5).toInt := ⟨_, rfl⟩
  rw [← e_v1]
  have r_v1 : iLO ≤ v1 ∧ v1 ≤ iHI := by rw [e_v1]; exact i32_rng _
  unfold iLO iHI at r_v1
  refine x0 (r := (11, [some (.ref 143), some (.int (zI a1)), some (.int (zI a2)), some (.int (zI a3)), some (.int (zI a4)), some (.int (zI a5)), none], [.int (zI 20), .int (zI v1)], es)) i_171_9 (by rfl) ?_
  refine x_iadd i_171_11 ?_
  refine x0 (r := (15, [some (.ref 143), some (.int (zI a1)), some (.int (zI a2)), some (.int (zI a3)), some (.int (zI a4)), some (.int (zI a5)), none], [.int (zI 400), .int (zI (v1 + 20))], es)) i_171_12 (by rfl) ?_
  by_cases c2 : (v1 + 20) ≤ 400
  · refine x_cmpT i_171_15 (by unfold i32 iLO iHI; omega) (by unfold i32 iLO iHI; omega) rfl (by simp only [zC, cR]; omega) ?_
    refine x0 (r := (21, [some (.ref 143), some (.int (zI a1)), some (.int (zI a2)), some (.int (zI a3)), some (.int (zI a4)), some (.int (zI a5)), none], [.ref 143], es)) i_171_20 rfl ?_
    refine x_getr (p := 79) (k := 147) i_171_21 hs_es rfl rfl ?_
    show aW _ _ _ _ _ _ (24, [some (.ref 143), some (.int (zI a1)), some (.int (zI a2)), some (.int (zI a3)), some (.int (zI a4)), some (.int (zI a5)), none], [.ref 147], es)
    refine x0 (r := (25, [some (.ref 143), some (.int (zI a1)), some (.int (zI a2)), some (.int (zI a3)), some (.int (zI a4)), some (.int (zI a5)), none], [.int (zI 0), .ref 147], es)) i_171_24 (by rfl) ?_
    refine x0 (r := (26, [some (.ref 143), some (.int (zI a1)), some (.int (zI a2)), some (.int (zI a3)), some (.int (zI a4)), some (.int (zI a5)), none], [.int (zI a1), .int (zI 0), .ref 147], es)) i_171_25 rfl ?_
    refine x_iast (p := 83) i_171_26 hs_es rfl (by unfold i32 iLO iHI; omega) (by omega) (by omega) ?_
    obtain ⟨es3, e_es3⟩ : ∃ z : PH, z = sA es 83 (Int.toNat 0) (zI a1) := ⟨_, rfl⟩
    have hs_es3 : sh es3 := by rw [e_es3]; exact sh_sA hs_es
    rw [← e_es3]
    refine x0 (r := (28, [some (.ref 143), some (.int (zI a1)), some (.int (zI a2)), some (.int (zI a3)), some (.int (zI a4)), some (.int (zI a5)), none], [.ref 143], es3)) i_171_27 rfl ?_
    refine x_getr (p := 79) (k := 147) i_171_28 hs_es3 rfl rfl ?_
    show aW _ _ _ _ _ _ (31, [some (.ref 143), some (.int (zI a1)), some (.int (zI a2)), some (.int (zI a3)), some (.int (zI a4)), some (.int (zI a5)), none], [.ref 147], es3)
    refine x0 (r := (32, [some (.ref 143), some (.int (zI a1)), some (.int (zI a2)), some (.int (zI a3)), some (.int (zI a4)), some (.int (zI a5)), none], [.int (zI 1), .ref 147], es3)) i_171_31 (by rfl) ?_
    refine x0 (r := (33, [some (.ref 143), some (.int (zI a1)), some (.int (zI a2)), some (.int (zI a3)), some (.int (zI a4)), some (.int (zI a5)), none], [.int (zI a2), .int (zI 1), .ref 147], es3)) i_171_32 rfl ?_
    refine x_iast (p := 83) i_171_33 hs_es3 rfl (by unfold i32 iLO iHI; omega) (by omega) (by omega) ?_
    obtain ⟨es4, e_es4⟩ : ∃ z : PH, z = sA es3 83 (Int.toNat 1) (zI a2) := ⟨_, rfl⟩
    have hs_es4 : sh es4 := by rw [e_es4]; exact sh_sA hs_es3
    rw [← e_es4]
    refine x0 (r := (35, [some (.ref 143), some (.int (zI a1)), some (.int (zI a2)), some (.int (zI a3)), some (.int (zI a4)), some (.int (zI a5)), none], [.ref 143], es4)) i_171_34 rfl ?_
    refine x_getr (p := 79) (k := 147) i_171_35 hs_es4 rfl rfl ?_
    show aW _ _ _ _ _ _ (38, [some (.ref 143), some (.int (zI a1)), some (.int (zI a2)), some (.int (zI a3)), some (.int (zI a4)), some (.int (zI a5)), none], [.ref 147], es4)
    refine x0 (r := (39, [some (.ref 143), some (.int (zI a1)), some (.int (zI a2)), some (.int (zI a3)), some (.int (zI a4)), some (.int (zI a5)), none], [.int (zI 2), .ref 147], es4)) i_171_38 (by rfl) ?_
    refine x0 (r := (40, [some (.ref 143), some (.int (zI a1)), some (.int (zI a2)), some (.int (zI a3)), some (.int (zI a4)), some (.int (zI a5)), none], [.int (zI a3), .int (zI 2), .ref 147], es4)) i_171_39 rfl ?_
    refine x_iast (p := 83) i_171_40 hs_es4 rfl (by unfold i32 iLO iHI; omega) (by omega) (by omega) ?_
    obtain ⟨es5, e_es5⟩ : ∃ z : PH, z = sA es4 83 (Int.toNat 2) (zI a3) := ⟨_, rfl⟩
    have hs_es5 : sh es5 := by rw [e_es5]; exact sh_sA hs_es4
    rw [← e_es5]
    refine x0 (r := (42, [some (.ref 143), some (.int (zI a1)), some (.int (zI a2)), some (.int (zI a3)), some (.int (zI a4)), some (.int (zI a5)), none], [.ref 143], es5)) i_171_41 rfl ?_
    refine x_getr (p := 79) (k := 147) i_171_42 hs_es5 rfl rfl ?_
    show aW _ _ _ _ _ _ (45, [some (.ref 143), some (.int (zI a1)), some (.int (zI a2)), some (.int (zI a3)), some (.int (zI a4)), some (.int (zI a5)), none], [.ref 147], es5)
    refine x0 (r := (46, [some (.ref 143), some (.int (zI a1)), some (.int (zI a2)), some (.int (zI a3)), some (.int (zI a4)), some (.int (zI a5)), none], [.int (zI 3), .ref 147], es5)) i_171_45 (by rfl) ?_
    refine x0 (r := (48, [some (.ref 143), some (.int (zI a1)), some (.int (zI a2)), some (.int (zI a3)), some (.int (zI a4)), some (.int (zI a5)), none], [.int (zI a4), .int (zI 3), .ref 147], es5)) i_171_46 rfl ?_
    refine x_iast (p := 83) i_171_48 hs_es5 rfl (by unfold i32 iLO iHI; omega) (by omega) (by omega) ?_
    obtain ⟨es6, e_es6⟩ : ∃ z : PH, z = sA es5 83 (Int.toNat 3) (zI a4) := ⟨_, rfl⟩
    have hs_es6 : sh es6 := by rw [e_es6]; exact sh_sA hs_es5
    rw [← e_es6]
    refine x0 (r := (50, [some (.ref 143), some (.int (zI a1)), some (.int (zI a2)), some (.int (zI a3)), some (.int (zI a4)), some (.int (zI a5)), none], [.ref 143], es6)) i_171_49 rfl ?_
    refine x_getr (p := 79) (k := 147) i_171_50 hs_es6 rfl rfl ?_
    show aW _ _ _ _ _ _ (53, [some (.ref 143), some (.int (zI a1)), some (.int (zI a2)), some (.int (zI a3)), some (.int (zI a4)), some (.int (zI a5)), none], [.ref 147], es6)
    refine x0 (r := (54, [some (.ref 143), some (.int (zI a1)), some (.int (zI a2)), some (.int (zI a3)), some (.int (zI a4)), some (.int (zI a5)), none], [.int (zI 4), .ref 147], es6)) i_171_53 (by rfl) ?_
    refine x0 (r := (56, [some (.ref 143), some (.int (zI a1)), some (.int (zI a2)), some (.int (zI a3)), some (.int (zI a4)), some (.int (zI a5)), none], [.int (zI a5), .int (zI 4), .ref 147], es6)) i_171_54 rfl ?_
    refine x_iast (p := 83) i_171_56 hs_es6 rfl (by unfold i32 iLO iHI; omega) (by omega) (by omega) ?_
    obtain ⟨es7, e_es7⟩ : ∃ z : PH, z = sA es6 83 (Int.toNat 4) (zI a5) := ⟨_, rfl⟩
    have hs_es7 : sh es7 := by rw [e_es7]; exact sh_sA hs_es6
    rw [← e_es7]
    refine x0 (r := (58, [some (.ref 143), some (.int (zI a1)), some (.int (zI a2)), some (.int (zI a3)), some (.int (zI a4)), some (.int (zI a5)), none], [.int (zI 0)], es7)) i_171_57 (by rfl) ?_
    refine x0 (r := (60, [some (.ref 143), some (.int (zI a1)), some (.int (zI a2)), some (.int (zI a3)), some (.int (zI a4)), some (.int (zI a5)), some (.int (zI 0))], [], es7)) i_171_58 rfl ?_
    exact K1 v1 e_v1 c2 es3 e_es3 es4 e_es4 es5 e_es5 es6 e_es6 es7 e_es7
  · refine x_cmpF i_171_15 (by unfold i32 iLO iHI; omega) (by unfold i32 iLO iHI; omega) rfl (by simp only [zC, cR]; omega) ?_
    refine x0 (r := (19, [some (.ref 143), some (.int (zI a1)), some (.int (zI a2)), some (.int (zI a3)), some (.int (zI a4)), some (.int (zI a5)), none], [.int (zI (-1))], es)) i_171_18 (by rfl) ?_
    refine x_ret (v := some (.int (zI (-1)))) i_171_19 rfl (fun _ => rfl) rfl rfl rfl ?_
    exact K2 v1 e_v1 c2
theorem s_mf60 {O : pOut} {d kc ks : Nat} {Q : pRes → Prop} {es : PH} {a1 a2 a3 a4 a5 k : Int} (hs_es : sh es) (h_k : 0 ≤ k ∧ k ≤ 20) (h_z : 0 ≤ (gI es 79 5).toInt ∧ (gI es 79 5).toInt ≤ 380)
    (K1 : 20 ≤ k → ∀ v2 : Int, v2 = (gI es 79 5).toInt → ∀ es3 : PH, es3 = sI es 79 5 (.int (zI (v2 + 20))) → ∀ v4 : Int, v4 = (gI es3 79 5).toInt → Q (.inl (some (.int (zI v4))), es3, kc, ks))
    (K2 : ¬ (20 ≤ k) → ∀ v5 : Int, v5 = (gI es 79 5).toInt → ∀ v6 : Int, v6 = (gA es 83 (k / 4).toNat).toInt → ∀ v7 : Int, v7 = (zI v6 >>> (zI (24 - (8 * (k % 4))) &&& 31)).toInt → ∀ v8 : Int, v8 = (zI v7).toInt8.toInt32.toInt → ∀ es9 : PH, es9 = sA es 82 (v5 + k).toNat (vp_nar .byte (zI v8)) → aW O d 171 kc ks Q (60, [some (.ref 143), some (.int (zI a1)), some (.int (zI a2)), some (.int (zI a3)), some (.int (zI a4)), some (.int (zI a5)), some (.int (zI (k + 1)))], [], es9)) :
    aW O d 171 kc ks Q (60, [some (.ref 143), some (.int (zI a1)), some (.int (zI a2)), some (.int (zI a3)), some (.int (zI a4)), some (.int (zI a5)), some (.int (zI k))], [], es) := by
  refine x0 (r := (62, [some (.ref 143), some (.int (zI a1)), some (.int (zI a2)), some (.int (zI a3)), some (.int (zI a4)), some (.int (zI a5)), some (.int (zI k))], [.int (zI k)], es)) i_171_60 rfl ?_
  refine x0 (r := (64, [some (.ref 143), some (.int (zI a1)), some (.int (zI a2)), some (.int (zI a3)), some (.int (zI a4)), some (.int (zI a5)), some (.int (zI k))], [.int (zI 20), .int (zI k)], es)) i_171_62 (by rfl) ?_
  by_cases c1 : 20 ≤ k
  · refine x_cmpT i_171_64 (by unfold i32 iLO iHI; omega) (by unfold i32 iLO iHI; omega) rfl (by simp only [zC, cR]; omega) ?_
    refine x0 (r := (107, [some (.ref 143), some (.int (zI a1)), some (.int (zI a2)), some (.int (zI a3)), some (.int (zI a4)), some (.int (zI a5)), some (.int (zI k))], [.ref 143], es)) i_171_106 rfl ?_
    refine x0 (r := (108, [some (.ref 143), some (.int (zI a1)), some (.int (zI a2)), some (.int (zI a3)), some (.int (zI a4)), some (.int (zI a5)), some (.int (zI k))], [.ref 143, .ref 143], es)) i_171_107 rfl ?_
    refine x_geti (p := 79) i_171_108 hs_es rfl rfl ?_
    obtain ⟨v2, e_v2⟩ : ∃ z : Int, z = (gI es 79 5).toInt := ⟨_, rfl⟩
    rw [← e_v2]
    have r_v2 : iLO ≤ v2 ∧ v2 ≤ iHI := by rw [e_v2]; exact i32_rng _
    unfold iLO iHI at r_v2
    refine x0 (r := (113, [some (.ref 143), some (.int (zI a1)), some (.int (zI a2)), some (.int (zI a3)), some (.int (zI a4)), some (.int (zI a5)), some (.int (zI k))], [.int (zI 20), .int (zI v2), .ref 143], es)) i_171_111 (by rfl) ?_
    refine x_iadd i_171_113 ?_
    refine x_puti (p := 79) (ty := .int) i_171_114 hs_es rfl rfl rfl (Or.inl rfl) ?_
    obtain ⟨es3, e_es3⟩ : ∃ z : PH, z = sI es 79 5 (.int (zI (v2 + 20))) := ⟨_, rfl⟩
    have hs_es3 : sh es3 := by rw [e_es3]; exact sh_sI hs_es (p := 79) (b := 5) rfl rfl
    rw [← e_es3]
    refine x0 (r := (118, [some (.ref 143), some (.int (zI a1)), some (.int (zI a2)), some (.int (zI a3)), some (.int (zI a4)), some (.int (zI a5)), some (.int (zI k))], [.ref 143], es3)) i_171_117 rfl ?_
    refine x_geti (p := 79) i_171_118 hs_es3 rfl rfl ?_
    obtain ⟨v4, e_v4⟩ : ∃ z : Int, z = (gI es3 79 5).toInt := ⟨_, rfl⟩
    rw [← e_v4]
    have r_v4 : iLO ≤ v4 ∧ v4 ≤ iHI := by rw [e_v4]; exact i32_rng _
    unfold iLO iHI at r_v4
    refine x_ret (v := some (.int (zI v4))) i_171_121 rfl (fun _ => rfl) rfl rfl rfl ?_
    exact K1 c1 v2 e_v2 es3 e_es3 v4 e_v4
  · refine x_cmpF i_171_64 (by unfold i32 iLO iHI; omega) (by unfold i32 iLO iHI; omega) rfl (by simp only [zC, cR]; omega) ?_
    refine x0 (r := (68, [some (.ref 143), some (.int (zI a1)), some (.int (zI a2)), some (.int (zI a3)), some (.int (zI a4)), some (.int (zI a5)), some (.int (zI k))], [.ref 143], es)) i_171_67 rfl ?_
    refine x_getr (p := 79) (k := 146) i_171_68 hs_es rfl rfl ?_
    show aW _ _ _ _ _ _ (71, [some (.ref 143), some (.int (zI a1)), some (.int (zI a2)), some (.int (zI a3)), some (.int (zI a4)), some (.int (zI a5)), some (.int (zI k))], [.ref 146], es)
    refine x0 (r := (72, [some (.ref 143), some (.int (zI a1)), some (.int (zI a2)), some (.int (zI a3)), some (.int (zI a4)), some (.int (zI a5)), some (.int (zI k))], [.ref 143, .ref 146], es)) i_171_71 rfl ?_
    refine x_geti (p := 79) i_171_72 hs_es rfl rfl ?_
    obtain ⟨v5, e_v5⟩ : ∃ z : Int, z = (gI es 79 5).toInt := ⟨_, rfl⟩
    rw [← e_v5]
    have r_v5 : iLO ≤ v5 ∧ v5 ≤ iHI := by rw [e_v5]; exact i32_rng _
    unfold iLO iHI at r_v5
    refine x0 (r := (77, [some (.ref 143), some (.int (zI a1)), some (.int (zI a2)), some (.int (zI a3)), some (.int (zI a4)), some (.int (zI a5)), some (.int (zI k))], [.int (zI k), .int (zI v5), .ref 146], es)) i_171_75 rfl ?_
    refine x_iadd i_171_77 ?_
    refine x0 (r := (79, [some (.ref 143), some (.int (zI a1)), some (.int (zI a2)), some (.int (zI a3)), some (.int (zI a4)), some (.int (zI a5)), some (.int (zI k))], [.ref 143, .int (zI (v5 + k)), .ref 146], es)) i_171_78 rfl ?_
    refine x_getr (p := 79) (k := 147) i_171_79 hs_es rfl rfl ?_
    show aW _ _ _ _ _ _ (82, [some (.ref 143), some (.int (zI a1)), some (.int (zI a2)), some (.int (zI a3)), some (.int (zI a4)), some (.int (zI a5)), some (.int (zI k))], [.ref 147, .int (zI (v5 + k)), .ref 146], es)
    refine x0 (r := (84, [some (.ref 143), some (.int (zI a1)), some (.int (zI a2)), some (.int (zI a3)), some (.int (zI a4)), some (.int (zI a5)), some (.int (zI k))], [.int (zI k), .ref 147, .int (zI (v5 + k)), .ref 146], es)) i_171_82 rfl ?_
    refine x0 (r := (85, [some (.ref 143), some (.int (zI a1)), some (.int (zI a2)), some (.int (zI a3)), some (.int (zI a4)), some (.int (zI a5)), some (.int (zI k))], [.int (zI 4), .int (zI k), .ref 147, .int (zI (v5 + k)), .ref 146], es)) i_171_84 (by rfl) ?_
    refine x_idivn i_171_85 (by omega) (by unfold i32 iLO iHI; omega) (by unfold i32 iLO iHI; omega) (by omega) ?_
    refine x_iald (p := 83) i_171_86 hs_es rfl (by unfold i32 iLO iHI; omega) (by omega) (by omega) ?_
    obtain ⟨v6, e_v6⟩ : ∃ z : Int, z = (gA es 83 (k / 4).toNat).toInt := ⟨_, rfl⟩
    rw [← e_v6]
    have r_v6 : iLO ≤ v6 ∧ v6 ≤ iHI := by rw [e_v6]; exact i32_rng _
    unfold iLO iHI at r_v6
    refine x0 (r := (89, [some (.ref 143), some (.int (zI a1)), some (.int (zI a2)), some (.int (zI a3)), some (.int (zI a4)), some (.int (zI a5)), some (.int (zI k))], [.int (zI 24), .int (zI v6), .int (zI (v5 + k)), .ref 146], es)) i_171_87 (by rfl) ?_
    refine x0 (r := (91, [some (.ref 143), some (.int (zI a1)), some (.int (zI a2)), some (.int (zI a3)), some (.int (zI a4)), some (.int (zI a5)), some (.int (zI k))], [.int (zI 8), .int (zI 24), .int (zI v6), .int (zI (v5 + k)), .ref 146], es)) i_171_89 (by rfl) ?_
    refine x0 (r := (93, [some (.ref 143), some (.int (zI a1)), some (.int (zI a2)), some (.int (zI a3)), some (.int (zI a4)), some (.int (zI a5)), some (.int (zI k))], [.int (zI k), .int (zI 8), .int (zI 24), .int (zI v6), .int (zI (v5 + k)), .ref 146], es)) i_171_91 rfl ?_
    refine x0 (r := (94, [some (.ref 143), some (.int (zI a1)), some (.int (zI a2)), some (.int (zI a3)), some (.int (zI a4)), some (.int (zI a5)), some (.int (zI k))], [.int (zI 4), .int (zI k), .int (zI 8), .int (zI 24), .int (zI v6), .int (zI (v5 + k)), .ref 146], es)) i_171_93 (by rfl) ?_
    refine x_iremn i_171_94 (by omega) (by unfold i32 iLO iHI; omega) (by unfold i32 iLO iHI; omega) (by omega) ?_
    refine x_imul i_171_95 ?_
    refine x_isub i_171_96 ?_
    refine x_op i_171_97 (w := (zI v6 >>> (zI (24 - (8 * (k % 4))) &&& 31))) rfl rfl ?_
    obtain ⟨v7, e_v7⟩ : ∃ z : Int, z = (zI v6 >>> (zI (24 - (8 * (k % 4))) &&& 31)).toInt := ⟨_, rfl⟩
    rw [← e_v7]
    have r_v7 : iLO ≤ v7 ∧ v7 ≤ iHI := by rw [e_v7]; exact i32_rng _
    unfold iLO iHI at r_v7
    refine x_i2b i_171_98 ?_
    obtain ⟨v8, e_v8⟩ : ∃ z : Int, z = (zI v7).toInt8.toInt32.toInt := ⟨_, rfl⟩
    rw [← e_v8]
    have r_v8 : iLO ≤ v8 ∧ v8 ≤ iHI := by rw [e_v8]; exact i32_rng _
    unfold iLO iHI at r_v8
    refine x_bast2 (p := 82) i_171_99 hs_es rfl (by unfold i32 iLO iHI; omega) (by omega) (by omega) ?_
    obtain ⟨es9, e_es9⟩ : ∃ z : PH, z = sA es 82 (v5 + k).toNat (vp_nar .byte (zI v8)) := ⟨_, rfl⟩
    have hs_es9 : sh es9 := by rw [e_es9]; exact sh_sA hs_es
    rw [← e_es9]
    refine x_iinc (x := k) i_171_100 rfl (by show 6 < 7; decide) ?_
    show aW _ _ _ _ _ _ (103, [some (.ref 143), some (.int (zI a1)), some (.int (zI a2)), some (.int (zI a3)), some (.int (zI a4)), some (.int (zI a5)), some (.int (zI (k + 1)))], [], es9)
    refine x0 (r := (60, [some (.ref 143), some (.int (zI a1)), some (.int (zI a2)), some (.int (zI a3)), some (.int (zI a4)), some (.int (zI a5)), some (.int (zI (k + 1)))], [], es9)) i_171_103 rfl ?_
    exact K2 c1 v5 e_v5 v6 e_v6 v7 e_v7 v8 e_v8 es9 e_es9
/-- append: four bytes come behind -/
def apP (w : Int) (es es' : PH) : Prop := sh es' ∧ (gI es' 1 1).toInt = (gI es 1 1).toInt + 4 ∧ (∀ m, m < 4 → gA es' 2 ((gI es 1 1).toInt.toNat + m) = cByte (zI w) m) ∧ ∀ i, (i < (gI es 1 1).toInt.toNat ∨ (gI es 1 1).toInt.toNat + 4 ≤ i) → gA es' 2 i = gA es 2 i
theorem ap_loop {O : pOut} {d kc ks : Nat} {Q : pRes → Prop} {es : PH} {w : Int} (hw : -2147483648 ≤ w ∧ w ≤ 2147483647) (hz : 0 ≤ (gI es 1 1).toInt ∧ (gI es 1 1).toInt ≤ 396) (K : ∀ es', apP w es es' → Q (.inl none, es', kc, ks)) : ∀ (N j : Nat) (es1 : PH), j + N = 4 → sh es1 → (gI es1 1 1).toInt = (gI es 1 1).toInt + (j : Int) → (∀ m, m < j → gA es1 2 ((gI es 1 1).toInt.toNat + m) = cByte (zI w) m) → (∀ i, (i < (gI es 1 1).toInt.toNat ∨ (gI es 1 1).toInt.toNat + 4 ≤ i) → gA es1 2 i = gA es 2 i) → aW O (d + 1) 13 kc ks Q (3, [some (.ref 65), some (.int (zI w)), some (.int (zI (24 - 8 * (j : Int))))], [], es1) := by
  intro N
  induction N with
  | zero =>
    intro j es1 hj hs hsz hb ho
    obtain rfl : j = 4 := by omega
    refine s_ap3 (d := d) hs hw (by omega) ⟨by omega, fun _ => by omega⟩ (fun c1 => K es1 ⟨hs, hsz, hb, ho⟩) (fun c1 v2 e2 v3 e3 v4 e4 es5 p5 v6 e6 es7 e7 => ?_)
    exfalso; omega
  | succ N ih =>
    intro j es1 hj hs hsz hb ho
    refine s_ap3 (d := d) hs hw (by omega) ⟨by omega, fun _ => by omega⟩ (fun c1 => ?_) (fun c1 v2 e2 v3 e3 v4 e4 es5 p5 v6 e6 es7 e7 => ?_)
    · exfalso; omega
    · obtain ⟨hs5, e5⟩ := p5
      have hz4 : zI v4 = cByte (zI w) j := by rw [e4, zI_id, e3, zI_id]; rfl
      have h6 : v6 = (gI es 1 1).toInt + (j : Int) := by rw [e6, e5, gI_sA]; exact hsz
      have hs7 : sh es7 := by rw [e7]; exact sh_sI hs5 (p := 1) (b := 1) rfl rfl
      have hq : (24 - 8 * (j : Int)) + (-8) = 24 - 8 * ((j + 1 : Nat) : Int) := by omega
      have h2 : v2.toNat = (gI es 1 1).toInt.toNat + j := by omega
      rw [hq]
      refine ih (j + 1) es7 (by omega) hs7 ?_ (fun m hm => ?_) (fun i hi => ?_)
      · rw [e7, gI_sI hs5 (p := 1) (b := 1) rfl (by decide), zI_toInt (by unfold i32 iLO iHI; omega)]
        omega
      · rw [e7, gA_sI, e5, gA_sA hs (p := 2) (t := 0) (n := 400) rfl (by decide)]
        unfold upd
        by_cases hmj : m = j
        · rw [if_pos (by omega), hz4, hmj]
        · rw [if_neg (by omega)]
          exact hb m (by omega)
      · rw [e7, gA_sI, e5, gA_sA hs (p := 2) (t := 0) (n := 400) rfl (by decide)]
        unfold upd
        rw [if_neg (by omega)]
        exact ho i hi
theorem ap_spec {O : pOut} {d kc ks : Nat} {Q : pRes → Prop} {es : PH} {w : Int} (hs : sh es) (hw : -2147483648 ≤ w ∧ w ≤ 2147483647) (hz : 0 ≤ (gI es 1 1).toInt ∧ (gI es 1 1).toInt ≤ 396) (K : ∀ es', apP w es es' → Q (.inl none, es', kc, ks)) : aW O (d + 1) 13 kc ks Q (0, [some (.ref 65), some (.int (zI w)), none], [], es) := by
  refine s_ap0 hs ?_
  exact ap_loop hw hz K 4 0 es (by omega) hs (by omega) (fun m hm => by omega) (fun i hi => rfl)
def wsel (a1 a2 a3 a4 a5 : Int) (i : Nat) : Int := [a1, a2, a3, a4, a5].getD i 0
/-- so many words have come -/
def fdP (w : Nat → Int) (es : PH) (n : Nat) (es' : PH) : Prop := sh es' ∧ (gI es' 1 1).toInt = (gI es 1 1).toInt + 4 * (n : Int) ∧ (∀ j, j < 4 * n → gA es' 2 ((gI es 1 1).toInt.toNat + j) = cByte (zI (w (j / 4))) (j % 4)) ∧ ∀ i, (i < (gI es 1 1).toInt.toNat ∨ (gI es 1 1).toInt.toNat + 4 * n ≤ i) → gA es' 2 i = gA es 2 i
theorem fd_step {w : Nat → Int} {es es1 es2 : PH} {n : Nat} (h0 : 0 ≤ (gI es 1 1).toInt) (h1 : fdP w es n es1) (h2 : apP (w n) es1 es2) : fdP w es (n + 1) es2 := by
  obtain ⟨a1, a2, a3, a4⟩ := h1
  obtain ⟨b1, b2, b3, b4⟩ := h2
  have ht : (gI es1 1 1).toInt.toNat = (gI es 1 1).toInt.toNat + 4 * n := by omega
  refine ⟨b1, by omega, fun j hj => ?_, fun i hi => ?_⟩
  · by_cases hjn : j < 4 * n
    · rw [b4 _ (by omega)]; exact a3 j hjn
    · have h9 := b3 (j - 4 * n) (by omega)
      rw [ht, show (gI es 1 1).toInt.toNat + 4 * n + (j - 4 * n) = (gI es 1 1).toInt.toNat + j by omega] at h9
      rw [h9, show j / 4 = n by omega, show j % 4 = j - 4 * n by omega]
  · rw [b4 i (by omega)]; exact a4 i (by omega)
def xfP (w : Nat → Int) (es : PH) (r : Option Value ⊕ Nat) (es1 : PH) : Prop := sh es1 ∧ ((380 < (gI es 1 1).toInt ∧ r = .inl (some (.int (zI (-1)))) ∧ es1 = es) ∨ ((gI es 1 1).toInt ≤ 380 ∧ r = .inl (some (.int (zI ((gI es 1 1).toInt + 20)))) ∧ fdP w es 5 es1))
theorem fn_xfeed {O : pOut} {d : Nat} {es : PH} {a1 a2 a3 a4 a5 : Int} (h1 : i32 a1) (h2 : i32 a2) (h3 : i32 a3) (h4 : i32 a4) (h5 : i32 a5) (hs : sh es) (hz : 0 ≤ (gI es 1 1).toInt ∧ (gI es 1 1).toInt ≤ 400) : aW O (d + 2) 11 0 0 (fun o => xfP (wsel a1 a2 a3 a4 a5) es o.1 o.2.1) (0, [some (.ref 64), some (.int (zI a1)), some (.int (zI a2)), some (.int (zI a3)), some (.int (zI a4)), some (.int (zI a5))], [], es) := by
  refine s_xf0 (d := d + 1) hs hz (fun v1 e1 c1 => ?_) (fun v1 e1 c1 => ?_)
  · exact ⟨hs, Or.inl ⟨by omega, rfl, rfl⟩⟩
  have f0 : fdP (wsel a1 a2 a3 a4 a5) es 0 es := ⟨hs, by omega, fun j hj => by omega, fun i hi => rfl⟩
  refine s_xf14 hs ?_
  refine x_call (vs := [.ref 65, .int (zI a1)]) (rs := []) i_11_19 rfl (fun _ => rfl) rfl rfl rfl rfl rfl (pCall_v (p := 1) hs rfl rfl rfl rfl rfl (by decide) rfl rfl rfl rfl rfl) ?_
  show aW _ _ _ _ _ _ (0, [some (.ref 65), some (.int (zI a1)), none], [], es)
  refine ap_spec (d := d) hs h1 (by have := f0.2.1; omega) (fun es1 p1 => ?_)
  have f1 : fdP (wsel a1 a2 a3 a4 a5) es 1 es1 := fd_step hz.1 f0 p1
  refine aK_nil ?_
  show aW _ _ _ _ _ _ (22, [some (.ref 64), some (.int (zI a1)), some (.int (zI a2)), some (.int (zI a3)), some (.int (zI a4)), some (.int (zI a5))], [], es1)
  refine s_xf22 f1.1 ?_
  refine x_call (vs := [.ref 65, .int (zI a2)]) (rs := []) i_11_27 rfl (fun _ => rfl) rfl rfl rfl rfl rfl (pCall_v (p := 1) f1.1 rfl rfl rfl rfl rfl (by decide) rfl rfl rfl rfl rfl) ?_
  show aW _ _ _ _ _ _ (0, [some (.ref 65), some (.int (zI a2)), none], [], es1)
  refine ap_spec (d := d) f1.1 h2 (by have := f1.2.1; omega) (fun es2 p2 => ?_)
  have f2 : fdP (wsel a1 a2 a3 a4 a5) es 2 es2 := fd_step hz.1 f1 p2
  refine aK_nil ?_
  show aW _ _ _ _ _ _ (30, [some (.ref 64), some (.int (zI a1)), some (.int (zI a2)), some (.int (zI a3)), some (.int (zI a4)), some (.int (zI a5))], [], es2)
  refine s_xf30 f2.1 ?_
  refine x_call (vs := [.ref 65, .int (zI a3)]) (rs := []) i_11_35 rfl (fun _ => rfl) rfl rfl rfl rfl rfl (pCall_v (p := 1) f2.1 rfl rfl rfl rfl rfl (by decide) rfl rfl rfl rfl rfl) ?_
  show aW _ _ _ _ _ _ (0, [some (.ref 65), some (.int (zI a3)), none], [], es2)
  refine ap_spec (d := d) f2.1 h3 (by have := f2.2.1; omega) (fun es3 p3 => ?_)
  have f3 : fdP (wsel a1 a2 a3 a4 a5) es 3 es3 := fd_step hz.1 f2 p3
  refine aK_nil ?_
  show aW _ _ _ _ _ _ (38, [some (.ref 64), some (.int (zI a1)), some (.int (zI a2)), some (.int (zI a3)), some (.int (zI a4)), some (.int (zI a5))], [], es3)
  refine s_xf38 f3.1 ?_
  refine x_call (vs := [.ref 65, .int (zI a4)]) (rs := []) i_11_44 rfl (fun _ => rfl) rfl rfl rfl rfl rfl (pCall_v (p := 1) f3.1 rfl rfl rfl rfl rfl (by decide) rfl rfl rfl rfl rfl) ?_
  show aW _ _ _ _ _ _ (0, [some (.ref 65), some (.int (zI a4)), none], [], es3)
  refine ap_spec (d := d) f3.1 h4 (by have := f3.2.1; omega) (fun es4 p4 => ?_)
  have f4 : fdP (wsel a1 a2 a3 a4 a5) es 4 es4 := fd_step hz.1 f3 p4
  refine aK_nil ?_
  show aW _ _ _ _ _ _ (47, [some (.ref 64), some (.int (zI a1)), some (.int (zI a2)), some (.int (zI a3)), some (.int (zI a4)), some (.int (zI a5))], [], es4)
  refine s_xf47 f4.1 ?_
  refine x_call (vs := [.ref 65, .int (zI a5)]) (rs := []) i_11_53 rfl (fun _ => rfl) rfl rfl rfl rfl rfl (pCall_v (p := 1) f4.1 rfl rfl rfl rfl rfl (by decide) rfl rfl rfl rfl rfl) ?_
  show aW _ _ _ _ _ _ (0, [some (.ref 65), some (.int (zI a5)), none], [], es4)
  refine ap_spec (d := d) f4.1 h5 (by have := f4.2.1; omega) (fun es5 p5 => ?_)
  have f5 : fdP (wsel a1 a2 a3 a4 a5) es 5 es5 := fd_step hz.1 f4 p5
  refine aK_nil ?_
  show aW _ _ _ _ _ _ (56, [some (.ref 64), some (.int (zI a1)), some (.int (zI a2)), some (.int (zI a3)), some (.int (zI a4)), some (.int (zI a5))], [], es5)
  refine s_xf56 f5.1 (fun v9 e9 => ?_)
  have h9 : v9 = (gI es 1 1).toInt + 20 := by rw [e9]; have := f5.2.1; omega
  exact ⟨f5.1, Or.inr ⟨by omega, by rw [h9], f5⟩⟩
/-! the reference -/
def mfP (w : Nat → Int) (es : PH) (r : Option Value ⊕ Nat) (es1 : PH) : Prop := sh es1 ∧ ((380 < (gI es 79 5).toInt ∧ r = .inl (some (.int (zI (-1)))) ∧ gA es1 82 = gA es 82 ∧ gI es1 79 5 = gI es 79 5) ∨ ((gI es 79 5).toInt ≤ 380 ∧ r = .inl (some (.int (zI ((gI es 79 5).toInt + 20)))) ∧ (gI es1 79 5).toInt = (gI es 79 5).toInt + 20 ∧ (∀ j, j < 20 → gA es1 82 ((gI es 79 5).toInt.toNat + j) = rByte (zI (w (j / 4))) (j % 4)) ∧ ∀ i, (i < (gI es 79 5).toInt.toNat ∨ (gI es 79 5).toInt.toNat + 20 ≤ i) → gA es1 82 i = gA es 82 i))
theorem mf_loop {O : pOut} {d kc ks : Nat} {Q : pRes → Prop} {es : PH} {a1 a2 a3 a4 a5 : Int} {w : Nat → Int} (hz : 0 ≤ (gI es 79 5).toInt ∧ (gI es 79 5).toInt ≤ 380) (K : ∀ r es', mfP w es r es' → Q (r, es', kc, ks)) : ∀ (N k : Nat) (es1 : PH), k + N = 20 → sh es1 → gI es1 79 5 = gI es 79 5 → (∀ i, i < 5 → gA es1 83 i = zI (w i)) → (∀ j, j < k → gA es1 82 ((gI es 79 5).toInt.toNat + j) = rByte (zI (w (j / 4))) (j % 4)) → (∀ i, (i < (gI es 79 5).toInt.toNat ∨ (gI es 79 5).toInt.toNat + 20 ≤ i) → gA es1 82 i = gA es 82 i) → aW O d 171 kc ks Q (60, [some (.ref 143), some (.int (zI a1)), some (.int (zI a2)), some (.int (zI a3)), some (.int (zI a4)), some (.int (zI a5)), some (.int (zI (k : Int)))], [], es1) := by
  intro N
  induction N with
  | zero =>
    intro k es1 hk hs ht hF hb ho
    refine s_mf60 hs (by omega) (by rw [ht]; exact hz) (fun c1 v2 e2 es3 e3 v4 e4 => ?_) (fun c1 v5 e5 v6 e6 v7 e7 v8 e8 es9 e9 => ?_)
    · have h2 : v2 = (gI es 79 5).toInt := by rw [e2, ht]
      have hs3 : sh es3 := by rw [e3]; exact sh_sI hs (p := 79) (b := 5) rfl rfl
      have h3 : (gI es3 79 5).toInt = (gI es 79 5).toInt + 20 := by
        rw [e3, gI_sI hs (p := 79) (b := 5) rfl (by decide), zI_toInt (by unfold i32 iLO iHI; omega), h2]
      obtain rfl : k = 20 := by omega
      refine K _ es3 ⟨hs3, Or.inr ⟨hz.2, by rw [e4, h3], h3, fun j hj => ?_, fun i hi => ?_⟩⟩
      · rw [e3, gA_sI]; exact hb j hj
      · rw [e3, gA_sI]; exact ho i hi
    · exfalso; omega
  | succ N ih =>
    intro k es1 hk hs ht hF hb ho
    refine s_mf60 hs (by omega) (by rw [ht]; exact hz) (fun c1 v2 e2 es3 e3 v4 e4 => ?_) (fun c1 v5 e5 v6 e6 v7 e7 v8 e8 es9 e9 => ?_)
    · exfalso; omega
    · have h5 : v5 = (gI es 79 5).toInt := by rw [e5, ht]
      have h6 : zI v6 = zI (w (k / 4)) := by
        rw [e6, zI_id, show ((k : Int) / 4).toNat = k / 4 by omega]
        exact hF _ (by omega)
      have h8 : vp_nar .byte (zI v8) = rByte (zI (w (k / 4))) (k % 4) := by
        have h7 : zI v7 = zI (w (k / 4)) >>> (zI (24 - 8 * ((k % 4 : Nat) : Int)) &&& 31) := by
          rw [e7, zI_id, h6, show (24 - (8 * ((k : Int) % 4))) = 24 - 8 * ((k % 4 : Nat) : Int) by omega]
        rw [e8, zI_id, h7, pk_vb]
        rfl
      have hs9 : sh es9 := by rw [e9]; exact sh_sA hs
      have hix : (v5 + (k : Int)).toNat = (gI es 79 5).toInt.toNat + k := by omega
      have hk1 : ((k : Int) + 1) = ((k + 1 : Nat) : Int) := by omega
      rw [hk1]
      refine ih (k + 1) es9 (by omega) hs9 (by rw [e9, gI_sA]; exact ht) (fun i hi => ?_) (fun j hj => ?_) (fun i hi => ?_)
      · rw [e9, gA_sA_ne (by decide)]; exact hF i hi
      · rw [e9, gA_sA hs (p := 82) (t := 2) (n := 400) rfl (by decide), hix]
        unfold upd
        by_cases hjk : j = k
        · rw [if_pos (by omega), h8, hjk]
        · rw [if_neg (by omega)]; exact hb j (by omega)
      · rw [e9, gA_sA hs (p := 82) (t := 2) (n := 400) rfl (by decide), hix]
        unfold upd
        rw [if_neg (by omega)]
        exact ho i hi
theorem fn_mfeed {O : pOut} {d : Nat} {es : PH} {a1 a2 a3 a4 a5 : Int} (hs : sh es) (hz : 0 ≤ (gI es 79 5).toInt ∧ (gI es 79 5).toInt ≤ 400) : aW O d 171 0 0 (fun o => mfP (wsel a1 a2 a3 a4 a5) es o.1 o.2.1) (0, [some (.ref 143), some (.int (zI a1)), some (.int (zI a2)), some (.int (zI a3)), some (.int (zI a4)), some (.int (zI a5)), none], [], es) := by
  refine s_mf0 hs (fun es1 e1 => ?_)
  have hs1 : sh es1 := by rw [e1]; exact sh_sI hs (p := 79) (b := 0) rfl rfl
  have hz1 : gI es1 79 5 = gI es 79 5 := by rw [e1, gI_sI_ne (Or.inr (by decide))]
  refine s_mf5 hs1 (by rw [hz1]; exact hz) (fun v2 e2 c3 es4 e4 es5 e5 es6 e6 es7 e7 es8 e8 => ?_) (fun v2 e2 c3 => ?_)
  · have hv : v2 = (gI es 79 5).toInt := by rw [e2, hz1]
    have hs4 : sh es4 := by rw [e4]; exact sh_sA hs1
    have hs5 : sh es5 := by rw [e5]; exact sh_sA hs4
    have hs6 : sh es6 := by rw [e6]; exact sh_sA hs5
    have hs7 : sh es7 := by rw [e7]; exact sh_sA hs6
    have hs8 : sh es8 := by rw [e8]; exact sh_sA hs7
    have ht : gI es8 79 5 = gI es 79 5 := by rw [e8, gI_sA, e7, gI_sA, e6, gI_sA, e5, gI_sA, e4, gI_sA, e1, gI_sI_ne (Or.inr (by decide))]
    have h82 : gA es8 82 = gA es 82 := by rw [e8, gA_sA_ne (by decide), e7, gA_sA_ne (by decide), e6, gA_sA_ne (by decide), e5, gA_sA_ne (by decide), e4, gA_sA_ne (by decide), e1, gA_sI]
    refine mf_loop (w := wsel a1 a2 a3 a4 a5) ⟨hz.1, by omega⟩ (fun r es' h => h) 20 0 es8 (by omega) hs8 ht (fun i hi => ?_) (fun j hj => by omega) (fun i _ => by rw [h82])
    rw [e8, gA_sA hs7 (p := 83) (t := 0) (n := 5) rfl (by decide), e7, gA_sA hs6 (p := 83) (t := 0) (n := 5) rfl (by decide), e6, gA_sA hs5 (p := 83) (t := 0) (n := 5) rfl (by decide), e5, gA_sA hs4 (p := 83) (t := 0) (n := 5) rfl (by decide), e4, gA_sA hs1 (p := 83) (t := 0) (n := 5) rfl (by decide)]
    obtain rfl | rfl | rfl | rfl | rfl : i = 0 ∨ i = 1 ∨ i = 2 ∨ i = 3 ∨ i = 4 := by omega
    all_goals rfl
  · have hv : v2 = (gI es 79 5).toInt := by rw [e2, hz1]
    exact ⟨hs1, Or.inl ⟨by omega, rfl, by show gA es1 82 = _; rw [e1, gA_sI], by show gI es1 79 5 = _; rw [e1, gI_sI_ne (Or.inr (by decide))]⟩⟩
theorem byte_zU (x : Int32) (m : Nat) (hm : m < 4) : (cByte x m).toInt = zU8 (rByte x m).toInt := by
  rw [byte_eq x m hm, mask255]
  have e : (rByte x m).toInt = ((x >>> (zI (24 - 8 * (m : Int)) &&& 31)).toInt8).toInt := Int8.toInt_toInt32 _
  have h1 := Int8.le_toInt (x >>> (zI (24 - 8 * (m : Int)) &&& 31)).toInt8
  have h2 := Int8.toInt_lt (x >>> (zI (24 - 8 * (m : Int)) &&& 31)).toInt8
  rw [← e] at h1 h2
  unfold zU8
  split <;> omega
theorem fn_xmeas {xs : Nat → Int32} {n d : Nat} {es : PH} (hn : n ≤ 3584) (hd : 26 ≤ d) (hT : hOK tT es) (hI : gInv es) : aW (pO0 xs n) d 278 0 0 (fun o => (gI o.2.1 1 1).toInt = 0 ∧ ∃ x : Int32, o.1 = .inl (some (.int x))) (0, [some (.ref 64), some (.ref 171), none], [], es) := by
  have h := cp_of (c := kc_421) (ρ := []) (vs := [.ref 64, .ref 171]) (d := d) (I := gInv) (es := es) (kv_421 (aWd_I (xs := xs) hn)) rfl hd gE_nil' rfl (gS_consr (gS_consr gS_nil')) hT hI rfl
  refine aW_mono (Nat.le_refl _) (fun o ho => ?_) h
  obtain ⟨-, -, -, out, ho, τ, -, -, hF, -, -, hr⟩ := ho
  rcases List.mem_cons.mp ho with rfl | ho
  · obtain ⟨v, hv, x, rfl, -⟩ := hr
    exact ⟨fact_I (hF _ List.mem_cons_self), x, hv⟩
  · cases ho
theorem fn_mmeas {xs : Nat → Int32} {n d : Nat} {es : PH} (hn : n ≤ 3584) (hd : 40 ≤ d) (hT : hOK tT es) (hI : gInv es) : aW (pO0 xs n) d 195 0 0 (fun o => (gI o.2.1 79 5).toInt = 0 ∧ ∃ x : Int32, o.1 = .inl (some (.int x))) (0, [some (.ref 143), none, none], [], es) := by
  have h := cp_of (c := kc_415) (ρ := []) (vs := [.ref 143]) (d := d) (I := gInv) (es := es) (hm_measureT (words_ok (aWd_T (xs := xs) hn))) rfl hd gE_nil' rfl (gS_consr gS_nil') hT hI rfl
  refine aW_mono (Nat.le_refl _) (fun o ho => ?_) h
  obtain ⟨-, -, -, out, ho, τ, -, -, hF, -, -, hr⟩ := ho
  rcases List.mem_cons.mp ho with rfl | ho
  · obtain ⟨v, hv, x, rfl, -⟩ := hr
    exact ⟨fact_I (hF _ List.mem_cons_self), x, hv⟩
  · cases ho
