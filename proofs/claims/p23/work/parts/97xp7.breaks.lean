/-! breaks of the class, told by the pure search -/
theorem i_19_0 : iRow 19 0 = some (.aload_n 0, 0, 0, 0, none) := rfl
theorem i_19_1 : iRow 19 1 = some (.iconst 0, 0, 0, 0, none) := rfl
theorem i_19_2 : iRow 19 2 = some (.putfield 18, 60, 5, 0, none) := rfl
theorem i_19_5 : iRow 19 5 = some (.aload_n 0, 0, 0, 0, none) := rfl
theorem i_19_6 : iRow 19 6 = some (.aload_n 1, 0, 0, 0, none) := rfl
theorem i_19_7 : iRow 19 7 = some (.getfield 22, 29, 1, 5, none) := rfl
theorem i_19_10 : iRow 19 10 = some (.putfield 27, 62, 5, 1, none) := rfl
theorem i_19_13 : iRow 19 13 = some (.aload_n 0, 0, 0, 0, none) := rfl
theorem i_19_14 : iRow 19 14 = some (.iconst 1, 0, 0, 0, none) := rfl
theorem i_19_15 : iRow 19 15 = some (.putfield 30, 64, 5, 2, none) := rfl
theorem i_19_18 : iRow 19 18 = some (.aload_n 1, 0, 0, 0, none) := rfl
theorem i_19_19 : iRow 19 19 = some (.getfield 34, 34, 1, 6, none) := rfl
theorem i_19_22 : iRow 19 22 = some (.aload_n 0, 0, 0, 0, none) := rfl
theorem i_19_23 : iRow 19 23 = some (.getfield 9, 65, 5, 3, none) := rfl
theorem i_19_26 : iRow 19 26 = some (.invokestatic 35, 6, 20, 3, none) := rfl
theorem i_19_29 : iRow 19 29 = some (.aload_n 1, 0, 0, 0, none) := rfl
theorem i_19_30 : iRow 19 30 = some (.getfield 39, 39, 1, 9, none) := rfl
theorem i_19_33 : iRow 19 33 = some (.aload_n 0, 0, 0, 0, none) := rfl
theorem i_19_34 : iRow 19 34 = some (.getfield 15, 68, 5, 4, none) := rfl
theorem i_19_37 : iRow 19 37 = some (.invokestatic 35, 6, 20, 3, none) := rfl
theorem i_19_40 : iRow 19 40 = some (.return_, 0, 0, 0, none) := rfl
theorem i_23_0 : iRow 23 0 = some (.aload_n 0, 0, 0, 0, none) := rfl
theorem i_23_1 : iRow 23 1 = some (.iload_n 2, 0, 0, 0, none) := rfl
theorem i_23_2 : iRow 23 2 = some (.putfield 111, 124, 7, 15, none) := rfl
theorem i_23_5 : iRow 23 5 = some (.aload_n 0, 0, 0, 0, none) := rfl
theorem i_23_6 : iRow 23 6 = some (.iconst 0, 0, 0, 0, none) := rfl
theorem i_23_7 : iRow 23 7 = some (.putfield 92, 127, 7, 18, none) := rfl
theorem i_23_10 : iRow 23 10 = some (.aload_n 0, 0, 0, 0, none) := rfl
theorem i_23_11 : iRow 23 11 = some (.getfield 54, 98, 7, 1, none) := rfl
theorem i_23_14 : iRow 23 14 = some (.invokevirtual 114, 31, 24, 1, none) := rfl
theorem i_23_17 : iRow 23 17 = some (.aload_n 0, 0, 0, 0, none) := rfl
theorem i_23_18 : iRow 23 18 = some (.getfield 63, 101, 7, 3, none) := rfl
theorem i_23_21 : iRow 23 21 = some (.iload_n 1, 0, 0, 0, none) := rfl
theorem i_23_22 : iRow 23 22 = some (.invokevirtual 117, 32, 25, 1, none) := rfl
theorem i_23_25 : iRow 23 25 = some (.return_, 0, 0, 0, none) := rfl
theorem i_25_0 : iRow 25 0 = some (.aload_n 0, 0, 0, 0, none) := rfl
theorem i_25_1 : iRow 25 1 = some (.iload_n 1, 0, 0, 0, none) := rfl
theorem i_25_2 : iRow 25 2 = some (.putfield 32, 91, 4, 2, none) := rfl
theorem i_25_5 : iRow 25 5 = some (.iconst 0, 0, 0, 0, none) := rfl
theorem i_25_6 : iRow 25 6 = some (.istore_n 2, 0, 0, 0, none) := rfl
theorem i_25_7 : iRow 25 7 = some (.iload_n 2, 0, 0, 0, none) := rfl
theorem i_25_8 : iRow 25 8 = some (.iconst 3, 0, 0, 0, none) := rfl
theorem i_25_9 : iRow 25 9 = some (.if_icmp .ge 21, 0, 0, 0, none) := rfl
theorem i_25_12 : iRow 25 12 = some (.aload_n 0, 0, 0, 0, none) := rfl
theorem i_25_13 : iRow 25 13 = some (.iload_n 2, 0, 0, 0, none) := rfl
theorem i_25_14 : iRow 25 14 = some (.invokevirtual 36, 33, 26, 1, none) := rfl
theorem i_25_17 : iRow 25 17 = some (.aload_n 0, 0, 0, 0, none) := rfl
theorem i_25_18 : iRow 25 18 = some (.iload_n 2, 0, 0, 0, none) := rfl
theorem i_25_19 : iRow 25 19 = some (.iconst 0, 0, 0, 0, none) := rfl
theorem i_25_20 : iRow 25 20 = some (.iconst 0, 0, 0, 0, none) := rfl
theorem i_25_21 : iRow 25 21 = some (.invokevirtual 40, 34, 27, 1, none) := rfl
theorem i_25_24 : iRow 25 24 = some (.iinc 2 1, 0, 0, 0, none) := rfl
theorem i_25_27 : iRow 25 27 = some (.goto (-20), 0, 0, 0, none) := rfl
theorem i_25_30 : iRow 25 30 = some (.return_, 0, 0, 0, none) := rfl
theorem i_139_0 : iRow 139 0 = some (.iconst 0, 0, 0, 0, none) := rfl
theorem i_139_1 : iRow 139 1 = some (.istore_n 2, 0, 0, 0, none) := rfl
theorem i_139_2 : iRow 139 2 = some (.aload_n 0, 0, 0, 0, none) := rfl
theorem i_139_3 : iRow 139 3 = some (.arraylength, 0, 0, 0, none) := rfl
theorem i_139_4 : iRow 139 4 = some (.istore_n 3, 0, 0, 0, none) := rfl
theorem i_139_5 : iRow 139 5 = some (.iload_n 2, 0, 0, 0, none) := rfl
theorem i_139_6 : iRow 139 6 = some (.iload_n 3, 0, 0, 0, none) := rfl
theorem i_139_7 : iRow 139 7 = some (.if_icmp .ge 13, 0, 0, 0, none) := rfl
theorem i_139_10 : iRow 139 10 = some (.aload_n 0, 0, 0, 0, none) := rfl
theorem i_139_11 : iRow 139 11 = some (.iload_n 2, 0, 0, 0, none) := rfl
theorem i_139_12 : iRow 139 12 = some (.iload_n 1, 0, 0, 0, none) := rfl
theorem i_139_13 : iRow 139 13 = some (.iastore, 0, 0, 0, none) := rfl
theorem i_139_14 : iRow 139 14 = some (.iinc 2 1, 0, 0, 0, none) := rfl
theorem i_139_17 : iRow 139 17 = some (.goto (-12), 0, 0, 0, none) := rfl
theorem i_139_20 : iRow 139 20 = some (.return_, 0, 0, 0, none) := rfl
theorem i_147_0 : iRow 147 0 = some (.aload_n 0, 0, 0, 0, (some (Jvm.ClassFile.FieldType.int))) := rfl
theorem i_147_1 : iRow 147 1 = some (.iload_n 1, 0, 0, 0, (some (Jvm.ClassFile.FieldType.int))) := rfl
theorem i_147_2 : iRow 147 2 = some (.invokevirtual 172, 155, 116, 1, (some (Jvm.ClassFile.FieldType.int))) := rfl
theorem i_147_5 : iRow 147 5 = some (.ifCond .ne 14, 0, 0, 0, (some (Jvm.ClassFile.FieldType.int))) := rfl
theorem i_147_8 : iRow 147 8 = some (.new 125, 18, 2, 1, (some (Jvm.ClassFile.FieldType.int))) := rfl
theorem i_147_19 : iRow 147 19 = some (.aload_n 0, 0, 0, 0, (some (Jvm.ClassFile.FieldType.int))) := rfl
theorem i_147_20 : iRow 147 20 = some (.getfield 51, 143, 11, 6, (some (Jvm.ClassFile.FieldType.int))) := rfl
theorem i_147_23 : iRow 147 23 = some (.getfield 289, 100, 7, 2, (some (Jvm.ClassFile.FieldType.int))) := rfl
theorem i_147_26 : iRow 147 26 = some (.aload_n 0, 0, 0, 0, (some (Jvm.ClassFile.FieldType.int))) := rfl
theorem i_147_27 : iRow 147 27 = some (.getfield 28, 139, 11, 2, (some (Jvm.ClassFile.FieldType.int))) := rfl
theorem i_147_30 : iRow 147 30 = some (.iload_n 1, 0, 0, 0, (some (Jvm.ClassFile.FieldType.int))) := rfl
theorem i_147_31 : iRow 147 31 = some (.invokevirtual 293, 221, 148, 1, (some (Jvm.ClassFile.FieldType.int))) := rfl
theorem i_147_34 : iRow 147 34 = some (.aload_n 0, 0, 0, 0, (some (Jvm.ClassFile.FieldType.int))) := rfl
theorem i_147_35 : iRow 147 35 = some (.getfield 51, 143, 11, 6, (some (Jvm.ClassFile.FieldType.int))) := rfl
theorem i_147_38 : iRow 147 38 = some (.getfield 289, 100, 7, 2, (some (Jvm.ClassFile.FieldType.int))) := rfl
theorem i_147_41 : iRow 147 41 = some (.invokevirtual 299, 223, 149, 1, (some (Jvm.ClassFile.FieldType.int))) := rfl
theorem i_147_44 : iRow 147 44 = some (.aload_n 0, 0, 0, 0, (some (Jvm.ClassFile.FieldType.int))) := rfl
theorem i_147_45 : iRow 147 45 = some (.getfield 51, 143, 11, 6, (some (Jvm.ClassFile.FieldType.int))) := rfl
theorem i_147_48 : iRow 147 48 = some (.invokevirtual 302, 225, 150, 1, (some (Jvm.ClassFile.FieldType.int))) := rfl
theorem i_147_51 : iRow 147 51 = some (.istore_n 2, 0, 0, 0, (some (Jvm.ClassFile.FieldType.int))) := rfl
theorem i_147_52 : iRow 147 52 = some (.iload_n 2, 0, 0, 0, (some (Jvm.ClassFile.FieldType.int))) := rfl
theorem i_147_53 : iRow 147 53 = some (.ifCond .lt 20, 0, 0, 0, (some (Jvm.ClassFile.FieldType.int))) := rfl
theorem i_147_56 : iRow 147 56 = some (.iload_n 2, 0, 0, 0, (some (Jvm.ClassFile.FieldType.int))) := rfl
theorem i_147_57 : iRow 147 57 = some (.aload_n 0, 0, 0, 0, (some (Jvm.ClassFile.FieldType.int))) := rfl
theorem i_147_58 : iRow 147 58 = some (.getfield 28, 139, 11, 2, (some (Jvm.ClassFile.FieldType.int))) := rfl
theorem i_147_61 : iRow 147 61 = some (.iload_n 1, 0, 0, 0, (some (Jvm.ClassFile.FieldType.int))) := rfl
theorem i_147_62 : iRow 147 62 = some (.invokevirtual 186, 157, 35, 1, (some (Jvm.ClassFile.FieldType.int))) := rfl
theorem i_147_65 : iRow 147 65 = some (.if_icmp .lt 8, 0, 0, 0, (some (Jvm.ClassFile.FieldType.int))) := rfl
theorem i_147_68 : iRow 147 68 = some (.bipush (-3), 0, 0, 0, (some (Jvm.ClassFile.FieldType.int))) := rfl
theorem i_147_70 : iRow 147 70 = some (.goto 4, 0, 0, 0, (some (Jvm.ClassFile.FieldType.int))) := rfl
theorem i_147_73 : iRow 147 73 = some (.iload_n 2, 0, 0, 0, (some (Jvm.ClassFile.FieldType.int))) := rfl
theorem i_147_74 : iRow 147 74 = some (.ireturn, 0, 0, 0, (some (Jvm.ClassFile.FieldType.int))) := rfl
theorem i_148_0 : iRow 148 0 = some (.aload_n 0, 0, 0, 0, none) := rfl
theorem i_148_1 : iRow 148 1 = some (.aload_n 1, 0, 0, 0, none) := rfl
theorem i_148_2 : iRow 148 2 = some (.invokevirtual 40, 222, 19, 1, none) := rfl
theorem i_148_5 : iRow 148 5 = some (.aload_n 0, 0, 0, 0, none) := rfl
theorem i_148_6 : iRow 148 6 = some (.iload_n 2, 0, 0, 0, none) := rfl
theorem i_148_7 : iRow 148 7 = some (.putfield 18, 60, 5, 0, none) := rfl
theorem i_148_10 : iRow 148 10 = some (.aload_n 0, 0, 0, 0, none) := rfl
theorem i_148_11 : iRow 148 11 = some (.iload_n 2, 0, 0, 0, none) := rfl
theorem i_148_12 : iRow 148 12 = some (.iconst 1, 0, 0, 0, none) := rfl
theorem i_148_13 : iRow 148 13 = some (.iadd, 0, 0, 0, none) := rfl
theorem i_148_14 : iRow 148 14 = some (.putfield 27, 62, 5, 1, none) := rfl
theorem i_148_17 : iRow 148 17 = some (.return_, 0, 0, 0, none) := rfl
theorem i_149_0 : iRow 149 0 = some (.aload_n 0, 0, 0, 0, none) := rfl
theorem i_149_1 : iRow 149 1 = some (.iconst 0, 0, 0, 0, none) := rfl
theorem i_149_2 : iRow 149 2 = some (.putfield 30, 64, 5, 2, none) := rfl
theorem i_149_5 : iRow 149 5 = some (.aload_n 0, 0, 0, 0, none) := rfl
theorem i_149_6 : iRow 149 6 = some (.getfield 15, 68, 5, 4, none) := rfl
theorem i_149_9 : iRow 149 9 = some (.iconst 0, 0, 0, 0, none) := rfl
theorem i_149_10 : iRow 149 10 = some (.invokestatic 44, 224, 139, 0, none) := rfl
theorem i_149_13 : iRow 149 13 = some (.return_, 0, 0, 0, none) := rfl
theorem i_150_0 : iRow 150 0 = some (.aload_n 0, 0, 0, 0, (some (Jvm.ClassFile.FieldType.int))) := rfl
theorem i_150_1 : iRow 150 1 = some (.iconst 0, 0, 0, 0, (some (Jvm.ClassFile.FieldType.int))) := rfl
theorem i_150_2 : iRow 150 2 = some (.putfield 74, 125, 7, 16, (some (Jvm.ClassFile.FieldType.int))) := rfl
theorem i_150_5 : iRow 150 5 = some (.aload_n 0, 0, 0, 0, (some (Jvm.ClassFile.FieldType.int))) := rfl
theorem i_150_6 : iRow 150 6 = some (.iconst 0, 0, 0, 0, (some (Jvm.ClassFile.FieldType.int))) := rfl
theorem i_150_7 : iRow 150 7 = some (.putfield 98, 126, 7, 17, (some (Jvm.ClassFile.FieldType.int))) := rfl
theorem i_150_10 : iRow 150 10 = some (.aload_n 0, 0, 0, 0, (some (Jvm.ClassFile.FieldType.int))) := rfl
theorem i_150_11 : iRow 150 11 = some (.iconst 0, 0, 0, 0, (some (Jvm.ClassFile.FieldType.int))) := rfl
theorem i_150_12 : iRow 150 12 = some (.iconst 0, 0, 0, 0, (some (Jvm.ClassFile.FieldType.int))) := rfl
theorem i_150_13 : iRow 150 13 = some (.invokevirtual 80, 30, 23, 1, (some (Jvm.ClassFile.FieldType.int))) := rfl
theorem i_150_16 : iRow 150 16 = some (.aload_n 0, 0, 0, 0, (some (Jvm.ClassFile.FieldType.int))) := rfl
theorem i_150_17 : iRow 150 17 = some (.iconst 0, 0, 0, 0, (some (Jvm.ClassFile.FieldType.int))) := rfl
theorem i_150_18 : iRow 150 18 = some (.invokevirtual 84, 36, 29, 1, (some (Jvm.ClassFile.FieldType.int))) := rfl
theorem i_150_21 : iRow 150 21 = some (.aload_n 0, 0, 0, 0, (some (Jvm.ClassFile.FieldType.int))) := rfl
theorem i_150_22 : iRow 150 22 = some (.invokevirtual 88, 38, 31, 1, (some (Jvm.ClassFile.FieldType.int))) := rfl
theorem i_150_25 : iRow 150 25 = some (.ifCond .eq 8, 0, 0, 0, (some (Jvm.ClassFile.FieldType.int))) := rfl
theorem i_150_28 : iRow 150 28 = some (.bipush (-2), 0, 0, 0, (some (Jvm.ClassFile.FieldType.int))) := rfl
theorem i_150_30 : iRow 150 30 = some (.goto 7, 0, 0, 0, (some (Jvm.ClassFile.FieldType.int))) := rfl
theorem i_150_33 : iRow 150 33 = some (.aload_n 0, 0, 0, 0, (some (Jvm.ClassFile.FieldType.int))) := rfl
theorem i_150_34 : iRow 150 34 = some (.getfield 98, 126, 7, 17, (some (Jvm.ClassFile.FieldType.int))) := rfl
theorem i_150_37 : iRow 150 37 = some (.ireturn, 0, 0, 0, (some (Jvm.ClassFile.FieldType.int))) := rfl
theorem i_293_0 : iRow 293 0 = some (.aload_n 2, 0, 0, 0, (some (Jvm.ClassFile.FieldType.int))) := rfl
theorem i_293_1 : iRow 293 1 = some (.iconst 0, 0, 0, 0, (some (Jvm.ClassFile.FieldType.int))) := rfl
theorem i_293_2 : iRow 293 2 = some (.aload_n 0, 0, 0, 0, (some (Jvm.ClassFile.FieldType.int))) := rfl
theorem i_293_3 : iRow 293 3 = some (.iload_n 1, 0, 0, 0, (some (Jvm.ClassFile.FieldType.int))) := rfl
theorem i_293_4 : iRow 293 4 = some (.invokevirtual 74, 220, 147, 1, (some (Jvm.ClassFile.FieldType.int))) := rfl
theorem i_293_7 : iRow 293 7 = some (.i2l, 0, 0, 0, (some (Jvm.ClassFile.FieldType.int))) := rfl
theorem i_293_8 : iRow 293 8 = some (.lastore, 0, 0, 0, (some (Jvm.ClassFile.FieldType.int))) := rfl
theorem i_293_9 : iRow 293 9 = some (.goto 6, 0, 0, 0, (some (Jvm.ClassFile.FieldType.int))) := rfl
theorem i_293_13 : iRow 293 13 = some (.iconst 1, 0, 0, 0, (some (Jvm.ClassFile.FieldType.int))) := rfl
theorem i_293_14 : iRow 293 14 = some (.ireturn, 0, 0, 0, (some (Jvm.ClassFile.FieldType.int))) := rfl
theorem i_293_15 : iRow 293 15 = some (.iconst 0, 0, 0, 0, (some (Jvm.ClassFile.FieldType.int))) := rfl
theorem i_293_16 : iRow 293 16 = some (.ireturn, 0, 0, 0, (some (Jvm.ClassFile.FieldType.int))) := rfl
section
variable {xs : Nat → Int32} {N d kc ks b nb : Nat} {Q : pRes → Prop} {es : PH} {wy : Int} {K : Nat → Nat × (Nat → Int × Nat)} {nt : Nat → Nat → Int} {B : Nat → Int}
/-- from the first place on -/
theorem lo_0at (hN3 : N ≤ 3584) (hb : b ≤ 2) (hn : nb ≤ 24) (hNT : ntB nt nb) : loS xs N b nb wy K nt (d + 29) 0 := by
  have h := lo_all (xs := xs) (wy := wy) (K := K) (d := d + (24 - nb)) hN3 hb hn hNT nb 0 (Nat.zero_add _)
  rw [show d + (24 - nb) + nb + 5 = d + 29 by omega] at h
  exact h
/-- what the class knows of its BOOKs -/
def bkC (nb : Nat → Nat) (wy : Nat → Int) (nt : Nat → Nat → Nat → Int) (n : Nat) (es : PH) : Prop := ∀ b, b < n → b < 3 ∧ (gA es 12 b).toInt = wy b ∧ (gA es 13 b).toInt = (nb b : Int) ∧ nb b ≤ 24 ∧ ntB (nt b) (nb b) ∧ ∀ j, j < nb b → ∀ q, q < 4 → (gA es 14 (96 * b + 4 * j + q)).toInt = nt b j q
end
/-! the class's BOOKs, cell by cell -/
def cNB (es : PH) : Nat → Nat := fun b => (gA es 13 b).toInt.toNat
def cWY (es : PH) : Nat → Int := fun b => (gA es 12 b).toInt
def cNT (es : PH) : Nat → Nat → Nat → Int := fun b j q => (gA es 14 (96 * b + 4 * j + q)).toInt
theorem tS80_n1 : ∀ b, b < 3 → ∀ n, n < 24 → tS80 (119 + 98 * b + 2 + 4 * n + 1) = (-1, 5) := by decide +kernel
/-- the NOTES that both sides have -/
theorem bk_cells {es : PH} {n : Nat} (hT : hOK tT es) (hj : bkT (gA es 12) (gA es 13) (gA es 14) (gA es 80) (gI es 7 5).toInt) (hn : (gI es 7 5).toInt = (n : Int)) : ∀ b, b < n → b < 3 ∧ (gA es 80 (119 + 98 * b)).toInt = cWY es b ∧ ((gA es 80 (119 + 98 * b + 1)).toInt = (cNB es b : Int) ∧ (gA es 13 b).toInt = (cNB es b : Int)) ∧ cNB es b ≤ 24 ∧ ∀ j, j < cNB es b → (∀ q, q < 4 → (gA es 80 (119 + 98 * b + 2 + 4 * j + q)).toInt = cNT es b j q) ∧ -1 ≤ cNT es b j 1 ∧ (-20 ≤ cNT es b j 2 ∧ cNT es b j 2 ≤ 20) ∧ (-20 ≤ cNT es b j 3 ∧ cNT es b j 3 ≤ 20) := by
  intro b hb
  have h3 : 0 ≤ (gI es 7 5).toInt ∧ (gI es 7 5).toInt ≤ 3 := gI_bd hT (p := 7) (b := 5) rfl rfl
  have hb3 : b < 3 := by omega
  obtain ⟨h1, h2, h4⟩ := hj b hb3 (by omega)
  have hc : 0 ≤ (gA es 13 b).toInt ∧ (gA es 13 b).toInt ≤ 24 := gA_bd hT (p := 13) (t := 0) (n := 3) (k := b) rfl (by omega) (by decide)
  have hnb : (gA es 13 b).toInt = (cNB es b : Int) := by unfold cNB; omega
  refine ⟨hb3, by rw [← h1]; rfl, ⟨by rw [← h2]; exact hnb, hnb⟩, by omega, fun j hj2 => ?_⟩
  have hq : ∀ q, q < 4 → (gA es 80 (119 + 98 * b + 2 + 4 * j + q)).toInt = cNT es b j q := fun q hq => by
    rw [← h4 j (by omega) (by omega) q hq]
    rfl
  have g1 := gA_bd hT (p := 80) (t := 0) (n := 2125) (sp := tS80) (k := 119 + 98 * b + 2 + 4 * j + 1) rfl (by omega) (by decide)
  have g2 := gA_bd hT (p := 80) (t := 0) (n := 2125) (sp := tS80) (k := 119 + 98 * b + 2 + 4 * j + 2) rfl (by omega) (by decide)
  have g3 := gA_bd hT (p := 80) (t := 0) (n := 2125) (sp := tS80) (k := 119 + 98 * b + 2 + 4 * j + 3) rfl (by omega) (by decide)
  rw [tS80_n1 b hb3 j (by omega), hq 1 (by omega)] at g1
  rw [(tS80_nt b hb3 j (by omega)).1, hq 2 (by omega)] at g2
  rw [(tS80_nt b hb3 j (by omega)).2, hq 3 (by omega)] at g3
  have k1 : (-1 : Int) ≤ cNT es b j 1 := g1.1
  have k2 : (-6 : Int) ≤ cNT es b j 2 ∧ cNT es b j 2 ≤ 7 := g2
  have k3 : (-7 : Int) ≤ cNT es b j 3 ∧ cNT es b j 3 ≤ 12 := g3
  exact ⟨hq, k1, ⟨by omega, by omega⟩, ⟨by omega, by omega⟩⟩
theorem bkC_of {es : PH} {n : Nat} (hT : hOK tT es) (hj : bkT (gA es 12) (gA es 13) (gA es 14) (gA es 80) (gI es 7 5).toInt) (hn : (gI es 7 5).toInt = (n : Int)) : bkC (cNB es) (cWY es) (cNT es) n es := by
  intro b hb
  obtain ⟨h1, h2, ⟨h3, h4⟩, h5, h6⟩ := bk_cells hT hj hn b hb
  exact ⟨h1, rfl, h4, h5, fun j hj2 => (h6 j hj2).2.2, fun j hj2 q hq => rfl⟩
theorem s_dn0 {O : pOut} {d kc ks : Nat} {Q : pRes → Prop} {es : PH} (hs_es : sh es) (hT_es : hOK tT es)
    (K1 : ∀ es1 : PH, es1 = sI es 52 16 (.int (zI 0)) → ∀ es2 : PH, es2 = sI es1 52 17 (.int (zI 0)) → ∀ es3 : PH, es3 = sI es2 52 15 (.int (zI 0)) → ∀ es4 : PH, es4 = sI es3 52 18 (.int (zI 0)) → ∀ es5 : PH, es5 = sR es4 67 (va_cpy (gA es4 11) (gA es4 67) 0 0 36) → ∀ es6 : PH, es6 = sI es5 68 2 (.int (zI 0)) → ∀ es7 : PH, es7 = sA es6 70 (Int.toNat 0) (zI 1000) → ∀ es8 : PH, es8 = sA es7 71 (Int.toNat 0) (zI (-1)) → ∀ es9 : PH, es9 = sA es8 72 (Int.toNat 0) (zI 1000) → ∀ es10 : PH, es10 = sA es9 69 (Int.toNat 0) (zI 0) → ∀ v11 : Int, v11 = (gA es10 70 (Int.toNat 0)).toInt → ∀ v12 : Int, v12 = min v11 0 → ∀ es13 : PH, es13 = sA es10 70 (Int.toNat 0) (zI v12) → ∀ es14 : PH, es14 = sA es13 71 (Int.toNat 0) (zI 0) → ∀ v15 : Int, v15 = (gA es14 72 (Int.toNat 0)).toInt → ∀ v16 : Int, v16 = min v15 0 → ∀ es17 : PH, es17 = sA es14 72 (Int.toNat 0) (zI v16) → ∀ es18 : PH, es18 = sA es17 70 (Int.toNat 1) (zI 1000) → ∀ es19 : PH, es19 = sA es18 71 (Int.toNat 1) (zI (-1)) → ∀ es20 : PH, es20 = sA es19 72 (Int.toNat 1) (zI 1000) → ∀ es21 : PH, es21 = sA es20 69 (Int.toNat 25) (zI 0) → ∀ v22 : Int, v22 = (gA es21 70 (Int.toNat 1)).toInt → ∀ v23 : Int, v23 = min v22 0 → ∀ es24 : PH, es24 = sA es21 70 (Int.toNat 1) (zI v23) → ∀ es25 : PH, es25 = sA es24 71 (Int.toNat 1) (zI 0) → ∀ v26 : Int, v26 = (gA es25 72 (Int.toNat 1)).toInt → ∀ v27 : Int, v27 = min v26 0 → ∀ es28 : PH, es28 = sA es25 72 (Int.toNat 1) (zI v27) → ∀ es29 : PH, es29 = sA es28 70 (Int.toNat 2) (zI 1000) → ∀ es30 : PH, es30 = sA es29 71 (Int.toNat 2) (zI (-1)) → ∀ es31 : PH, es31 = sA es30 72 (Int.toNat 2) (zI 1000) → ∀ es32 : PH, es32 = sA es31 69 (Int.toNat 50) (zI 0) → ∀ v33 : Int, v33 = (gA es32 70 (Int.toNat 2)).toInt → ∀ v34 : Int, v34 = min v33 0 → ∀ es35 : PH, es35 = sA es32 70 (Int.toNat 2) (zI v34) → ∀ es36 : PH, es36 = sA es35 71 (Int.toNat 2) (zI 0) → ∀ v37 : Int, v37 = (gA es36 72 (Int.toNat 2)).toInt → ∀ v38 : Int, v38 = min v37 0 → ∀ es39 : PH, es39 = sA es36 72 (Int.toNat 2) (zI v38) → hOK tT es39 → aW O (d + 4) 150 kc ks Q (18, [some (.ref 116)], [.int (zI 0), .ref 116], es39)) :
    aW O (d + 4) 150 kc ks Q (0, [some (.ref 116)], [], es) := by
  refine x0 (r := (1, [some (.ref 116)], [.ref 116], es)) i_150_0 rfl ?_
  refine x0 (r := (2, [some (.ref 116)], [.int (zI 0), .ref 116], es)) i_150_1 (by rfl) ?_
  refine x_puti (p := 52) (ty := .int) i_150_2 hs_es rfl rfl rfl (Or.inl rfl) ?_
  obtain ⟨es1, e_es1⟩ : ∃ z : PH, z = sI es 52 16 (.int (zI 0)) := ⟨_, rfl⟩
  have hs_es1 : sh es1 := by rw [e_es1]; exact sh_sI hs_es (p := 52) (b := 16) rfl rfl
  have hT_es1 : hOK tT es1 := by rw [e_es1]; exact hOK_sI hT_es (p := 52) (b := 16) (lo := iLO) (hi := iHI) rfl rfl (i32_rng _)
  rw [← e_es1]
  refine x0 (r := (6, [some (.ref 116)], [.ref 116], es1)) i_150_5 rfl ?_
  refine x0 (r := (7, [some (.ref 116)], [.int (zI 0), .ref 116], es1)) i_150_6 (by rfl) ?_
  refine x_puti (p := 52) (ty := .int) i_150_7 hs_es1 rfl rfl rfl (Or.inl rfl) ?_
  obtain ⟨es2, e_es2⟩ : ∃ z : PH, z = sI es1 52 17 (.int (zI 0)) := ⟨_, rfl⟩
  have hs_es2 : sh es2 := by rw [e_es2]; exact sh_sI hs_es1 (p := 52) (b := 17) rfl rfl
  have hT_es2 : hOK tT es2 := by rw [e_es2]; exact hOK_sI hT_es1 (p := 52) (b := 17) (lo := iLO) (hi := iHI) rfl rfl (i32_rng _)
  rw [← e_es2]
  refine x0 (r := (11, [some (.ref 116)], [.ref 116], es2)) i_150_10 rfl ?_
  refine x0 (r := (12, [some (.ref 116)], [.int (zI 0), .ref 116], es2)) i_150_11 (by rfl) ?_
  refine x0 (r := (13, [some (.ref 116)], [.int (zI 0), .int (zI 0), .ref 116], es2)) i_150_12 (by rfl) ?_
  refine x_call (vs := [.ref 116, .int (zI 0), .int (zI 0)]) (rs := []) i_150_13 rfl (fun _ => rfl) rfl rfl rfl rfl rfl (pCall_v (p := 52) hs_es2 rfl rfl rfl rfl rfl (by decide) rfl rfl rfl rfl rfl) ?_
  show aW _ _ _ _ _ _ (0, [some (.ref 116), some (.int (zI 0)), some (.int (zI 0))], [], es2)
  refine x0 (r := (1, [some (.ref 116), some (.int (zI 0)), some (.int (zI 0))], [.ref 116], es2)) i_23_0 rfl ?_
  refine x0 (r := (2, [some (.ref 116), some (.int (zI 0)), some (.int (zI 0))], [.int (zI 0), .ref 116], es2)) i_23_1 rfl ?_
  refine x_puti (p := 52) (ty := .int) i_23_2 hs_es2 rfl rfl rfl (Or.inl rfl) ?_
  obtain ⟨es3, e_es3⟩ : ∃ z : PH, z = sI es2 52 15 (.int (zI 0)) := ⟨_, rfl⟩
  have hs_es3 : sh es3 := by rw [e_es3]; exact sh_sI hs_es2 (p := 52) (b := 15) rfl rfl
  have hT_es3 : hOK tT es3 := by rw [e_es3]; exact hOK_sI hT_es2 (p := 52) (b := 15) (lo := iLO) (hi := iHI) rfl rfl (i32_rng _)
  rw [← e_es3]
  refine x0 (r := (6, [some (.ref 116), some (.int (zI 0)), some (.int (zI 0))], [.ref 116], es3)) i_23_5 rfl ?_
  refine x0 (r := (7, [some (.ref 116), some (.int (zI 0)), some (.int (zI 0))], [.int (zI 0), .ref 116], es3)) i_23_6 (by rfl) ?_
  refine x_puti (p := 52) (ty := .int) i_23_7 hs_es3 rfl rfl rfl (Or.inl rfl) ?_
  obtain ⟨es4, e_es4⟩ : ∃ z : PH, z = sI es3 52 18 (.int (zI 0)) := ⟨_, rfl⟩
  have hs_es4 : sh es4 := by rw [e_es4]; exact sh_sI hs_es3 (p := 52) (b := 18) rfl rfl
  have hT_es4 : hOK tT es4 := by rw [e_es4]; exact hOK_sI hT_es3 (p := 52) (b := 18) (lo := iLO) (hi := iHI) rfl rfl (i32_rng _)
  rw [← e_es4]
  refine x0 (r := (11, [some (.ref 116), some (.int (zI 0)), some (.int (zI 0))], [.ref 116], es4)) i_23_10 rfl ?_
  refine x_getr (p := 52) (k := 130) i_23_11 hs_es4 rfl rfl ?_
  show aW _ _ _ _ _ _ (14, [some (.ref 116), some (.int (zI 0)), some (.int (zI 0))], [.ref 130], es4)
  refine x_call (vs := [.ref 130]) (rs := []) i_23_14 rfl (fun _ => rfl) rfl rfl rfl rfl rfl (pCall_v (p := 66) hs_es4 rfl rfl rfl rfl rfl (by decide) rfl rfl rfl rfl rfl) ?_
  show aW _ _ _ _ _ _ (0, [some (.ref 130)], [], es4)
  refine x0 (r := (1, [some (.ref 130)], [.ref 130], es4)) i_24_0 rfl ?_
  refine x_getr (p := 66) (k := 71) i_24_1 hs_es4 rfl rfl ?_
  show aW _ _ _ _ _ _ (4, [some (.ref 130)], [.ref 71], es4)
  refine x_getr (p := 7) (k := 75) i_24_4 hs_es4 rfl rfl ?_
  show aW _ _ _ _ _ _ (7, [some (.ref 130)], [.ref 75], es4)
  refine x0 (r := (8, [some (.ref 130)], [.ref 130, .ref 75], es4)) i_24_7 rfl ?_
  refine x_getr (p := 66) (k := 131) i_24_8 hs_es4 rfl rfl ?_
  show aW _ _ _ _ _ _ (11, [some (.ref 130)], [.ref 131, .ref 75], es4)
  refine x_call (vs := [.ref 75, .ref 131]) (rs := []) i_24_11 rfl (fun _ => rfl) rfl rfl rfl rfl rfl rfl ?_
  show aW _ _ _ _ _ _ (0, [some (.ref 75), some (.ref 131)], [], es4)
  refine x0 (r := (1, [some (.ref 75), some (.ref 131)], [.ref 75], es4)) i_20_0 rfl ?_
  refine x0 (r := (2, [some (.ref 75), some (.ref 131)], [.int (zI 0), .ref 75], es4)) i_20_1 (by rfl) ?_
  refine x0 (r := (3, [some (.ref 75), some (.ref 131)], [.ref 131, .int (zI 0), .ref 75], es4)) i_20_2 rfl ?_
  refine x0 (r := (4, [some (.ref 75), some (.ref 131)], [.int (zI 0), .ref 131, .int (zI 0), .ref 75], es4)) i_20_3 (by rfl) ?_
  refine x0 (r := (5, [some (.ref 75), some (.ref 131)], [.ref 75, .int (zI 0), .ref 131, .int (zI 0), .ref 75], es4)) i_20_4 rfl ?_
  refine x_alen (p := 11) (n := 36) i_20_5 hs_es4 rfl ?_
  refine x0 (r := (7, [some (.ref 75), some (.ref 131)], [.ref 131, .int (zI 36), .int (zI 0), .ref 131, .int (zI 0), .ref 75], es4)) i_20_6 rfl ?_
  refine x_alen (p := 67) (n := 36) i_20_7 hs_es4 rfl ?_
  refine x_min i_20_8 (by unfold i32 iLO iHI; omega) (by unfold i32 iLO iHI; omega) (Nat.le_of_ble_eq_true rfl) ?_
  show aW _ _ _ _ _ _ (11, [some (.ref 75), some (.ref 131)], [.int (zI 36), .int (zI 0), .ref 131, .int (zI 0), .ref 75], es4)
  refine x_acp (p := 11) (p2 := 67) (n := 36) i_20_11 hs_es4 rfl rfl (by decide) (Nat.le_of_ble_eq_true rfl) ?_
  obtain ⟨es5, e_es5⟩ : ∃ z : PH, z = sR es4 67 (va_cpy (gA es4 11) (gA es4 67) 0 0 36) := ⟨_, rfl⟩
  have hs_es5 : sh es5 := by rw [e_es5]; exact sh_sR hs_es4
  have hT_es5 : hOK tT es5 := by rw [e_es5]; exact hOK_sR hT_es4 (p := 67) (t := 0) (n := 36) rfl (fun j _ => i32_rng _)
  rw [← e_es5]
  refine x_ret (v := none) i_20_14 rfl (fun _ => rfl) rfl rfl rfl ?_
  show aW _ _ _ _ _ _ (14, [some (.ref 130)], [], es5)
  refine x_ret (v := none) i_24_14 rfl (fun _ => rfl) rfl rfl rfl ?_
  show aW _ _ _ _ _ _ (17, [some (.ref 116), some (.int (zI 0)), some (.int (zI 0))], [], es5)
  refine x0 (r := (18, [some (.ref 116), some (.int (zI 0)), some (.int (zI 0))], [.ref 116], es5)) i_23_17 rfl ?_
  refine x_getr (p := 52) (k := 132) i_23_18 hs_es5 rfl rfl ?_
  show aW _ _ _ _ _ _ (21, [some (.ref 116), some (.int (zI 0)), some (.int (zI 0))], [.ref 132], es5)
  refine x0 (r := (22, [some (.ref 116), some (.int (zI 0)), some (.int (zI 0))], [.int (zI 0), .ref 132], es5)) i_23_21 rfl ?_
  refine x_call (vs := [.ref 132, .int (zI 0)]) (rs := []) i_23_22 rfl (fun _ => rfl) rfl rfl rfl rfl rfl (pCall_v (p := 68) hs_es5 rfl rfl rfl rfl rfl (by decide) rfl rfl rfl rfl rfl) ?_
  show aW _ _ _ _ _ _ (0, [some (.ref 132), some (.int (zI 0)), none], [], es5)
  refine x0 (r := (1, [some (.ref 132), some (.int (zI 0)), none], [.ref 132], es5)) i_25_0 rfl ?_
  refine x0 (r := (2, [some (.ref 132), some (.int (zI 0)), none], [.int (zI 0), .ref 132], es5)) i_25_1 rfl ?_
  refine x_puti (p := 68) (ty := .int) i_25_2 hs_es5 rfl rfl rfl (Or.inl rfl) ?_
  obtain ⟨es6, e_es6⟩ : ∃ z : PH, z = sI es5 68 2 (.int (zI 0)) := ⟨_, rfl⟩
  have hs_es6 : sh es6 := by rw [e_es6]; exact sh_sI hs_es5 (p := 68) (b := 2) rfl rfl
  have hT_es6 : hOK tT es6 := by rw [e_es6]; exact hOK_sI hT_es5 (p := 68) (b := 2) (lo := iLO) (hi := iHI) rfl rfl (i32_rng _)
  rw [← e_es6]
  refine x0 (r := (6, [some (.ref 132), some (.int (zI 0)), none], [.int (zI 0)], es6)) i_25_5 (by rfl) ?_
  refine x0 (r := (7, [some (.ref 132), some (.int (zI 0)), some (.int (zI 0))], [], es6)) i_25_6 rfl ?_
  refine x0 (r := (8, [some (.ref 132), some (.int (zI 0)), some (.int (zI 0))], [.int (zI 0)], es6)) i_25_7 rfl ?_
  refine x0 (r := (9, [some (.ref 132), some (.int (zI 0)), some (.int (zI 0))], [.int (zI 3), .int (zI 0)], es6)) i_25_8 (by rfl) ?_
  refine x_cmpF i_25_9 (by unfold i32 iLO iHI; omega) (by unfold i32 iLO iHI; omega) rfl (by simp only [zC, cR]; omega) ?_
  refine x0 (r := (13, [some (.ref 132), some (.int (zI 0)), some (.int (zI 0))], [.ref 132], es6)) i_25_12 rfl ?_
  refine x0 (r := (14, [some (.ref 132), some (.int (zI 0)), some (.int (zI 0))], [.int (zI 0), .ref 132], es6)) i_25_13 rfl ?_
  refine x_call (vs := [.ref 132, .int (zI 0)]) (rs := []) i_25_14 rfl (fun _ => rfl) rfl rfl rfl rfl rfl (pCall_v (p := 68) hs_es6 rfl rfl rfl rfl rfl (by decide) rfl rfl rfl rfl rfl) ?_
  show aW _ _ _ _ _ _ (0, [some (.ref 132), some (.int (zI 0))], [], es6)
  refine x0 (r := (1, [some (.ref 132), some (.int (zI 0))], [.ref 132], es6)) i_26_0 rfl ?_
  refine x_getr (p := 68) (k := 134) i_26_1 hs_es6 rfl rfl ?_
  show aW _ _ _ _ _ _ (4, [some (.ref 132), some (.int (zI 0))], [.ref 134], es6)
  refine x0 (r := (5, [some (.ref 132), some (.int (zI 0))], [.int (zI 0), .ref 134], es6)) i_26_4 rfl ?_
  refine x0 (r := (8, [some (.ref 132), some (.int (zI 0))], [.int (zI 1000), .int (zI 0), .ref 134], es6)) i_26_5 (by rfl) ?_
  refine x_call (vs := [.ref 134, .int (zI 0), .int (zI 1000)]) (rs := []) i_26_8 rfl (fun _ => rfl) rfl rfl rfl rfl rfl rfl ?_
  show aW _ _ _ _ _ _ (0, [some (.ref 134), some (.int (zI 0)), some (.int (zI 1000))], [], es6)
  refine x0 (r := (1, [some (.ref 134), some (.int (zI 0)), some (.int (zI 1000))], [.int (zI 0)], es6)) i_14_0 rfl ?_
  refine x_ifF i_14_1 (by unfold i32 iLO iHI; omega) rfl (by simp only [zC, cR]; omega) ?_
  refine x0 (r := (5, [some (.ref 134), some (.int (zI 0)), some (.int (zI 1000))], [.int (zI 0)], es6)) i_14_4 rfl ?_
  refine x0 (r := (6, [some (.ref 134), some (.int (zI 0)), some (.int (zI 1000))], [.ref 134, .int (zI 0)], es6)) i_14_5 rfl ?_
  refine x_alen (p := 70) (n := 93) i_14_6 hs_es6 rfl ?_
  refine x_cmpF i_14_7 (by unfold i32 iLO iHI; omega) (by unfold i32 iLO iHI; omega) rfl (by simp only [zC, cR]; omega) ?_
  refine x0 (r := (11, [some (.ref 134), some (.int (zI 0)), some (.int (zI 1000))], [.ref 134], es6)) i_14_10 rfl ?_
  refine x0 (r := (12, [some (.ref 134), some (.int (zI 0)), some (.int (zI 1000))], [.int (zI 0), .ref 134], es6)) i_14_11 rfl ?_
  refine x0 (r := (13, [some (.ref 134), some (.int (zI 0)), some (.int (zI 1000))], [.int (zI 1000), .int (zI 0), .ref 134], es6)) i_14_12 rfl ?_
  refine x_iast (p := 70) i_14_13 hs_es6 rfl (by unfold i32 iLO iHI; omega) (by omega) (by omega) ?_
  obtain ⟨es7, e_es7⟩ : ∃ z : PH, z = sA es6 70 (Int.toNat 0) (zI 1000) := ⟨_, rfl⟩
  have hs_es7 : sh es7 := by rw [e_es7]; exact sh_sA hs_es6
  have hT_es7 : hOK tT es7 := by rw [e_es7]; exact hOK_sA hT_es6 (p := 70) (n := 93) rfl (fun _ => i32_rng _)
  rw [← e_es7]
  refine x_ret (v := none) i_14_14 rfl (fun _ => rfl) rfl rfl rfl ?_
  show aW _ _ _ _ _ _ (11, [some (.ref 132), some (.int (zI 0))], [], es7)
  refine x0 (r := (12, [some (.ref 132), some (.int (zI 0))], [.ref 132], es7)) i_26_11 rfl ?_
  refine x_getr (p := 68) (k := 135) i_26_12 hs_es7 rfl rfl ?_
  show aW _ _ _ _ _ _ (15, [some (.ref 132), some (.int (zI 0))], [.ref 135], es7)
  refine x0 (r := (16, [some (.ref 132), some (.int (zI 0))], [.int (zI 0), .ref 135], es7)) i_26_15 rfl ?_
  refine x0 (r := (17, [some (.ref 132), some (.int (zI 0))], [.int (zI (-1)), .int (zI 0), .ref 135], es7)) i_26_16 (by rfl) ?_
  refine x_call (vs := [.ref 135, .int (zI 0), .int (zI (-1))]) (rs := []) i_26_17 rfl (fun _ => rfl) rfl rfl rfl rfl rfl rfl ?_
  show aW _ _ _ _ _ _ (0, [some (.ref 135), some (.int (zI 0)), some (.int (zI (-1)))], [], es7)
  refine x0 (r := (1, [some (.ref 135), some (.int (zI 0)), some (.int (zI (-1)))], [.int (zI 0)], es7)) i_14_0 rfl ?_
  refine x_ifF i_14_1 (by unfold i32 iLO iHI; omega) rfl (by simp only [zC, cR]; omega) ?_
  refine x0 (r := (5, [some (.ref 135), some (.int (zI 0)), some (.int (zI (-1)))], [.int (zI 0)], es7)) i_14_4 rfl ?_
  refine x0 (r := (6, [some (.ref 135), some (.int (zI 0)), some (.int (zI (-1)))], [.ref 135, .int (zI 0)], es7)) i_14_5 rfl ?_
  refine x_alen (p := 71) (n := 93) i_14_6 hs_es7 rfl ?_
  refine x_cmpF i_14_7 (by unfold i32 iLO iHI; omega) (by unfold i32 iLO iHI; omega) rfl (by simp only [zC, cR]; omega) ?_
  refine x0 (r := (11, [some (.ref 135), some (.int (zI 0)), some (.int (zI (-1)))], [.ref 135], es7)) i_14_10 rfl ?_
  refine x0 (r := (12, [some (.ref 135), some (.int (zI 0)), some (.int (zI (-1)))], [.int (zI 0), .ref 135], es7)) i_14_11 rfl ?_
  refine x0 (r := (13, [some (.ref 135), some (.int (zI 0)), some (.int (zI (-1)))], [.int (zI (-1)), .int (zI 0), .ref 135], es7)) i_14_12 rfl ?_
  refine x_iast (p := 71) i_14_13 hs_es7 rfl (by unfold i32 iLO iHI; omega) (by omega) (by omega) ?_
  obtain ⟨es8, e_es8⟩ : ∃ z : PH, z = sA es7 71 (Int.toNat 0) (zI (-1)) := ⟨_, rfl⟩
  have hs_es8 : sh es8 := by rw [e_es8]; exact sh_sA hs_es7
  have hT_es8 : hOK tT es8 := by rw [e_es8]; exact hOK_sA hT_es7 (p := 71) (n := 93) rfl (fun _ => i32_rng _)
  rw [← e_es8]
  refine x_ret (v := none) i_14_14 rfl (fun _ => rfl) rfl rfl rfl ?_
  show aW _ _ _ _ _ _ (20, [some (.ref 132), some (.int (zI 0))], [], es8)
  refine x0 (r := (21, [some (.ref 132), some (.int (zI 0))], [.ref 132], es8)) i_26_20 rfl ?_
  refine x_getr (p := 68) (k := 136) i_26_21 hs_es8 rfl rfl ?_
  show aW _ _ _ _ _ _ (24, [some (.ref 132), some (.int (zI 0))], [.ref 136], es8)
  refine x0 (r := (25, [some (.ref 132), some (.int (zI 0))], [.int (zI 0), .ref 136], es8)) i_26_24 rfl ?_
  refine x0 (r := (28, [some (.ref 132), some (.int (zI 0))], [.int (zI 1000), .int (zI 0), .ref 136], es8)) i_26_25 (by rfl) ?_
  refine x_call (vs := [.ref 136, .int (zI 0), .int (zI 1000)]) (rs := []) i_26_28 rfl (fun _ => rfl) rfl rfl rfl rfl rfl rfl ?_
  show aW _ _ _ _ _ _ (0, [some (.ref 136), some (.int (zI 0)), some (.int (zI 1000))], [], es8)
  refine x0 (r := (1, [some (.ref 136), some (.int (zI 0)), some (.int (zI 1000))], [.int (zI 0)], es8)) i_14_0 rfl ?_
  refine x_ifF i_14_1 (by unfold i32 iLO iHI; omega) rfl (by simp only [zC, cR]; omega) ?_
  refine x0 (r := (5, [some (.ref 136), some (.int (zI 0)), some (.int (zI 1000))], [.int (zI 0)], es8)) i_14_4 rfl ?_
  refine x0 (r := (6, [some (.ref 136), some (.int (zI 0)), some (.int (zI 1000))], [.ref 136, .int (zI 0)], es8)) i_14_5 rfl ?_
  refine x_alen (p := 72) (n := 93) i_14_6 hs_es8 rfl ?_
  refine x_cmpF i_14_7 (by unfold i32 iLO iHI; omega) (by unfold i32 iLO iHI; omega) rfl (by simp only [zC, cR]; omega) ?_
  refine x0 (r := (11, [some (.ref 136), some (.int (zI 0)), some (.int (zI 1000))], [.ref 136], es8)) i_14_10 rfl ?_
  refine x0 (r := (12, [some (.ref 136), some (.int (zI 0)), some (.int (zI 1000))], [.int (zI 0), .ref 136], es8)) i_14_11 rfl ?_
  refine x0 (r := (13, [some (.ref 136), some (.int (zI 0)), some (.int (zI 1000))], [.int (zI 1000), .int (zI 0), .ref 136], es8)) i_14_12 rfl ?_
  refine x_iast (p := 72) i_14_13 hs_es8 rfl (by unfold i32 iLO iHI; omega) (by omega) (by omega) ?_
  obtain ⟨es9, e_es9⟩ : ∃ z : PH, z = sA es8 72 (Int.toNat 0) (zI 1000) := ⟨_, rfl⟩
  have hs_es9 : sh es9 := by rw [e_es9]; exact sh_sA hs_es8
  have hT_es9 : hOK tT es9 := by rw [e_es9]; exact hOK_sA hT_es8 (p := 72) (n := 93) rfl (fun _ => i32_rng _)
  rw [← e_es9]
  refine x_ret (v := none) i_14_14 rfl (fun _ => rfl) rfl rfl rfl ?_
  show aW _ _ _ _ _ _ (31, [some (.ref 132), some (.int (zI 0))], [], es9)
  refine x_ret (v := none) i_26_31 rfl (fun _ => rfl) rfl rfl rfl ?_
  show aW _ _ _ _ _ _ (17, [some (.ref 132), some (.int (zI 0)), some (.int (zI 0))], [], es9)
  refine x0 (r := (18, [some (.ref 132), some (.int (zI 0)), some (.int (zI 0))], [.ref 132], es9)) i_25_17 rfl ?_
  refine x0 (r := (19, [some (.ref 132), some (.int (zI 0)), some (.int (zI 0))], [.int (zI 0), .ref 132], es9)) i_25_18 rfl ?_
  refine x0 (r := (20, [some (.ref 132), some (.int (zI 0)), some (.int (zI 0))], [.int (zI 0), .int (zI 0), .ref 132], es9)) i_25_19 (by rfl) ?_
  refine x0 (r := (21, [some (.ref 132), some (.int (zI 0)), some (.int (zI 0))], [.int (zI 0), .int (zI 0), .int (zI 0), .ref 132], es9)) i_25_20 (by rfl) ?_
  refine x_call (vs := [.ref 132, .int (zI 0), .int (zI 0), .int (zI 0)]) (rs := []) i_25_21 rfl (fun _ => rfl) rfl rfl rfl rfl rfl (pCall_v (p := 68) hs_es9 rfl rfl rfl rfl rfl (by decide) rfl rfl rfl rfl rfl) ?_
  show aW _ _ _ _ _ _ (0, [some (.ref 132), some (.int (zI 0)), some (.int (zI 0)), some (.int (zI 0))], [], es9)
  refine x0 (r := (1, [some (.ref 132), some (.int (zI 0)), some (.int (zI 0)), some (.int (zI 0))], [.ref 132], es9)) i_27_0 rfl ?_
  refine x_getr (p := 68) (k := 133) i_27_1 hs_es9 rfl rfl ?_
  show aW _ _ _ _ _ _ (4, [some (.ref 132), some (.int (zI 0)), some (.int (zI 0)), some (.int (zI 0))], [.ref 133], es9)
  refine x0 (r := (5, [some (.ref 132), some (.int (zI 0)), some (.int (zI 0)), some (.int (zI 0))], [.int (zI 0), .ref 133], es9)) i_27_4 rfl ?_
  refine x0 (r := (7, [some (.ref 132), some (.int (zI 0)), some (.int (zI 0)), some (.int (zI 0))], [.int (zI 25), .int (zI 0), .ref 133], es9)) i_27_5 (by rfl) ?_
  refine x_imul i_27_7 ?_
  show aW _ _ _ _ _ _ (8, [some (.ref 132), some (.int (zI 0)), some (.int (zI 0)), some (.int (zI 0))], [.int (zI 0), .ref 133], es9)
  refine x0 (r := (9, [some (.ref 132), some (.int (zI 0)), some (.int (zI 0)), some (.int (zI 0))], [.int (zI 0), .int (zI 0), .ref 133], es9)) i_27_8 rfl ?_
  refine x_iadd i_27_9 ?_
  show aW _ _ _ _ _ _ (10, [some (.ref 132), some (.int (zI 0)), some (.int (zI 0)), some (.int (zI 0))], [.int (zI 0), .ref 133], es9)
  refine x0 (r := (11, [some (.ref 132), some (.int (zI 0)), some (.int (zI 0)), some (.int (zI 0))], [.int (zI 0), .int (zI 0), .ref 133], es9)) i_27_10 rfl ?_
  refine x_call (vs := [.ref 133, .int (zI 0), .int (zI 0)]) (rs := []) i_27_11 rfl (fun _ => rfl) rfl rfl rfl rfl rfl rfl ?_
  show aW _ _ _ _ _ _ (0, [some (.ref 133), some (.int (zI 0)), some (.int (zI 0))], [], es9)
  refine x0 (r := (1, [some (.ref 133), some (.int (zI 0)), some (.int (zI 0))], [.int (zI 0)], es9)) i_14_0 rfl ?_
  refine x_ifF i_14_1 (by unfold i32 iLO iHI; omega) rfl (by simp only [zC, cR]; omega) ?_
  refine x0 (r := (5, [some (.ref 133), some (.int (zI 0)), some (.int (zI 0))], [.int (zI 0)], es9)) i_14_4 rfl ?_
  refine x0 (r := (6, [some (.ref 133), some (.int (zI 0)), some (.int (zI 0))], [.ref 133, .int (zI 0)], es9)) i_14_5 rfl ?_
  refine x_alen (p := 69) (n := 2325) i_14_6 hs_es9 rfl ?_
  refine x_cmpF i_14_7 (by unfold i32 iLO iHI; omega) (by unfold i32 iLO iHI; omega) rfl (by simp only [zC, cR]; omega) ?_
  refine x0 (r := (11, [some (.ref 133), some (.int (zI 0)), some (.int (zI 0))], [.ref 133], es9)) i_14_10 rfl ?_
  refine x0 (r := (12, [some (.ref 133), some (.int (zI 0)), some (.int (zI 0))], [.int (zI 0), .ref 133], es9)) i_14_11 rfl ?_
  refine x0 (r := (13, [some (.ref 133), some (.int (zI 0)), some (.int (zI 0))], [.int (zI 0), .int (zI 0), .ref 133], es9)) i_14_12 rfl ?_
  refine x_iast (p := 69) i_14_13 hs_es9 rfl (by unfold i32 iLO iHI; omega) (by omega) (by omega) ?_
  obtain ⟨es10, e_es10⟩ : ∃ z : PH, z = sA es9 69 (Int.toNat 0) (zI 0) := ⟨_, rfl⟩
  have hs_es10 : sh es10 := by rw [e_es10]; exact sh_sA hs_es9
  have hT_es10 : hOK tT es10 := by rw [e_es10]; exact hOK_sA hT_es9 (p := 69) (n := 2325) rfl (fun _ => i32_rng _)
  rw [← e_es10]
  refine x_ret (v := none) i_14_14 rfl (fun _ => rfl) rfl rfl rfl ?_
  show aW _ _ _ _ _ _ (14, [some (.ref 132), some (.int (zI 0)), some (.int (zI 0)), some (.int (zI 0))], [], es10)
  refine x0 (r := (15, [some (.ref 132), some (.int (zI 0)), some (.int (zI 0)), some (.int (zI 0))], [.int (zI 0)], es10)) i_27_14 rfl ?_
  refine x0 (r := (18, [some (.ref 132), some (.int (zI 0)), some (.int (zI 0)), some (.int (zI 0))], [.int (zI 1000), .int (zI 0)], es10)) i_27_15 (by rfl) ?_
  refine x_cmpF i_27_18 (by unfold i32 iLO iHI; omega) (by unfold i32 iLO iHI; omega) rfl (by simp only [zC, cR]; omega) ?_
  refine x0 (r := (22, [some (.ref 132), some (.int (zI 0)), some (.int (zI 0)), some (.int (zI 0))], [.ref 132], es10)) i_27_21 rfl ?_
  refine x_getr (p := 68) (k := 134) i_27_22 hs_es10 rfl rfl ?_
  show aW _ _ _ _ _ _ (25, [some (.ref 132), some (.int (zI 0)), some (.int (zI 0)), some (.int (zI 0))], [.ref 134], es10)
  refine x0 (r := (26, [some (.ref 132), some (.int (zI 0)), some (.int (zI 0)), some (.int (zI 0))], [.int (zI 0), .ref 134], es10)) i_27_25 rfl ?_
  refine x0 (r := (27, [some (.ref 132), some (.int (zI 0)), some (.int (zI 0)), some (.int (zI 0))], [.ref 132, .int (zI 0), .ref 134], es10)) i_27_26 rfl ?_
  refine x_getr (p := 68) (k := 134) i_27_27 hs_es10 rfl rfl ?_
  show aW _ _ _ _ _ _ (30, [some (.ref 132), some (.int (zI 0)), some (.int (zI 0)), some (.int (zI 0))], [.ref 134, .int (zI 0), .ref 134], es10)
  refine x0 (r := (31, [some (.ref 132), some (.int (zI 0)), some (.int (zI 0)), some (.int (zI 0))], [.int (zI 0), .ref 134, .int (zI 0), .ref 134], es10)) i_27_30 rfl ?_
  refine x_call (vs := [.ref 134, .int (zI 0)]) (rs := [.int (zI 0), .ref 134]) i_27_31 rfl (fun _ => rfl) rfl rfl rfl rfl rfl rfl ?_
  show aW _ _ _ _ _ _ (0, [some (.ref 134), some (.int (zI 0))], [], es10)
  refine x0 (r := (1, [some (.ref 134), some (.int (zI 0))], [.int (zI 0)], es10)) i_28_0 rfl ?_
  refine x_ifF i_28_1 (by unfold i32 iLO iHI; omega) rfl (by simp only [zC, cR]; omega) ?_
  refine x0 (r := (5, [some (.ref 134), some (.int (zI 0))], [.int (zI 0)], es10)) i_28_4 rfl ?_
  refine x0 (r := (6, [some (.ref 134), some (.int (zI 0))], [.ref 134, .int (zI 0)], es10)) i_28_5 rfl ?_
  refine x_alen (p := 70) (n := 93) i_28_6 hs_es10 rfl ?_
  refine x_cmpF i_28_7 (by unfold i32 iLO iHI; omega) (by unfold i32 iLO iHI; omega) rfl (by simp only [zC, cR]; omega) ?_
  refine x0 (r := (11, [some (.ref 134), some (.int (zI 0))], [.ref 134], es10)) i_28_10 rfl ?_
  refine x0 (r := (12, [some (.ref 134), some (.int (zI 0))], [.int (zI 0), .ref 134], es10)) i_28_11 rfl ?_
  refine x_iald (p := 70) i_28_12 hs_es10 rfl (by unfold i32 iLO iHI; omega) (by omega) (by omega) ?_
  obtain ⟨v11, e_v11⟩ : ∃ z : Int, z = (gA es10 70 (Int.toNat 0)).toInt := ⟨_, rfl⟩
  rw [← e_v11]
  have r_v11 : iLO ≤ v11 ∧ v11 ≤ iHI := by rw [e_v11]; exact i32_rng _
  unfold iLO iHI at r_v11
  refine x0 (r := (17, [some (.ref 134), some (.int (zI 0))], [.int (zI v11)], es10)) i_28_13 rfl ?_
  refine x_ret (v := some (.int (zI v11))) i_28_17 rfl (fun _ => rfl) rfl rfl rfl ?_
  show aW _ _ _ _ _ _ (34, [some (.ref 132), some (.int (zI 0)), some (.int (zI 0)), some (.int (zI 0))], [.int (zI v11), .int (zI 0), .ref 134], es10)
  refine x0 (r := (35, [some (.ref 132), some (.int (zI 0)), some (.int (zI 0)), some (.int (zI 0))], [.int (zI 0), .int (zI v11), .int (zI 0), .ref 134], es10)) i_27_34 rfl ?_
  refine x_min i_27_35 (by unfold i32 iLO iHI; omega) (by unfold i32 iLO iHI; omega) (Nat.le_of_ble_eq_true rfl) ?_
  obtain ⟨v12, e_v12⟩ : ∃ z : Int, z = min v11 0 := ⟨_, rfl⟩
  rw [← e_v12]
  refine x_call (vs := [.ref 134, .int (zI 0), .int (zI v12)]) (rs := []) i_27_38 rfl (fun _ => rfl) rfl rfl rfl rfl rfl rfl ?_
  show aW _ _ _ _ _ _ (0, [some (.ref 134), some (.int (zI 0)), some (.int (zI v12))], [], es10)
  refine x0 (r := (1, [some (.ref 134), some (.int (zI 0)), some (.int (zI v12))], [.int (zI 0)], es10)) i_14_0 rfl ?_
  refine x_ifF i_14_1 (by unfold i32 iLO iHI; omega) rfl (by simp only [zC, cR]; omega) ?_
  refine x0 (r := (5, [some (.ref 134), some (.int (zI 0)), some (.int (zI v12))], [.int (zI 0)], es10)) i_14_4 rfl ?_
  refine x0 (r := (6, [some (.ref 134), some (.int (zI 0)), some (.int (zI v12))], [.ref 134, .int (zI 0)], es10)) i_14_5 rfl ?_
  refine x_alen (p := 70) (n := 93) i_14_6 hs_es10 rfl ?_
  refine x_cmpF i_14_7 (by unfold i32 iLO iHI; omega) (by unfold i32 iLO iHI; omega) rfl (by simp only [zC, cR]; omega) ?_
  refine x0 (r := (11, [some (.ref 134), some (.int (zI 0)), some (.int (zI v12))], [.ref 134], es10)) i_14_10 rfl ?_
  refine x0 (r := (12, [some (.ref 134), some (.int (zI 0)), some (.int (zI v12))], [.int (zI 0), .ref 134], es10)) i_14_11 rfl ?_
  refine x0 (r := (13, [some (.ref 134), some (.int (zI 0)), some (.int (zI v12))], [.int (zI v12), .int (zI 0), .ref 134], es10)) i_14_12 rfl ?_
  refine x_iast (p := 70) i_14_13 hs_es10 rfl (by unfold i32 iLO iHI; omega) (by omega) (by omega) ?_
  obtain ⟨es13, e_es13⟩ : ∃ z : PH, z = sA es10 70 (Int.toNat 0) (zI v12) := ⟨_, rfl⟩
  have hs_es13 : sh es13 := by rw [e_es13]; exact sh_sA hs_es10
  have hT_es13 : hOK tT es13 := by rw [e_es13]; exact hOK_sA hT_es10 (p := 70) (n := 93) rfl (fun _ => i32_rng _)
  rw [← e_es13]
  refine x_ret (v := none) i_14_14 rfl (fun _ => rfl) rfl rfl rfl ?_
  show aW _ _ _ _ _ _ (41, [some (.ref 132), some (.int (zI 0)), some (.int (zI 0)), some (.int (zI 0))], [], es13)
  refine x0 (r := (42, [some (.ref 132), some (.int (zI 0)), some (.int (zI 0)), some (.int (zI 0))], [.ref 132], es13)) i_27_41 rfl ?_
  refine x_getr (p := 68) (k := 135) i_27_42 hs_es13 rfl rfl ?_
  show aW _ _ _ _ _ _ (45, [some (.ref 132), some (.int (zI 0)), some (.int (zI 0)), some (.int (zI 0))], [.ref 135], es13)
  refine x0 (r := (46, [some (.ref 132), some (.int (zI 0)), some (.int (zI 0)), some (.int (zI 0))], [.int (zI 0), .ref 135], es13)) i_27_45 rfl ?_
  refine x0 (r := (47, [some (.ref 132), some (.int (zI 0)), some (.int (zI 0)), some (.int (zI 0))], [.int (zI 0), .int (zI 0), .ref 135], es13)) i_27_46 rfl ?_
  refine x_call (vs := [.ref 135, .int (zI 0), .int (zI 0)]) (rs := []) i_27_47 rfl (fun _ => rfl) rfl rfl rfl rfl rfl rfl ?_
  show aW _ _ _ _ _ _ (0, [some (.ref 135), some (.int (zI 0)), some (.int (zI 0))], [], es13)
  refine x0 (r := (1, [some (.ref 135), some (.int (zI 0)), some (.int (zI 0))], [.int (zI 0)], es13)) i_14_0 rfl ?_
  refine x_ifF i_14_1 (by unfold i32 iLO iHI; omega) rfl (by simp only [zC, cR]; omega) ?_
  refine x0 (r := (5, [some (.ref 135), some (.int (zI 0)), some (.int (zI 0))], [.int (zI 0)], es13)) i_14_4 rfl ?_
  refine x0 (r := (6, [some (.ref 135), some (.int (zI 0)), some (.int (zI 0))], [.ref 135, .int (zI 0)], es13)) i_14_5 rfl ?_
  refine x_alen (p := 71) (n := 93) i_14_6 hs_es13 rfl ?_
  refine x_cmpF i_14_7 (by unfold i32 iLO iHI; omega) (by unfold i32 iLO iHI; omega) rfl (by simp only [zC, cR]; omega) ?_
  refine x0 (r := (11, [some (.ref 135), some (.int (zI 0)), some (.int (zI 0))], [.ref 135], es13)) i_14_10 rfl ?_
  refine x0 (r := (12, [some (.ref 135), some (.int (zI 0)), some (.int (zI 0))], [.int (zI 0), .ref 135], es13)) i_14_11 rfl ?_
  refine x0 (r := (13, [some (.ref 135), some (.int (zI 0)), some (.int (zI 0))], [.int (zI 0), .int (zI 0), .ref 135], es13)) i_14_12 rfl ?_
  refine x_iast (p := 71) i_14_13 hs_es13 rfl (by unfold i32 iLO iHI; omega) (by omega) (by omega) ?_
  obtain ⟨es14, e_es14⟩ : ∃ z : PH, z = sA es13 71 (Int.toNat 0) (zI 0) := ⟨_, rfl⟩
  have hs_es14 : sh es14 := by rw [e_es14]; exact sh_sA hs_es13
  have hT_es14 : hOK tT es14 := by rw [e_es14]; exact hOK_sA hT_es13 (p := 71) (n := 93) rfl (fun _ => i32_rng _)
  rw [← e_es14]
  refine x_ret (v := none) i_14_14 rfl (fun _ => rfl) rfl rfl rfl ?_
  show aW _ _ _ _ _ _ (50, [some (.ref 132), some (.int (zI 0)), some (.int (zI 0)), some (.int (zI 0))], [], es14)
  refine x0 (r := (51, [some (.ref 132), some (.int (zI 0)), some (.int (zI 0)), some (.int (zI 0))], [.ref 132], es14)) i_27_50 rfl ?_
  refine x_getr (p := 68) (k := 136) i_27_51 hs_es14 rfl rfl ?_
  show aW _ _ _ _ _ _ (54, [some (.ref 132), some (.int (zI 0)), some (.int (zI 0)), some (.int (zI 0))], [.ref 136], es14)
  refine x0 (r := (55, [some (.ref 132), some (.int (zI 0)), some (.int (zI 0)), some (.int (zI 0))], [.int (zI 0), .ref 136], es14)) i_27_54 rfl ?_
  refine x0 (r := (56, [some (.ref 132), some (.int (zI 0)), some (.int (zI 0)), some (.int (zI 0))], [.ref 132, .int (zI 0), .ref 136], es14)) i_27_55 rfl ?_
  refine x_getr (p := 68) (k := 136) i_27_56 hs_es14 rfl rfl ?_
  show aW _ _ _ _ _ _ (59, [some (.ref 132), some (.int (zI 0)), some (.int (zI 0)), some (.int (zI 0))], [.ref 136, .int (zI 0), .ref 136], es14)
  refine x0 (r := (60, [some (.ref 132), some (.int (zI 0)), some (.int (zI 0)), some (.int (zI 0))], [.int (zI 0), .ref 136, .int (zI 0), .ref 136], es14)) i_27_59 rfl ?_
  refine x_call (vs := [.ref 136, .int (zI 0)]) (rs := [.int (zI 0), .ref 136]) i_27_60 rfl (fun _ => rfl) rfl rfl rfl rfl rfl rfl ?_
  show aW _ _ _ _ _ _ (0, [some (.ref 136), some (.int (zI 0))], [], es14)
  refine x0 (r := (1, [some (.ref 136), some (.int (zI 0))], [.int (zI 0)], es14)) i_28_0 rfl ?_
  refine x_ifF i_28_1 (by unfold i32 iLO iHI; omega) rfl (by simp only [zC, cR]; omega) ?_
  refine x0 (r := (5, [some (.ref 136), some (.int (zI 0))], [.int (zI 0)], es14)) i_28_4 rfl ?_
  refine x0 (r := (6, [some (.ref 136), some (.int (zI 0))], [.ref 136, .int (zI 0)], es14)) i_28_5 rfl ?_
  refine x_alen (p := 72) (n := 93) i_28_6 hs_es14 rfl ?_
  refine x_cmpF i_28_7 (by unfold i32 iLO iHI; omega) (by unfold i32 iLO iHI; omega) rfl (by simp only [zC, cR]; omega) ?_
  refine x0 (r := (11, [some (.ref 136), some (.int (zI 0))], [.ref 136], es14)) i_28_10 rfl ?_
  refine x0 (r := (12, [some (.ref 136), some (.int (zI 0))], [.int (zI 0), .ref 136], es14)) i_28_11 rfl ?_
  refine x_iald (p := 72) i_28_12 hs_es14 rfl (by unfold i32 iLO iHI; omega) (by omega) (by omega) ?_
  obtain ⟨v15, e_v15⟩ : ∃ z : Int, z = (gA es14 72 (Int.toNat 0)).toInt := ⟨_, rfl⟩
  rw [← e_v15]
  have r_v15 : iLO ≤ v15 ∧ v15 ≤ iHI := by rw [e_v15]; exact i32_rng _
  unfold iLO iHI at r_v15
  refine x0 (r := (17, [some (.ref 136), some (.int (zI 0))], [.int (zI v15)], es14)) i_28_13 rfl ?_
  refine x_ret (v := some (.int (zI v15))) i_28_17 rfl (fun _ => rfl) rfl rfl rfl ?_
  show aW _ _ _ _ _ _ (63, [some (.ref 132), some (.int (zI 0)), some (.int (zI 0)), some (.int (zI 0))], [.int (zI v15), .int (zI 0), .ref 136], es14)
  refine x0 (r := (64, [some (.ref 132), some (.int (zI 0)), some (.int (zI 0)), some (.int (zI 0))], [.int (zI 0), .int (zI v15), .int (zI 0), .ref 136], es14)) i_27_63 rfl ?_
  refine x_min i_27_64 (by unfold i32 iLO iHI; omega) (by unfold i32 iLO iHI; omega) (Nat.le_of_ble_eq_true rfl) ?_
  obtain ⟨v16, e_v16⟩ : ∃ z : Int, z = min v15 0 := ⟨_, rfl⟩
  rw [← e_v16]
  refine x_call (vs := [.ref 136, .int (zI 0), .int (zI v16)]) (rs := []) i_27_67 rfl (fun _ => rfl) rfl rfl rfl rfl rfl rfl ?_
  show aW _ _ _ _ _ _ (0, [some (.ref 136), some (.int (zI 0)), some (.int (zI v16))], [], es14)
  refine x0 (r := (1, [some (.ref 136), some (.int (zI 0)), some (.int (zI v16))], [.int (zI 0)], es14)) i_14_0 rfl ?_
  refine x_ifF i_14_1 (by unfold i32 iLO iHI; omega) rfl (by simp only [zC, cR]; omega) ?_
  refine x0 (r := (5, [some (.ref 136), some (.int (zI 0)), some (.int (zI v16))], [.int (zI 0)], es14)) i_14_4 rfl ?_
  refine x0 (r := (6, [some (.ref 136), some (.int (zI 0)), some (.int (zI v16))], [.ref 136, .int (zI 0)], es14)) i_14_5 rfl ?_
  refine x_alen (p := 72) (n := 93) i_14_6 hs_es14 rfl ?_
  refine x_cmpF i_14_7 (by unfold i32 iLO iHI; omega) (by unfold i32 iLO iHI; omega) rfl (by simp only [zC, cR]; omega) ?_
  refine x0 (r := (11, [some (.ref 136), some (.int (zI 0)), some (.int (zI v16))], [.ref 136], es14)) i_14_10 rfl ?_
  refine x0 (r := (12, [some (.ref 136), some (.int (zI 0)), some (.int (zI v16))], [.int (zI 0), .ref 136], es14)) i_14_11 rfl ?_
  refine x0 (r := (13, [some (.ref 136), some (.int (zI 0)), some (.int (zI v16))], [.int (zI v16), .int (zI 0), .ref 136], es14)) i_14_12 rfl ?_
  refine x_iast (p := 72) i_14_13 hs_es14 rfl (by unfold i32 iLO iHI; omega) (by omega) (by omega) ?_
  obtain ⟨es17, e_es17⟩ : ∃ z : PH, z = sA es14 72 (Int.toNat 0) (zI v16) := ⟨_, rfl⟩
  have hs_es17 : sh es17 := by rw [e_es17]; exact sh_sA hs_es14
  have hT_es17 : hOK tT es17 := by rw [e_es17]; exact hOK_sA hT_es14 (p := 72) (n := 93) rfl (fun _ => i32_rng _)
  rw [← e_es17]
  refine x_ret (v := none) i_14_14 rfl (fun _ => rfl) rfl rfl rfl ?_
  show aW _ _ _ _ _ _ (70, [some (.ref 132), some (.int (zI 0)), some (.int (zI 0)), some (.int (zI 0))], [], es17)
  refine x_ret (v := none) i_27_70 rfl (fun _ => rfl) rfl rfl rfl ?_
  show aW _ _ _ _ _ _ (24, [some (.ref 132), some (.int (zI 0)), some (.int (zI 0))], [], es17)
  refine x_iinc (x := 0) i_25_24 rfl (by show 2 < 3; decide) ?_
  show aW _ _ _ _ _ _ (27, [some (.ref 132), some (.int (zI 0)), some (.int (zI 1))], [], es17)
  refine x0 (r := (7, [some (.ref 132), some (.int (zI 0)), some (.int (zI 1))], [], es17)) i_25_27 rfl ?_
  refine x0 (r := (8, [some (.ref 132), some (.int (zI 0)), some (.int (zI 1))], [.int (zI 1)], es17)) i_25_7 rfl ?_
  refine x0 (r := (9, [some (.ref 132), some (.int (zI 0)), some (.int (zI 1))], [.int (zI 3), .int (zI 1)], es17)) i_25_8 (by rfl) ?_
  refine x_cmpF i_25_9 (by unfold i32 iLO iHI; omega) (by unfold i32 iLO iHI; omega) rfl (by simp only [zC, cR]; omega) ?_
  refine x0 (r := (13, [some (.ref 132), some (.int (zI 0)), some (.int (zI 1))], [.ref 132], es17)) i_25_12 rfl ?_
  refine x0 (r := (14, [some (.ref 132), some (.int (zI 0)), some (.int (zI 1))], [.int (zI 1), .ref 132], es17)) i_25_13 rfl ?_
  refine x_call (vs := [.ref 132, .int (zI 1)]) (rs := []) i_25_14 rfl (fun _ => rfl) rfl rfl rfl rfl rfl (pCall_v (p := 68) hs_es17 rfl rfl rfl rfl rfl (by decide) rfl rfl rfl rfl rfl) ?_
  show aW _ _ _ _ _ _ (0, [some (.ref 132), some (.int (zI 1))], [], es17)
  refine x0 (r := (1, [some (.ref 132), some (.int (zI 1))], [.ref 132], es17)) i_26_0 rfl ?_
  refine x_getr (p := 68) (k := 134) i_26_1 hs_es17 rfl rfl ?_
  show aW _ _ _ _ _ _ (4, [some (.ref 132), some (.int (zI 1))], [.ref 134], es17)
  refine x0 (r := (5, [some (.ref 132), some (.int (zI 1))], [.int (zI 1), .ref 134], es17)) i_26_4 rfl ?_
  refine x0 (r := (8, [some (.ref 132), some (.int (zI 1))], [.int (zI 1000), .int (zI 1), .ref 134], es17)) i_26_5 (by rfl) ?_
  refine x_call (vs := [.ref 134, .int (zI 1), .int (zI 1000)]) (rs := []) i_26_8 rfl (fun _ => rfl) rfl rfl rfl rfl rfl rfl ?_
  show aW _ _ _ _ _ _ (0, [some (.ref 134), some (.int (zI 1)), some (.int (zI 1000))], [], es17)
  refine x0 (r := (1, [some (.ref 134), some (.int (zI 1)), some (.int (zI 1000))], [.int (zI 1)], es17)) i_14_0 rfl ?_
  refine x_ifF i_14_1 (by unfold i32 iLO iHI; omega) rfl (by simp only [zC, cR]; omega) ?_
  refine x0 (r := (5, [some (.ref 134), some (.int (zI 1)), some (.int (zI 1000))], [.int (zI 1)], es17)) i_14_4 rfl ?_
  refine x0 (r := (6, [some (.ref 134), some (.int (zI 1)), some (.int (zI 1000))], [.ref 134, .int (zI 1)], es17)) i_14_5 rfl ?_
  refine x_alen (p := 70) (n := 93) i_14_6 hs_es17 rfl ?_
  refine x_cmpF i_14_7 (by unfold i32 iLO iHI; omega) (by unfold i32 iLO iHI; omega) rfl (by simp only [zC, cR]; omega) ?_
  refine x0 (r := (11, [some (.ref 134), some (.int (zI 1)), some (.int (zI 1000))], [.ref 134], es17)) i_14_10 rfl ?_
  refine x0 (r := (12, [some (.ref 134), some (.int (zI 1)), some (.int (zI 1000))], [.int (zI 1), .ref 134], es17)) i_14_11 rfl ?_
  refine x0 (r := (13, [some (.ref 134), some (.int (zI 1)), some (.int (zI 1000))], [.int (zI 1000), .int (zI 1), .ref 134], es17)) i_14_12 rfl ?_
  refine x_iast (p := 70) i_14_13 hs_es17 rfl (by unfold i32 iLO iHI; omega) (by omega) (by omega) ?_
  obtain ⟨es18, e_es18⟩ : ∃ z : PH, z = sA es17 70 (Int.toNat 1) (zI 1000) := ⟨_, rfl⟩
  have hs_es18 : sh es18 := by rw [e_es18]; exact sh_sA hs_es17
  have hT_es18 : hOK tT es18 := by rw [e_es18]; exact hOK_sA hT_es17 (p := 70) (n := 93) rfl (fun _ => i32_rng _)
  rw [← e_es18]
  refine x_ret (v := none) i_14_14 rfl (fun _ => rfl) rfl rfl rfl ?_
  show aW _ _ _ _ _ _ (11, [some (.ref 132), some (.int (zI 1))], [], es18)
  refine x0 (r := (12, [some (.ref 132), some (.int (zI 1))], [.ref 132], es18)) i_26_11 rfl ?_
  refine x_getr (p := 68) (k := 135) i_26_12 hs_es18 rfl rfl ?_
  show aW _ _ _ _ _ _ (15, [some (.ref 132), some (.int (zI 1))], [.ref 135], es18)
  refine x0 (r := (16, [some (.ref 132), some (.int (zI 1))], [.int (zI 1), .ref 135], es18)) i_26_15 rfl ?_
  refine x0 (r := (17, [some (.ref 132), some (.int (zI 1))], [.int (zI (-1)), .int (zI 1), .ref 135], es18)) i_26_16 (by rfl) ?_
  refine x_call (vs := [.ref 135, .int (zI 1), .int (zI (-1))]) (rs := []) i_26_17 rfl (fun _ => rfl) rfl rfl rfl rfl rfl rfl ?_
  show aW _ _ _ _ _ _ (0, [some (.ref 135), some (.int (zI 1)), some (.int (zI (-1)))], [], es18)
  refine x0 (r := (1, [some (.ref 135), some (.int (zI 1)), some (.int (zI (-1)))], [.int (zI 1)], es18)) i_14_0 rfl ?_
  refine x_ifF i_14_1 (by unfold i32 iLO iHI; omega) rfl (by simp only [zC, cR]; omega) ?_
  refine x0 (r := (5, [some (.ref 135), some (.int (zI 1)), some (.int (zI (-1)))], [.int (zI 1)], es18)) i_14_4 rfl ?_
  refine x0 (r := (6, [some (.ref 135), some (.int (zI 1)), some (.int (zI (-1)))], [.ref 135, .int (zI 1)], es18)) i_14_5 rfl ?_
  refine x_alen (p := 71) (n := 93) i_14_6 hs_es18 rfl ?_
  refine x_cmpF i_14_7 (by unfold i32 iLO iHI; omega) (by unfold i32 iLO iHI; omega) rfl (by simp only [zC, cR]; omega) ?_
  refine x0 (r := (11, [some (.ref 135), some (.int (zI 1)), some (.int (zI (-1)))], [.ref 135], es18)) i_14_10 rfl ?_
  refine x0 (r := (12, [some (.ref 135), some (.int (zI 1)), some (.int (zI (-1)))], [.int (zI 1), .ref 135], es18)) i_14_11 rfl ?_
  refine x0 (r := (13, [some (.ref 135), some (.int (zI 1)), some (.int (zI (-1)))], [.int (zI (-1)), .int (zI 1), .ref 135], es18)) i_14_12 rfl ?_
  refine x_iast (p := 71) i_14_13 hs_es18 rfl (by unfold i32 iLO iHI; omega) (by omega) (by omega) ?_
  obtain ⟨es19, e_es19⟩ : ∃ z : PH, z = sA es18 71 (Int.toNat 1) (zI (-1)) := ⟨_, rfl⟩
  have hs_es19 : sh es19 := by rw [e_es19]; exact sh_sA hs_es18
  have hT_es19 : hOK tT es19 := by rw [e_es19]; exact hOK_sA hT_es18 (p := 71) (n := 93) rfl (fun _ => i32_rng _)
  rw [← e_es19]
  refine x_ret (v := none) i_14_14 rfl (fun _ => rfl) rfl rfl rfl ?_
  show aW _ _ _ _ _ _ (20, [some (.ref 132), some (.int (zI 1))], [], es19)
  refine x0 (r := (21, [some (.ref 132), some (.int (zI 1))], [.ref 132], es19)) i_26_20 rfl ?_
  refine x_getr (p := 68) (k := 136) i_26_21 hs_es19 rfl rfl ?_
  show aW _ _ _ _ _ _ (24, [some (.ref 132), some (.int (zI 1))], [.ref 136], es19)
  refine x0 (r := (25, [some (.ref 132), some (.int (zI 1))], [.int (zI 1), .ref 136], es19)) i_26_24 rfl ?_
  refine x0 (r := (28, [some (.ref 132), some (.int (zI 1))], [.int (zI 1000), .int (zI 1), .ref 136], es19)) i_26_25 (by rfl) ?_
  refine x_call (vs := [.ref 136, .int (zI 1), .int (zI 1000)]) (rs := []) i_26_28 rfl (fun _ => rfl) rfl rfl rfl rfl rfl rfl ?_
  show aW _ _ _ _ _ _ (0, [some (.ref 136), some (.int (zI 1)), some (.int (zI 1000))], [], es19)
  refine x0 (r := (1, [some (.ref 136), some (.int (zI 1)), some (.int (zI 1000))], [.int (zI 1)], es19)) i_14_0 rfl ?_
  refine x_ifF i_14_1 (by unfold i32 iLO iHI; omega) rfl (by simp only [zC, cR]; omega) ?_
  refine x0 (r := (5, [some (.ref 136), some (.int (zI 1)), some (.int (zI 1000))], [.int (zI 1)], es19)) i_14_4 rfl ?_
  refine x0 (r := (6, [some (.ref 136), some (.int (zI 1)), some (.int (zI 1000))], [.ref 136, .int (zI 1)], es19)) i_14_5 rfl ?_
  refine x_alen (p := 72) (n := 93) i_14_6 hs_es19 rfl ?_
  refine x_cmpF i_14_7 (by unfold i32 iLO iHI; omega) (by unfold i32 iLO iHI; omega) rfl (by simp only [zC, cR]; omega) ?_
  refine x0 (r := (11, [some (.ref 136), some (.int (zI 1)), some (.int (zI 1000))], [.ref 136], es19)) i_14_10 rfl ?_
  refine x0 (r := (12, [some (.ref 136), some (.int (zI 1)), some (.int (zI 1000))], [.int (zI 1), .ref 136], es19)) i_14_11 rfl ?_
  refine x0 (r := (13, [some (.ref 136), some (.int (zI 1)), some (.int (zI 1000))], [.int (zI 1000), .int (zI 1), .ref 136], es19)) i_14_12 rfl ?_
  refine x_iast (p := 72) i_14_13 hs_es19 rfl (by unfold i32 iLO iHI; omega) (by omega) (by omega) ?_
  obtain ⟨es20, e_es20⟩ : ∃ z : PH, z = sA es19 72 (Int.toNat 1) (zI 1000) := ⟨_, rfl⟩
  have hs_es20 : sh es20 := by rw [e_es20]; exact sh_sA hs_es19
  have hT_es20 : hOK tT es20 := by rw [e_es20]; exact hOK_sA hT_es19 (p := 72) (n := 93) rfl (fun _ => i32_rng _)
  rw [← e_es20]
  refine x_ret (v := none) i_14_14 rfl (fun _ => rfl) rfl rfl rfl ?_
  show aW _ _ _ _ _ _ (31, [some (.ref 132), some (.int (zI 1))], [], es20)
  refine x_ret (v := none) i_26_31 rfl (fun _ => rfl) rfl rfl rfl ?_
  show aW _ _ _ _ _ _ (17, [some (.ref 132), some (.int (zI 0)), some (.int (zI 1))], [], es20)
  refine x0 (r := (18, [some (.ref 132), some (.int (zI 0)), some (.int (zI 1))], [.ref 132], es20)) i_25_17 rfl ?_
  refine x0 (r := (19, [some (.ref 132), some (.int (zI 0)), some (.int (zI 1))], [.int (zI 1), .ref 132], es20)) i_25_18 rfl ?_
  refine x0 (r := (20, [some (.ref 132), some (.int (zI 0)), some (.int (zI 1))], [.int (zI 0), .int (zI 1), .ref 132], es20)) i_25_19 (by rfl) ?_
  refine x0 (r := (21, [some (.ref 132), some (.int (zI 0)), some (.int (zI 1))], [.int (zI 0), .int (zI 0), .int (zI 1), .ref 132], es20)) i_25_20 (by rfl) ?_
  refine x_call (vs := [.ref 132, .int (zI 1), .int (zI 0), .int (zI 0)]) (rs := []) i_25_21 rfl (fun _ => rfl) rfl rfl rfl rfl rfl (pCall_v (p := 68) hs_es20 rfl rfl rfl rfl rfl (by decide) rfl rfl rfl rfl rfl) ?_
  show aW _ _ _ _ _ _ (0, [some (.ref 132), some (.int (zI 1)), some (.int (zI 0)), some (.int (zI 0))], [], es20)
  refine x0 (r := (1, [some (.ref 132), some (.int (zI 1)), some (.int (zI 0)), some (.int (zI 0))], [.ref 132], es20)) i_27_0 rfl ?_
  refine x_getr (p := 68) (k := 133) i_27_1 hs_es20 rfl rfl ?_
  show aW _ _ _ _ _ _ (4, [some (.ref 132), some (.int (zI 1)), some (.int (zI 0)), some (.int (zI 0))], [.ref 133], es20)
  refine x0 (r := (5, [some (.ref 132), some (.int (zI 1)), some (.int (zI 0)), some (.int (zI 0))], [.int (zI 1), .ref 133], es20)) i_27_4 rfl ?_
  refine x0 (r := (7, [some (.ref 132), some (.int (zI 1)), some (.int (zI 0)), some (.int (zI 0))], [.int (zI 25), .int (zI 1), .ref 133], es20)) i_27_5 (by rfl) ?_
  refine x_imul i_27_7 ?_
  show aW _ _ _ _ _ _ (8, [some (.ref 132), some (.int (zI 1)), some (.int (zI 0)), some (.int (zI 0))], [.int (zI 25), .ref 133], es20)
  refine x0 (r := (9, [some (.ref 132), some (.int (zI 1)), some (.int (zI 0)), some (.int (zI 0))], [.int (zI 0), .int (zI 25), .ref 133], es20)) i_27_8 rfl ?_
  refine x_iadd i_27_9 ?_
  show aW _ _ _ _ _ _ (10, [some (.ref 132), some (.int (zI 1)), some (.int (zI 0)), some (.int (zI 0))], [.int (zI 25), .ref 133], es20)
  refine x0 (r := (11, [some (.ref 132), some (.int (zI 1)), some (.int (zI 0)), some (.int (zI 0))], [.int (zI 0), .int (zI 25), .ref 133], es20)) i_27_10 rfl ?_
  refine x_call (vs := [.ref 133, .int (zI 25), .int (zI 0)]) (rs := []) i_27_11 rfl (fun _ => rfl) rfl rfl rfl rfl rfl rfl ?_
  show aW _ _ _ _ _ _ (0, [some (.ref 133), some (.int (zI 25)), some (.int (zI 0))], [], es20)
  refine x0 (r := (1, [some (.ref 133), some (.int (zI 25)), some (.int (zI 0))], [.int (zI 25)], es20)) i_14_0 rfl ?_
  refine x_ifF i_14_1 (by unfold i32 iLO iHI; omega) rfl (by simp only [zC, cR]; omega) ?_
  refine x0 (r := (5, [some (.ref 133), some (.int (zI 25)), some (.int (zI 0))], [.int (zI 25)], es20)) i_14_4 rfl ?_
  refine x0 (r := (6, [some (.ref 133), some (.int (zI 25)), some (.int (zI 0))], [.ref 133, .int (zI 25)], es20)) i_14_5 rfl ?_
  refine x_alen (p := 69) (n := 2325) i_14_6 hs_es20 rfl ?_
  refine x_cmpF i_14_7 (by unfold i32 iLO iHI; omega) (by unfold i32 iLO iHI; omega) rfl (by simp only [zC, cR]; omega) ?_
  refine x0 (r := (11, [some (.ref 133), some (.int (zI 25)), some (.int (zI 0))], [.ref 133], es20)) i_14_10 rfl ?_
  refine x0 (r := (12, [some (.ref 133), some (.int (zI 25)), some (.int (zI 0))], [.int (zI 25), .ref 133], es20)) i_14_11 rfl ?_
  refine x0 (r := (13, [some (.ref 133), some (.int (zI 25)), some (.int (zI 0))], [.int (zI 0), .int (zI 25), .ref 133], es20)) i_14_12 rfl ?_
  refine x_iast (p := 69) i_14_13 hs_es20 rfl (by unfold i32 iLO iHI; omega) (by omega) (by omega) ?_
  obtain ⟨es21, e_es21⟩ : ∃ z : PH, z = sA es20 69 (Int.toNat 25) (zI 0) := ⟨_, rfl⟩
  have hs_es21 : sh es21 := by rw [e_es21]; exact sh_sA hs_es20
  have hT_es21 : hOK tT es21 := by rw [e_es21]; exact hOK_sA hT_es20 (p := 69) (n := 2325) rfl (fun _ => i32_rng _)
  rw [← e_es21]
  refine x_ret (v := none) i_14_14 rfl (fun _ => rfl) rfl rfl rfl ?_
  show aW _ _ _ _ _ _ (14, [some (.ref 132), some (.int (zI 1)), some (.int (zI 0)), some (.int (zI 0))], [], es21)
  refine x0 (r := (15, [some (.ref 132), some (.int (zI 1)), some (.int (zI 0)), some (.int (zI 0))], [.int (zI 0)], es21)) i_27_14 rfl ?_
  refine x0 (r := (18, [some (.ref 132), some (.int (zI 1)), some (.int (zI 0)), some (.int (zI 0))], [.int (zI 1000), .int (zI 0)], es21)) i_27_15 (by rfl) ?_
  refine x_cmpF i_27_18 (by unfold i32 iLO iHI; omega) (by unfold i32 iLO iHI; omega) rfl (by simp only [zC, cR]; omega) ?_
  refine x0 (r := (22, [some (.ref 132), some (.int (zI 1)), some (.int (zI 0)), some (.int (zI 0))], [.ref 132], es21)) i_27_21 rfl ?_
  refine x_getr (p := 68) (k := 134) i_27_22 hs_es21 rfl rfl ?_
  show aW _ _ _ _ _ _ (25, [some (.ref 132), some (.int (zI 1)), some (.int (zI 0)), some (.int (zI 0))], [.ref 134], es21)
  refine x0 (r := (26, [some (.ref 132), some (.int (zI 1)), some (.int (zI 0)), some (.int (zI 0))], [.int (zI 1), .ref 134], es21)) i_27_25 rfl ?_
  refine x0 (r := (27, [some (.ref 132), some (.int (zI 1)), some (.int (zI 0)), some (.int (zI 0))], [.ref 132, .int (zI 1), .ref 134], es21)) i_27_26 rfl ?_
  refine x_getr (p := 68) (k := 134) i_27_27 hs_es21 rfl rfl ?_
  show aW _ _ _ _ _ _ (30, [some (.ref 132), some (.int (zI 1)), some (.int (zI 0)), some (.int (zI 0))], [.ref 134, .int (zI 1), .ref 134], es21)
  refine x0 (r := (31, [some (.ref 132), some (.int (zI 1)), some (.int (zI 0)), some (.int (zI 0))], [.int (zI 1), .ref 134, .int (zI 1), .ref 134], es21)) i_27_30 rfl ?_
  refine x_call (vs := [.ref 134, .int (zI 1)]) (rs := [.int (zI 1), .ref 134]) i_27_31 rfl (fun _ => rfl) rfl rfl rfl rfl rfl rfl ?_
  show aW _ _ _ _ _ _ (0, [some (.ref 134), some (.int (zI 1))], [], es21)
  refine x0 (r := (1, [some (.ref 134), some (.int (zI 1))], [.int (zI 1)], es21)) i_28_0 rfl ?_
  refine x_ifF i_28_1 (by unfold i32 iLO iHI; omega) rfl (by simp only [zC, cR]; omega) ?_
  refine x0 (r := (5, [some (.ref 134), some (.int (zI 1))], [.int (zI 1)], es21)) i_28_4 rfl ?_
  refine x0 (r := (6, [some (.ref 134), some (.int (zI 1))], [.ref 134, .int (zI 1)], es21)) i_28_5 rfl ?_
  refine x_alen (p := 70) (n := 93) i_28_6 hs_es21 rfl ?_
  refine x_cmpF i_28_7 (by unfold i32 iLO iHI; omega) (by unfold i32 iLO iHI; omega) rfl (by simp only [zC, cR]; omega) ?_
  refine x0 (r := (11, [some (.ref 134), some (.int (zI 1))], [.ref 134], es21)) i_28_10 rfl ?_
  refine x0 (r := (12, [some (.ref 134), some (.int (zI 1))], [.int (zI 1), .ref 134], es21)) i_28_11 rfl ?_
  refine x_iald (p := 70) i_28_12 hs_es21 rfl (by unfold i32 iLO iHI; omega) (by omega) (by omega) ?_
  obtain ⟨v22, e_v22⟩ : ∃ z : Int, z = (gA es21 70 (Int.toNat 1)).toInt := ⟨_, rfl⟩
  rw [← e_v22]
  have r_v22 : iLO ≤ v22 ∧ v22 ≤ iHI := by rw [e_v22]; exact i32_rng _
  unfold iLO iHI at r_v22
  refine x0 (r := (17, [some (.ref 134), some (.int (zI 1))], [.int (zI v22)], es21)) i_28_13 rfl ?_
  refine x_ret (v := some (.int (zI v22))) i_28_17 rfl (fun _ => rfl) rfl rfl rfl ?_
  show aW _ _ _ _ _ _ (34, [some (.ref 132), some (.int (zI 1)), some (.int (zI 0)), some (.int (zI 0))], [.int (zI v22), .int (zI 1), .ref 134], es21)
  refine x0 (r := (35, [some (.ref 132), some (.int (zI 1)), some (.int (zI 0)), some (.int (zI 0))], [.int (zI 0), .int (zI v22), .int (zI 1), .ref 134], es21)) i_27_34 rfl ?_
  refine x_min i_27_35 (by unfold i32 iLO iHI; omega) (by unfold i32 iLO iHI; omega) (Nat.le_of_ble_eq_true rfl) ?_
  obtain ⟨v23, e_v23⟩ : ∃ z : Int, z = min v22 0 := ⟨_, rfl⟩
  rw [← e_v23]
  refine x_call (vs := [.ref 134, .int (zI 1), .int (zI v23)]) (rs := []) i_27_38 rfl (fun _ => rfl) rfl rfl rfl rfl rfl rfl ?_
  show aW _ _ _ _ _ _ (0, [some (.ref 134), some (.int (zI 1)), some (.int (zI v23))], [], es21)
  refine x0 (r := (1, [some (.ref 134), some (.int (zI 1)), some (.int (zI v23))], [.int (zI 1)], es21)) i_14_0 rfl ?_
  refine x_ifF i_14_1 (by unfold i32 iLO iHI; omega) rfl (by simp only [zC, cR]; omega) ?_
  refine x0 (r := (5, [some (.ref 134), some (.int (zI 1)), some (.int (zI v23))], [.int (zI 1)], es21)) i_14_4 rfl ?_
  refine x0 (r := (6, [some (.ref 134), some (.int (zI 1)), some (.int (zI v23))], [.ref 134, .int (zI 1)], es21)) i_14_5 rfl ?_
  refine x_alen (p := 70) (n := 93) i_14_6 hs_es21 rfl ?_
  refine x_cmpF i_14_7 (by unfold i32 iLO iHI; omega) (by unfold i32 iLO iHI; omega) rfl (by simp only [zC, cR]; omega) ?_
  refine x0 (r := (11, [some (.ref 134), some (.int (zI 1)), some (.int (zI v23))], [.ref 134], es21)) i_14_10 rfl ?_
  refine x0 (r := (12, [some (.ref 134), some (.int (zI 1)), some (.int (zI v23))], [.int (zI 1), .ref 134], es21)) i_14_11 rfl ?_
  refine x0 (r := (13, [some (.ref 134), some (.int (zI 1)), some (.int (zI v23))], [.int (zI v23), .int (zI 1), .ref 134], es21)) i_14_12 rfl ?_
  refine x_iast (p := 70) i_14_13 hs_es21 rfl (by unfold i32 iLO iHI; omega) (by omega) (by omega) ?_
  obtain ⟨es24, e_es24⟩ : ∃ z : PH, z = sA es21 70 (Int.toNat 1) (zI v23) := ⟨_, rfl⟩
  have hs_es24 : sh es24 := by rw [e_es24]; exact sh_sA hs_es21
  have hT_es24 : hOK tT es24 := by rw [e_es24]; exact hOK_sA hT_es21 (p := 70) (n := 93) rfl (fun _ => i32_rng _)
  rw [← e_es24]
  refine x_ret (v := none) i_14_14 rfl (fun _ => rfl) rfl rfl rfl ?_
  show aW _ _ _ _ _ _ (41, [some (.ref 132), some (.int (zI 1)), some (.int (zI 0)), some (.int (zI 0))], [], es24)
  refine x0 (r := (42, [some (.ref 132), some (.int (zI 1)), some (.int (zI 0)), some (.int (zI 0))], [.ref 132], es24)) i_27_41 rfl ?_
  refine x_getr (p := 68) (k := 135) i_27_42 hs_es24 rfl rfl ?_
  show aW _ _ _ _ _ _ (45, [some (.ref 132), some (.int (zI 1)), some (.int (zI 0)), some (.int (zI 0))], [.ref 135], es24)
  refine x0 (r := (46, [some (.ref 132), some (.int (zI 1)), some (.int (zI 0)), some (.int (zI 0))], [.int (zI 1), .ref 135], es24)) i_27_45 rfl ?_
  refine x0 (r := (47, [some (.ref 132), some (.int (zI 1)), some (.int (zI 0)), some (.int (zI 0))], [.int (zI 0), .int (zI 1), .ref 135], es24)) i_27_46 rfl ?_
  refine x_call (vs := [.ref 135, .int (zI 1), .int (zI 0)]) (rs := []) i_27_47 rfl (fun _ => rfl) rfl rfl rfl rfl rfl rfl ?_
  show aW _ _ _ _ _ _ (0, [some (.ref 135), some (.int (zI 1)), some (.int (zI 0))], [], es24)
  refine x0 (r := (1, [some (.ref 135), some (.int (zI 1)), some (.int (zI 0))], [.int (zI 1)], es24)) i_14_0 rfl ?_
  refine x_ifF i_14_1 (by unfold i32 iLO iHI; omega) rfl (by simp only [zC, cR]; omega) ?_
  refine x0 (r := (5, [some (.ref 135), some (.int (zI 1)), some (.int (zI 0))], [.int (zI 1)], es24)) i_14_4 rfl ?_
  refine x0 (r := (6, [some (.ref 135), some (.int (zI 1)), some (.int (zI 0))], [.ref 135, .int (zI 1)], es24)) i_14_5 rfl ?_
  refine x_alen (p := 71) (n := 93) i_14_6 hs_es24 rfl ?_
  refine x_cmpF i_14_7 (by unfold i32 iLO iHI; omega) (by unfold i32 iLO iHI; omega) rfl (by simp only [zC, cR]; omega) ?_
  refine x0 (r := (11, [some (.ref 135), some (.int (zI 1)), some (.int (zI 0))], [.ref 135], es24)) i_14_10 rfl ?_
  refine x0 (r := (12, [some (.ref 135), some (.int (zI 1)), some (.int (zI 0))], [.int (zI 1), .ref 135], es24)) i_14_11 rfl ?_
  refine x0 (r := (13, [some (.ref 135), some (.int (zI 1)), some (.int (zI 0))], [.int (zI 0), .int (zI 1), .ref 135], es24)) i_14_12 rfl ?_
  refine x_iast (p := 71) i_14_13 hs_es24 rfl (by unfold i32 iLO iHI; omega) (by omega) (by omega) ?_
  obtain ⟨es25, e_es25⟩ : ∃ z : PH, z = sA es24 71 (Int.toNat 1) (zI 0) := ⟨_, rfl⟩
  have hs_es25 : sh es25 := by rw [e_es25]; exact sh_sA hs_es24
  have hT_es25 : hOK tT es25 := by rw [e_es25]; exact hOK_sA hT_es24 (p := 71) (n := 93) rfl (fun _ => i32_rng _)
  rw [← e_es25]
  refine x_ret (v := none) i_14_14 rfl (fun _ => rfl) rfl rfl rfl ?_
  show aW _ _ _ _ _ _ (50, [some (.ref 132), some (.int (zI 1)), some (.int (zI 0)), some (.int (zI 0))], [], es25)
  refine x0 (r := (51, [some (.ref 132), some (.int (zI 1)), some (.int (zI 0)), some (.int (zI 0))], [.ref 132], es25)) i_27_50 rfl ?_
  refine x_getr (p := 68) (k := 136) i_27_51 hs_es25 rfl rfl ?_
  show aW _ _ _ _ _ _ (54, [some (.ref 132), some (.int (zI 1)), some (.int (zI 0)), some (.int (zI 0))], [.ref 136], es25)
  refine x0 (r := (55, [some (.ref 132), some (.int (zI 1)), some (.int (zI 0)), some (.int (zI 0))], [.int (zI 1), .ref 136], es25)) i_27_54 rfl ?_
  refine x0 (r := (56, [some (.ref 132), some (.int (zI 1)), some (.int (zI 0)), some (.int (zI 0))], [.ref 132, .int (zI 1), .ref 136], es25)) i_27_55 rfl ?_
  refine x_getr (p := 68) (k := 136) i_27_56 hs_es25 rfl rfl ?_
  show aW _ _ _ _ _ _ (59, [some (.ref 132), some (.int (zI 1)), some (.int (zI 0)), some (.int (zI 0))], [.ref 136, .int (zI 1), .ref 136], es25)
  refine x0 (r := (60, [some (.ref 132), some (.int (zI 1)), some (.int (zI 0)), some (.int (zI 0))], [.int (zI 1), .ref 136, .int (zI 1), .ref 136], es25)) i_27_59 rfl ?_
  refine x_call (vs := [.ref 136, .int (zI 1)]) (rs := [.int (zI 1), .ref 136]) i_27_60 rfl (fun _ => rfl) rfl rfl rfl rfl rfl rfl ?_
  show aW _ _ _ _ _ _ (0, [some (.ref 136), some (.int (zI 1))], [], es25)
  refine x0 (r := (1, [some (.ref 136), some (.int (zI 1))], [.int (zI 1)], es25)) i_28_0 rfl ?_
  refine x_ifF i_28_1 (by unfold i32 iLO iHI; omega) rfl (by simp only [zC, cR]; omega) ?_
  refine x0 (r := (5, [some (.ref 136), some (.int (zI 1))], [.int (zI 1)], es25)) i_28_4 rfl ?_
  refine x0 (r := (6, [some (.ref 136), some (.int (zI 1))], [.ref 136, .int (zI 1)], es25)) i_28_5 rfl ?_
  refine x_alen (p := 72) (n := 93) i_28_6 hs_es25 rfl ?_
  refine x_cmpF i_28_7 (by unfold i32 iLO iHI; omega) (by unfold i32 iLO iHI; omega) rfl (by simp only [zC, cR]; omega) ?_
  refine x0 (r := (11, [some (.ref 136), some (.int (zI 1))], [.ref 136], es25)) i_28_10 rfl ?_
  refine x0 (r := (12, [some (.ref 136), some (.int (zI 1))], [.int (zI 1), .ref 136], es25)) i_28_11 rfl ?_
  refine x_iald (p := 72) i_28_12 hs_es25 rfl (by unfold i32 iLO iHI; omega) (by omega) (by omega) ?_
  obtain ⟨v26, e_v26⟩ : ∃ z : Int, z = (gA es25 72 (Int.toNat 1)).toInt := ⟨_, rfl⟩
  rw [← e_v26]
  have r_v26 : iLO ≤ v26 ∧ v26 ≤ iHI := by rw [e_v26]; exact i32_rng _
  unfold iLO iHI at r_v26
  refine x0 (r := (17, [some (.ref 136), some (.int (zI 1))], [.int (zI v26)], es25)) i_28_13 rfl ?_
  refine x_ret (v := some (.int (zI v26))) i_28_17 rfl (fun _ => rfl) rfl rfl rfl ?_
  show aW _ _ _ _ _ _ (63, [some (.ref 132), some (.int (zI 1)), some (.int (zI 0)), some (.int (zI 0))], [.int (zI v26), .int (zI 1), .ref 136], es25)
  refine x0 (r := (64, [some (.ref 132), some (.int (zI 1)), some (.int (zI 0)), some (.int (zI 0))], [.int (zI 0), .int (zI v26), .int (zI 1), .ref 136], es25)) i_27_63 rfl ?_
  refine x_min i_27_64 (by unfold i32 iLO iHI; omega) (by unfold i32 iLO iHI; omega) (Nat.le_of_ble_eq_true rfl) ?_
  obtain ⟨v27, e_v27⟩ : ∃ z : Int, z = min v26 0 := ⟨_, rfl⟩
  rw [← e_v27]
  refine x_call (vs := [.ref 136, .int (zI 1), .int (zI v27)]) (rs := []) i_27_67 rfl (fun _ => rfl) rfl rfl rfl rfl rfl rfl ?_
  show aW _ _ _ _ _ _ (0, [some (.ref 136), some (.int (zI 1)), some (.int (zI v27))], [], es25)
  refine x0 (r := (1, [some (.ref 136), some (.int (zI 1)), some (.int (zI v27))], [.int (zI 1)], es25)) i_14_0 rfl ?_
  refine x_ifF i_14_1 (by unfold i32 iLO iHI; omega) rfl (by simp only [zC, cR]; omega) ?_
  refine x0 (r := (5, [some (.ref 136), some (.int (zI 1)), some (.int (zI v27))], [.int (zI 1)], es25)) i_14_4 rfl ?_
  refine x0 (r := (6, [some (.ref 136), some (.int (zI 1)), some (.int (zI v27))], [.ref 136, .int (zI 1)], es25)) i_14_5 rfl ?_
  refine x_alen (p := 72) (n := 93) i_14_6 hs_es25 rfl ?_
  refine x_cmpF i_14_7 (by unfold i32 iLO iHI; omega) (by unfold i32 iLO iHI; omega) rfl (by simp only [zC, cR]; omega) ?_
  refine x0 (r := (11, [some (.ref 136), some (.int (zI 1)), some (.int (zI v27))], [.ref 136], es25)) i_14_10 rfl ?_
  refine x0 (r := (12, [some (.ref 136), some (.int (zI 1)), some (.int (zI v27))], [.int (zI 1), .ref 136], es25)) i_14_11 rfl ?_
  refine x0 (r := (13, [some (.ref 136), some (.int (zI 1)), some (.int (zI v27))], [.int (zI v27), .int (zI 1), .ref 136], es25)) i_14_12 rfl ?_
  refine x_iast (p := 72) i_14_13 hs_es25 rfl (by unfold i32 iLO iHI; omega) (by omega) (by omega) ?_
  obtain ⟨es28, e_es28⟩ : ∃ z : PH, z = sA es25 72 (Int.toNat 1) (zI v27) := ⟨_, rfl⟩
  have hs_es28 : sh es28 := by rw [e_es28]; exact sh_sA hs_es25
  have hT_es28 : hOK tT es28 := by rw [e_es28]; exact hOK_sA hT_es25 (p := 72) (n := 93) rfl (fun _ => i32_rng _)
  rw [← e_es28]
  refine x_ret (v := none) i_14_14 rfl (fun _ => rfl) rfl rfl rfl ?_
  show aW _ _ _ _ _ _ (70, [some (.ref 132), some (.int (zI 1)), some (.int (zI 0)), some (.int (zI 0))], [], es28)
  refine x_ret (v := none) i_27_70 rfl (fun _ => rfl) rfl rfl rfl ?_
  show aW _ _ _ _ _ _ (24, [some (.ref 132), some (.int (zI 0)), some (.int (zI 1))], [], es28)
  refine x_iinc (x := 1) i_25_24 rfl (by show 2 < 3; decide) ?_
  show aW _ _ _ _ _ _ (27, [some (.ref 132), some (.int (zI 0)), some (.int (zI 2))], [], es28)
  refine x0 (r := (7, [some (.ref 132), some (.int (zI 0)), some (.int (zI 2))], [], es28)) i_25_27 rfl ?_
  refine x0 (r := (8, [some (.ref 132), some (.int (zI 0)), some (.int (zI 2))], [.int (zI 2)], es28)) i_25_7 rfl ?_
  refine x0 (r := (9, [some (.ref 132), some (.int (zI 0)), some (.int (zI 2))], [.int (zI 3), .int (zI 2)], es28)) i_25_8 (by rfl) ?_
  refine x_cmpF i_25_9 (by unfold i32 iLO iHI; omega) (by unfold i32 iLO iHI; omega) rfl (by simp only [zC, cR]; omega) ?_
  refine x0 (r := (13, [some (.ref 132), some (.int (zI 0)), some (.int (zI 2))], [.ref 132], es28)) i_25_12 rfl ?_
  refine x0 (r := (14, [some (.ref 132), some (.int (zI 0)), some (.int (zI 2))], [.int (zI 2), .ref 132], es28)) i_25_13 rfl ?_
  refine x_call (vs := [.ref 132, .int (zI 2)]) (rs := []) i_25_14 rfl (fun _ => rfl) rfl rfl rfl rfl rfl (pCall_v (p := 68) hs_es28 rfl rfl rfl rfl rfl (by decide) rfl rfl rfl rfl rfl) ?_
  show aW _ _ _ _ _ _ (0, [some (.ref 132), some (.int (zI 2))], [], es28)
  refine x0 (r := (1, [some (.ref 132), some (.int (zI 2))], [.ref 132], es28)) i_26_0 rfl ?_
  refine x_getr (p := 68) (k := 134) i_26_1 hs_es28 rfl rfl ?_
  show aW _ _ _ _ _ _ (4, [some (.ref 132), some (.int (zI 2))], [.ref 134], es28)
  refine x0 (r := (5, [some (.ref 132), some (.int (zI 2))], [.int (zI 2), .ref 134], es28)) i_26_4 rfl ?_
  refine x0 (r := (8, [some (.ref 132), some (.int (zI 2))], [.int (zI 1000), .int (zI 2), .ref 134], es28)) i_26_5 (by rfl) ?_
  refine x_call (vs := [.ref 134, .int (zI 2), .int (zI 1000)]) (rs := []) i_26_8 rfl (fun _ => rfl) rfl rfl rfl rfl rfl rfl ?_
  show aW _ _ _ _ _ _ (0, [some (.ref 134), some (.int (zI 2)), some (.int (zI 1000))], [], es28)
  refine x0 (r := (1, [some (.ref 134), some (.int (zI 2)), some (.int (zI 1000))], [.int (zI 2)], es28)) i_14_0 rfl ?_
  refine x_ifF i_14_1 (by unfold i32 iLO iHI; omega) rfl (by simp only [zC, cR]; omega) ?_
  refine x0 (r := (5, [some (.ref 134), some (.int (zI 2)), some (.int (zI 1000))], [.int (zI 2)], es28)) i_14_4 rfl ?_
  refine x0 (r := (6, [some (.ref 134), some (.int (zI 2)), some (.int (zI 1000))], [.ref 134, .int (zI 2)], es28)) i_14_5 rfl ?_
  refine x_alen (p := 70) (n := 93) i_14_6 hs_es28 rfl ?_
  refine x_cmpF i_14_7 (by unfold i32 iLO iHI; omega) (by unfold i32 iLO iHI; omega) rfl (by simp only [zC, cR]; omega) ?_
  refine x0 (r := (11, [some (.ref 134), some (.int (zI 2)), some (.int (zI 1000))], [.ref 134], es28)) i_14_10 rfl ?_
  refine x0 (r := (12, [some (.ref 134), some (.int (zI 2)), some (.int (zI 1000))], [.int (zI 2), .ref 134], es28)) i_14_11 rfl ?_
  refine x0 (r := (13, [some (.ref 134), some (.int (zI 2)), some (.int (zI 1000))], [.int (zI 1000), .int (zI 2), .ref 134], es28)) i_14_12 rfl ?_
  refine x_iast (p := 70) i_14_13 hs_es28 rfl (by unfold i32 iLO iHI; omega) (by omega) (by omega) ?_
  obtain ⟨es29, e_es29⟩ : ∃ z : PH, z = sA es28 70 (Int.toNat 2) (zI 1000) := ⟨_, rfl⟩
  have hs_es29 : sh es29 := by rw [e_es29]; exact sh_sA hs_es28
  have hT_es29 : hOK tT es29 := by rw [e_es29]; exact hOK_sA hT_es28 (p := 70) (n := 93) rfl (fun _ => i32_rng _)
  rw [← e_es29]
  refine x_ret (v := none) i_14_14 rfl (fun _ => rfl) rfl rfl rfl ?_
  show aW _ _ _ _ _ _ (11, [some (.ref 132), some (.int (zI 2))], [], es29)
  refine x0 (r := (12, [some (.ref 132), some (.int (zI 2))], [.ref 132], es29)) i_26_11 rfl ?_
  refine x_getr (p := 68) (k := 135) i_26_12 hs_es29 rfl rfl ?_
  show aW _ _ _ _ _ _ (15, [some (.ref 132), some (.int (zI 2))], [.ref 135], es29)
  refine x0 (r := (16, [some (.ref 132), some (.int (zI 2))], [.int (zI 2), .ref 135], es29)) i_26_15 rfl ?_
  refine x0 (r := (17, [some (.ref 132), some (.int (zI 2))], [.int (zI (-1)), .int (zI 2), .ref 135], es29)) i_26_16 (by rfl) ?_
  refine x_call (vs := [.ref 135, .int (zI 2), .int (zI (-1))]) (rs := []) i_26_17 rfl (fun _ => rfl) rfl rfl rfl rfl rfl rfl ?_
  show aW _ _ _ _ _ _ (0, [some (.ref 135), some (.int (zI 2)), some (.int (zI (-1)))], [], es29)
  refine x0 (r := (1, [some (.ref 135), some (.int (zI 2)), some (.int (zI (-1)))], [.int (zI 2)], es29)) i_14_0 rfl ?_
  refine x_ifF i_14_1 (by unfold i32 iLO iHI; omega) rfl (by simp only [zC, cR]; omega) ?_
  refine x0 (r := (5, [some (.ref 135), some (.int (zI 2)), some (.int (zI (-1)))], [.int (zI 2)], es29)) i_14_4 rfl ?_
  refine x0 (r := (6, [some (.ref 135), some (.int (zI 2)), some (.int (zI (-1)))], [.ref 135, .int (zI 2)], es29)) i_14_5 rfl ?_
  refine x_alen (p := 71) (n := 93) i_14_6 hs_es29 rfl ?_
  refine x_cmpF i_14_7 (by unfold i32 iLO iHI; omega) (by unfold i32 iLO iHI; omega) rfl (by simp only [zC, cR]; omega) ?_
  refine x0 (r := (11, [some (.ref 135), some (.int (zI 2)), some (.int (zI (-1)))], [.ref 135], es29)) i_14_10 rfl ?_
  refine x0 (r := (12, [some (.ref 135), some (.int (zI 2)), some (.int (zI (-1)))], [.int (zI 2), .ref 135], es29)) i_14_11 rfl ?_
  refine x0 (r := (13, [some (.ref 135), some (.int (zI 2)), some (.int (zI (-1)))], [.int (zI (-1)), .int (zI 2), .ref 135], es29)) i_14_12 rfl ?_
  refine x_iast (p := 71) i_14_13 hs_es29 rfl (by unfold i32 iLO iHI; omega) (by omega) (by omega) ?_
  obtain ⟨es30, e_es30⟩ : ∃ z : PH, z = sA es29 71 (Int.toNat 2) (zI (-1)) := ⟨_, rfl⟩
  have hs_es30 : sh es30 := by rw [e_es30]; exact sh_sA hs_es29
  have hT_es30 : hOK tT es30 := by rw [e_es30]; exact hOK_sA hT_es29 (p := 71) (n := 93) rfl (fun _ => i32_rng _)
  rw [← e_es30]
  refine x_ret (v := none) i_14_14 rfl (fun _ => rfl) rfl rfl rfl ?_
  show aW _ _ _ _ _ _ (20, [some (.ref 132), some (.int (zI 2))], [], es30)
  refine x0 (r := (21, [some (.ref 132), some (.int (zI 2))], [.ref 132], es30)) i_26_20 rfl ?_
  refine x_getr (p := 68) (k := 136) i_26_21 hs_es30 rfl rfl ?_
  show aW _ _ _ _ _ _ (24, [some (.ref 132), some (.int (zI 2))], [.ref 136], es30)
  refine x0 (r := (25, [some (.ref 132), some (.int (zI 2))], [.int (zI 2), .ref 136], es30)) i_26_24 rfl ?_
  refine x0 (r := (28, [some (.ref 132), some (.int (zI 2))], [.int (zI 1000), .int (zI 2), .ref 136], es30)) i_26_25 (by rfl) ?_
  refine x_call (vs := [.ref 136, .int (zI 2), .int (zI 1000)]) (rs := []) i_26_28 rfl (fun _ => rfl) rfl rfl rfl rfl rfl rfl ?_
  show aW _ _ _ _ _ _ (0, [some (.ref 136), some (.int (zI 2)), some (.int (zI 1000))], [], es30)
  refine x0 (r := (1, [some (.ref 136), some (.int (zI 2)), some (.int (zI 1000))], [.int (zI 2)], es30)) i_14_0 rfl ?_
  refine x_ifF i_14_1 (by unfold i32 iLO iHI; omega) rfl (by simp only [zC, cR]; omega) ?_
  refine x0 (r := (5, [some (.ref 136), some (.int (zI 2)), some (.int (zI 1000))], [.int (zI 2)], es30)) i_14_4 rfl ?_
  refine x0 (r := (6, [some (.ref 136), some (.int (zI 2)), some (.int (zI 1000))], [.ref 136, .int (zI 2)], es30)) i_14_5 rfl ?_
  refine x_alen (p := 72) (n := 93) i_14_6 hs_es30 rfl ?_
  refine x_cmpF i_14_7 (by unfold i32 iLO iHI; omega) (by unfold i32 iLO iHI; omega) rfl (by simp only [zC, cR]; omega) ?_
  refine x0 (r := (11, [some (.ref 136), some (.int (zI 2)), some (.int (zI 1000))], [.ref 136], es30)) i_14_10 rfl ?_
  refine x0 (r := (12, [some (.ref 136), some (.int (zI 2)), some (.int (zI 1000))], [.int (zI 2), .ref 136], es30)) i_14_11 rfl ?_
  refine x0 (r := (13, [some (.ref 136), some (.int (zI 2)), some (.int (zI 1000))], [.int (zI 1000), .int (zI 2), .ref 136], es30)) i_14_12 rfl ?_
  refine x_iast (p := 72) i_14_13 hs_es30 rfl (by unfold i32 iLO iHI; omega) (by omega) (by omega) ?_
  obtain ⟨es31, e_es31⟩ : ∃ z : PH, z = sA es30 72 (Int.toNat 2) (zI 1000) := ⟨_, rfl⟩
  have hs_es31 : sh es31 := by rw [e_es31]; exact sh_sA hs_es30
  have hT_es31 : hOK tT es31 := by rw [e_es31]; exact hOK_sA hT_es30 (p := 72) (n := 93) rfl (fun _ => i32_rng _)
  rw [← e_es31]
  refine x_ret (v := none) i_14_14 rfl (fun _ => rfl) rfl rfl rfl ?_
  show aW _ _ _ _ _ _ (31, [some (.ref 132), some (.int (zI 2))], [], es31)
  refine x_ret (v := none) i_26_31 rfl (fun _ => rfl) rfl rfl rfl ?_
  show aW _ _ _ _ _ _ (17, [some (.ref 132), some (.int (zI 0)), some (.int (zI 2))], [], es31)
  refine x0 (r := (18, [some (.ref 132), some (.int (zI 0)), some (.int (zI 2))], [.ref 132], es31)) i_25_17 rfl ?_
  refine x0 (r := (19, [some (.ref 132), some (.int (zI 0)), some (.int (zI 2))], [.int (zI 2), .ref 132], es31)) i_25_18 rfl ?_
  refine x0 (r := (20, [some (.ref 132), some (.int (zI 0)), some (.int (zI 2))], [.int (zI 0), .int (zI 2), .ref 132], es31)) i_25_19 (by rfl) ?_
  refine x0 (r := (21, [some (.ref 132), some (.int (zI 0)), some (.int (zI 2))], [.int (zI 0), .int (zI 0), .int (zI 2), .ref 132], es31)) i_25_20 (by rfl) ?_
  refine x_call (vs := [.ref 132, .int (zI 2), .int (zI 0), .int (zI 0)]) (rs := []) i_25_21 rfl (fun _ => rfl) rfl rfl rfl rfl rfl (pCall_v (p := 68) hs_es31 rfl rfl rfl rfl rfl (by decide) rfl rfl rfl rfl rfl) ?_
  show aW _ _ _ _ _ _ (0, [some (.ref 132), some (.int (zI 2)), some (.int (zI 0)), some (.int (zI 0))], [], es31)
  refine x0 (r := (1, [some (.ref 132), some (.int (zI 2)), some (.int (zI 0)), some (.int (zI 0))], [.ref 132], es31)) i_27_0 rfl ?_
  refine x_getr (p := 68) (k := 133) i_27_1 hs_es31 rfl rfl ?_
  show aW _ _ _ _ _ _ (4, [some (.ref 132), some (.int (zI 2)), some (.int (zI 0)), some (.int (zI 0))], [.ref 133], es31)
  refine x0 (r := (5, [some (.ref 132), some (.int (zI 2)), some (.int (zI 0)), some (.int (zI 0))], [.int (zI 2), .ref 133], es31)) i_27_4 rfl ?_
  refine x0 (r := (7, [some (.ref 132), some (.int (zI 2)), some (.int (zI 0)), some (.int (zI 0))], [.int (zI 25), .int (zI 2), .ref 133], es31)) i_27_5 (by rfl) ?_
  refine x_imul i_27_7 ?_
  show aW _ _ _ _ _ _ (8, [some (.ref 132), some (.int (zI 2)), some (.int (zI 0)), some (.int (zI 0))], [.int (zI 50), .ref 133], es31)
  refine x0 (r := (9, [some (.ref 132), some (.int (zI 2)), some (.int (zI 0)), some (.int (zI 0))], [.int (zI 0), .int (zI 50), .ref 133], es31)) i_27_8 rfl ?_
  refine x_iadd i_27_9 ?_
  show aW _ _ _ _ _ _ (10, [some (.ref 132), some (.int (zI 2)), some (.int (zI 0)), some (.int (zI 0))], [.int (zI 50), .ref 133], es31)
  refine x0 (r := (11, [some (.ref 132), some (.int (zI 2)), some (.int (zI 0)), some (.int (zI 0))], [.int (zI 0), .int (zI 50), .ref 133], es31)) i_27_10 rfl ?_
  refine x_call (vs := [.ref 133, .int (zI 50), .int (zI 0)]) (rs := []) i_27_11 rfl (fun _ => rfl) rfl rfl rfl rfl rfl rfl ?_
  show aW _ _ _ _ _ _ (0, [some (.ref 133), some (.int (zI 50)), some (.int (zI 0))], [], es31)
  refine x0 (r := (1, [some (.ref 133), some (.int (zI 50)), some (.int (zI 0))], [.int (zI 50)], es31)) i_14_0 rfl ?_
  refine x_ifF i_14_1 (by unfold i32 iLO iHI; omega) rfl (by simp only [zC, cR]; omega) ?_
  refine x0 (r := (5, [some (.ref 133), some (.int (zI 50)), some (.int (zI 0))], [.int (zI 50)], es31)) i_14_4 rfl ?_
  refine x0 (r := (6, [some (.ref 133), some (.int (zI 50)), some (.int (zI 0))], [.ref 133, .int (zI 50)], es31)) i_14_5 rfl ?_
  refine x_alen (p := 69) (n := 2325) i_14_6 hs_es31 rfl ?_
  refine x_cmpF i_14_7 (by unfold i32 iLO iHI; omega) (by unfold i32 iLO iHI; omega) rfl (by simp only [zC, cR]; omega) ?_
  refine x0 (r := (11, [some (.ref 133), some (.int (zI 50)), some (.int (zI 0))], [.ref 133], es31)) i_14_10 rfl ?_
  refine x0 (r := (12, [some (.ref 133), some (.int (zI 50)), some (.int (zI 0))], [.int (zI 50), .ref 133], es31)) i_14_11 rfl ?_
  refine x0 (r := (13, [some (.ref 133), some (.int (zI 50)), some (.int (zI 0))], [.int (zI 0), .int (zI 50), .ref 133], es31)) i_14_12 rfl ?_
  refine x_iast (p := 69) i_14_13 hs_es31 rfl (by unfold i32 iLO iHI; omega) (by omega) (by omega) ?_
  obtain ⟨es32, e_es32⟩ : ∃ z : PH, z = sA es31 69 (Int.toNat 50) (zI 0) := ⟨_, rfl⟩
  have hs_es32 : sh es32 := by rw [e_es32]; exact sh_sA hs_es31
  have hT_es32 : hOK tT es32 := by rw [e_es32]; exact hOK_sA hT_es31 (p := 69) (n := 2325) rfl (fun _ => i32_rng _)
  rw [← e_es32]
  refine x_ret (v := none) i_14_14 rfl (fun _ => rfl) rfl rfl rfl ?_
  show aW _ _ _ _ _ _ (14, [some (.ref 132), some (.int (zI 2)), some (.int (zI 0)), some (.int (zI 0))], [], es32)
  refine x0 (r := (15, [some (.ref 132), some (.int (zI 2)), some (.int (zI 0)), some (.int (zI 0))], [.int (zI 0)], es32)) i_27_14 rfl ?_
  refine x0 (r := (18, [some (.ref 132), some (.int (zI 2)), some (.int (zI 0)), some (.int (zI 0))], [.int (zI 1000), .int (zI 0)], es32)) i_27_15 (by rfl) ?_
  refine x_cmpF i_27_18 (by unfold i32 iLO iHI; omega) (by unfold i32 iLO iHI; omega) rfl (by simp only [zC, cR]; omega) ?_
  refine x0 (r := (22, [some (.ref 132), some (.int (zI 2)), some (.int (zI 0)), some (.int (zI 0))], [.ref 132], es32)) i_27_21 rfl ?_
  refine x_getr (p := 68) (k := 134) i_27_22 hs_es32 rfl rfl ?_
  show aW _ _ _ _ _ _ (25, [some (.ref 132), some (.int (zI 2)), some (.int (zI 0)), some (.int (zI 0))], [.ref 134], es32)
  refine x0 (r := (26, [some (.ref 132), some (.int (zI 2)), some (.int (zI 0)), some (.int (zI 0))], [.int (zI 2), .ref 134], es32)) i_27_25 rfl ?_
  refine x0 (r := (27, [some (.ref 132), some (.int (zI 2)), some (.int (zI 0)), some (.int (zI 0))], [.ref 132, .int (zI 2), .ref 134], es32)) i_27_26 rfl ?_
  refine x_getr (p := 68) (k := 134) i_27_27 hs_es32 rfl rfl ?_
  show aW _ _ _ _ _ _ (30, [some (.ref 132), some (.int (zI 2)), some (.int (zI 0)), some (.int (zI 0))], [.ref 134, .int (zI 2), .ref 134], es32)
  refine x0 (r := (31, [some (.ref 132), some (.int (zI 2)), some (.int (zI 0)), some (.int (zI 0))], [.int (zI 2), .ref 134, .int (zI 2), .ref 134], es32)) i_27_30 rfl ?_
  refine x_call (vs := [.ref 134, .int (zI 2)]) (rs := [.int (zI 2), .ref 134]) i_27_31 rfl (fun _ => rfl) rfl rfl rfl rfl rfl rfl ?_
  show aW _ _ _ _ _ _ (0, [some (.ref 134), some (.int (zI 2))], [], es32)
  refine x0 (r := (1, [some (.ref 134), some (.int (zI 2))], [.int (zI 2)], es32)) i_28_0 rfl ?_
  refine x_ifF i_28_1 (by unfold i32 iLO iHI; omega) rfl (by simp only [zC, cR]; omega) ?_
  refine x0 (r := (5, [some (.ref 134), some (.int (zI 2))], [.int (zI 2)], es32)) i_28_4 rfl ?_
  refine x0 (r := (6, [some (.ref 134), some (.int (zI 2))], [.ref 134, .int (zI 2)], es32)) i_28_5 rfl ?_
  refine x_alen (p := 70) (n := 93) i_28_6 hs_es32 rfl ?_
  refine x_cmpF i_28_7 (by unfold i32 iLO iHI; omega) (by unfold i32 iLO iHI; omega) rfl (by simp only [zC, cR]; omega) ?_
  refine x0 (r := (11, [some (.ref 134), some (.int (zI 2))], [.ref 134], es32)) i_28_10 rfl ?_
  refine x0 (r := (12, [some (.ref 134), some (.int (zI 2))], [.int (zI 2), .ref 134], es32)) i_28_11 rfl ?_
  refine x_iald (p := 70) i_28_12 hs_es32 rfl (by unfold i32 iLO iHI; omega) (by omega) (by omega) ?_
  obtain ⟨v33, e_v33⟩ : ∃ z : Int, z = (gA es32 70 (Int.toNat 2)).toInt := ⟨_, rfl⟩
  rw [← e_v33]
  have r_v33 : iLO ≤ v33 ∧ v33 ≤ iHI := by rw [e_v33]; exact i32_rng _
  unfold iLO iHI at r_v33
  refine x0 (r := (17, [some (.ref 134), some (.int (zI 2))], [.int (zI v33)], es32)) i_28_13 rfl ?_
  refine x_ret (v := some (.int (zI v33))) i_28_17 rfl (fun _ => rfl) rfl rfl rfl ?_
  show aW _ _ _ _ _ _ (34, [some (.ref 132), some (.int (zI 2)), some (.int (zI 0)), some (.int (zI 0))], [.int (zI v33), .int (zI 2), .ref 134], es32)
  refine x0 (r := (35, [some (.ref 132), some (.int (zI 2)), some (.int (zI 0)), some (.int (zI 0))], [.int (zI 0), .int (zI v33), .int (zI 2), .ref 134], es32)) i_27_34 rfl ?_
  refine x_min i_27_35 (by unfold i32 iLO iHI; omega) (by unfold i32 iLO iHI; omega) (Nat.le_of_ble_eq_true rfl) ?_
  obtain ⟨v34, e_v34⟩ : ∃ z : Int, z = min v33 0 := ⟨_, rfl⟩
  rw [← e_v34]
  refine x_call (vs := [.ref 134, .int (zI 2), .int (zI v34)]) (rs := []) i_27_38 rfl (fun _ => rfl) rfl rfl rfl rfl rfl rfl ?_
  show aW _ _ _ _ _ _ (0, [some (.ref 134), some (.int (zI 2)), some (.int (zI v34))], [], es32)
  refine x0 (r := (1, [some (.ref 134), some (.int (zI 2)), some (.int (zI v34))], [.int (zI 2)], es32)) i_14_0 rfl ?_
  refine x_ifF i_14_1 (by unfold i32 iLO iHI; omega) rfl (by simp only [zC, cR]; omega) ?_
  refine x0 (r := (5, [some (.ref 134), some (.int (zI 2)), some (.int (zI v34))], [.int (zI 2)], es32)) i_14_4 rfl ?_
  refine x0 (r := (6, [some (.ref 134), some (.int (zI 2)), some (.int (zI v34))], [.ref 134, .int (zI 2)], es32)) i_14_5 rfl ?_
  refine x_alen (p := 70) (n := 93) i_14_6 hs_es32 rfl ?_
  refine x_cmpF i_14_7 (by unfold i32 iLO iHI; omega) (by unfold i32 iLO iHI; omega) rfl (by simp only [zC, cR]; omega) ?_
  refine x0 (r := (11, [some (.ref 134), some (.int (zI 2)), some (.int (zI v34))], [.ref 134], es32)) i_14_10 rfl ?_
  refine x0 (r := (12, [some (.ref 134), some (.int (zI 2)), some (.int (zI v34))], [.int (zI 2), .ref 134], es32)) i_14_11 rfl ?_
  refine x0 (r := (13, [some (.ref 134), some (.int (zI 2)), some (.int (zI v34))], [.int (zI v34), .int (zI 2), .ref 134], es32)) i_14_12 rfl ?_
  refine x_iast (p := 70) i_14_13 hs_es32 rfl (by unfold i32 iLO iHI; omega) (by omega) (by omega) ?_
  obtain ⟨es35, e_es35⟩ : ∃ z : PH, z = sA es32 70 (Int.toNat 2) (zI v34) := ⟨_, rfl⟩
  have hs_es35 : sh es35 := by rw [e_es35]; exact sh_sA hs_es32
  have hT_es35 : hOK tT es35 := by rw [e_es35]; exact hOK_sA hT_es32 (p := 70) (n := 93) rfl (fun _ => i32_rng _)
  rw [← e_es35]
  refine x_ret (v := none) i_14_14 rfl (fun _ => rfl) rfl rfl rfl ?_
  show aW _ _ _ _ _ _ (41, [some (.ref 132), some (.int (zI 2)), some (.int (zI 0)), some (.int (zI 0))], [], es35)
  refine x0 (r := (42, [some (.ref 132), some (.int (zI 2)), some (.int (zI 0)), some (.int (zI 0))], [.ref 132], es35)) i_27_41 rfl ?_
  refine x_getr (p := 68) (k := 135) i_27_42 hs_es35 rfl rfl ?_
  show aW _ _ _ _ _ _ (45, [some (.ref 132), some (.int (zI 2)), some (.int (zI 0)), some (.int (zI 0))], [.ref 135], es35)
  refine x0 (r := (46, [some (.ref 132), some (.int (zI 2)), some (.int (zI 0)), some (.int (zI 0))], [.int (zI 2), .ref 135], es35)) i_27_45 rfl ?_
  refine x0 (r := (47, [some (.ref 132), some (.int (zI 2)), some (.int (zI 0)), some (.int (zI 0))], [.int (zI 0), .int (zI 2), .ref 135], es35)) i_27_46 rfl ?_
  refine x_call (vs := [.ref 135, .int (zI 2), .int (zI 0)]) (rs := []) i_27_47 rfl (fun _ => rfl) rfl rfl rfl rfl rfl rfl ?_
  show aW _ _ _ _ _ _ (0, [some (.ref 135), some (.int (zI 2)), some (.int (zI 0))], [], es35)
  refine x0 (r := (1, [some (.ref 135), some (.int (zI 2)), some (.int (zI 0))], [.int (zI 2)], es35)) i_14_0 rfl ?_
  refine x_ifF i_14_1 (by unfold i32 iLO iHI; omega) rfl (by simp only [zC, cR]; omega) ?_
  refine x0 (r := (5, [some (.ref 135), some (.int (zI 2)), some (.int (zI 0))], [.int (zI 2)], es35)) i_14_4 rfl ?_
  refine x0 (r := (6, [some (.ref 135), some (.int (zI 2)), some (.int (zI 0))], [.ref 135, .int (zI 2)], es35)) i_14_5 rfl ?_
  refine x_alen (p := 71) (n := 93) i_14_6 hs_es35 rfl ?_
  refine x_cmpF i_14_7 (by unfold i32 iLO iHI; omega) (by unfold i32 iLO iHI; omega) rfl (by simp only [zC, cR]; omega) ?_
  refine x0 (r := (11, [some (.ref 135), some (.int (zI 2)), some (.int (zI 0))], [.ref 135], es35)) i_14_10 rfl ?_
  refine x0 (r := (12, [some (.ref 135), some (.int (zI 2)), some (.int (zI 0))], [.int (zI 2), .ref 135], es35)) i_14_11 rfl ?_
  refine x0 (r := (13, [some (.ref 135), some (.int (zI 2)), some (.int (zI 0))], [.int (zI 0), .int (zI 2), .ref 135], es35)) i_14_12 rfl ?_
  refine x_iast (p := 71) i_14_13 hs_es35 rfl (by unfold i32 iLO iHI; omega) (by omega) (by omega) ?_
  obtain ⟨es36, e_es36⟩ : ∃ z : PH, z = sA es35 71 (Int.toNat 2) (zI 0) := ⟨_, rfl⟩
  have hs_es36 : sh es36 := by rw [e_es36]; exact sh_sA hs_es35
  have hT_es36 : hOK tT es36 := by rw [e_es36]; exact hOK_sA hT_es35 (p := 71) (n := 93) rfl (fun _ => i32_rng _)
  rw [← e_es36]
  refine x_ret (v := none) i_14_14 rfl (fun _ => rfl) rfl rfl rfl ?_
  show aW _ _ _ _ _ _ (50, [some (.ref 132), some (.int (zI 2)), some (.int (zI 0)), some (.int (zI 0))], [], es36)
  refine x0 (r := (51, [some (.ref 132), some (.int (zI 2)), some (.int (zI 0)), some (.int (zI 0))], [.ref 132], es36)) i_27_50 rfl ?_
  refine x_getr (p := 68) (k := 136) i_27_51 hs_es36 rfl rfl ?_
  show aW _ _ _ _ _ _ (54, [some (.ref 132), some (.int (zI 2)), some (.int (zI 0)), some (.int (zI 0))], [.ref 136], es36)
  refine x0 (r := (55, [some (.ref 132), some (.int (zI 2)), some (.int (zI 0)), some (.int (zI 0))], [.int (zI 2), .ref 136], es36)) i_27_54 rfl ?_
  refine x0 (r := (56, [some (.ref 132), some (.int (zI 2)), some (.int (zI 0)), some (.int (zI 0))], [.ref 132, .int (zI 2), .ref 136], es36)) i_27_55 rfl ?_
  refine x_getr (p := 68) (k := 136) i_27_56 hs_es36 rfl rfl ?_
  show aW _ _ _ _ _ _ (59, [some (.ref 132), some (.int (zI 2)), some (.int (zI 0)), some (.int (zI 0))], [.ref 136, .int (zI 2), .ref 136], es36)
  refine x0 (r := (60, [some (.ref 132), some (.int (zI 2)), some (.int (zI 0)), some (.int (zI 0))], [.int (zI 2), .ref 136, .int (zI 2), .ref 136], es36)) i_27_59 rfl ?_
  refine x_call (vs := [.ref 136, .int (zI 2)]) (rs := [.int (zI 2), .ref 136]) i_27_60 rfl (fun _ => rfl) rfl rfl rfl rfl rfl rfl ?_
  show aW _ _ _ _ _ _ (0, [some (.ref 136), some (.int (zI 2))], [], es36)
  refine x0 (r := (1, [some (.ref 136), some (.int (zI 2))], [.int (zI 2)], es36)) i_28_0 rfl ?_
  refine x_ifF i_28_1 (by unfold i32 iLO iHI; omega) rfl (by simp only [zC, cR]; omega) ?_
  refine x0 (r := (5, [some (.ref 136), some (.int (zI 2))], [.int (zI 2)], es36)) i_28_4 rfl ?_
  refine x0 (r := (6, [some (.ref 136), some (.int (zI 2))], [.ref 136, .int (zI 2)], es36)) i_28_5 rfl ?_
  refine x_alen (p := 72) (n := 93) i_28_6 hs_es36 rfl ?_
  refine x_cmpF i_28_7 (by unfold i32 iLO iHI; omega) (by unfold i32 iLO iHI; omega) rfl (by simp only [zC, cR]; omega) ?_
  refine x0 (r := (11, [some (.ref 136), some (.int (zI 2))], [.ref 136], es36)) i_28_10 rfl ?_
  refine x0 (r := (12, [some (.ref 136), some (.int (zI 2))], [.int (zI 2), .ref 136], es36)) i_28_11 rfl ?_
  refine x_iald (p := 72) i_28_12 hs_es36 rfl (by unfold i32 iLO iHI; omega) (by omega) (by omega) ?_
  obtain ⟨v37, e_v37⟩ : ∃ z : Int, z = (gA es36 72 (Int.toNat 2)).toInt := ⟨_, rfl⟩
  rw [← e_v37]
  have r_v37 : iLO ≤ v37 ∧ v37 ≤ iHI := by rw [e_v37]; exact i32_rng _
  unfold iLO iHI at r_v37
  refine x0 (r := (17, [some (.ref 136), some (.int (zI 2))], [.int (zI v37)], es36)) i_28_13 rfl ?_
  refine x_ret (v := some (.int (zI v37))) i_28_17 rfl (fun _ => rfl) rfl rfl rfl ?_
  show aW _ _ _ _ _ _ (63, [some (.ref 132), some (.int (zI 2)), some (.int (zI 0)), some (.int (zI 0))], [.int (zI v37), .int (zI 2), .ref 136], es36)
  refine x0 (r := (64, [some (.ref 132), some (.int (zI 2)), some (.int (zI 0)), some (.int (zI 0))], [.int (zI 0), .int (zI v37), .int (zI 2), .ref 136], es36)) i_27_63 rfl ?_
  refine x_min i_27_64 (by unfold i32 iLO iHI; omega) (by unfold i32 iLO iHI; omega) (Nat.le_of_ble_eq_true rfl) ?_
  obtain ⟨v38, e_v38⟩ : ∃ z : Int, z = min v37 0 := ⟨_, rfl⟩
  rw [← e_v38]
  refine x_call (vs := [.ref 136, .int (zI 2), .int (zI v38)]) (rs := []) i_27_67 rfl (fun _ => rfl) rfl rfl rfl rfl rfl rfl ?_
  show aW _ _ _ _ _ _ (0, [some (.ref 136), some (.int (zI 2)), some (.int (zI v38))], [], es36)
  refine x0 (r := (1, [some (.ref 136), some (.int (zI 2)), some (.int (zI v38))], [.int (zI 2)], es36)) i_14_0 rfl ?_
  refine x_ifF i_14_1 (by unfold i32 iLO iHI; omega) rfl (by simp only [zC, cR]; omega) ?_
  refine x0 (r := (5, [some (.ref 136), some (.int (zI 2)), some (.int (zI v38))], [.int (zI 2)], es36)) i_14_4 rfl ?_
  refine x0 (r := (6, [some (.ref 136), some (.int (zI 2)), some (.int (zI v38))], [.ref 136, .int (zI 2)], es36)) i_14_5 rfl ?_
  refine x_alen (p := 72) (n := 93) i_14_6 hs_es36 rfl ?_
  refine x_cmpF i_14_7 (by unfold i32 iLO iHI; omega) (by unfold i32 iLO iHI; omega) rfl (by simp only [zC, cR]; omega) ?_
  refine x0 (r := (11, [some (.ref 136), some (.int (zI 2)), some (.int (zI v38))], [.ref 136], es36)) i_14_10 rfl ?_
  refine x0 (r := (12, [some (.ref 136), some (.int (zI 2)), some (.int (zI v38))], [.int (zI 2), .ref 136], es36)) i_14_11 rfl ?_
  refine x0 (r := (13, [some (.ref 136), some (.int (zI 2)), some (.int (zI v38))], [.int (zI v38), .int (zI 2), .ref 136], es36)) i_14_12 rfl ?_
  refine x_iast (p := 72) i_14_13 hs_es36 rfl (by unfold i32 iLO iHI; omega) (by omega) (by omega) ?_
  obtain ⟨es39, e_es39⟩ : ∃ z : PH, z = sA es36 72 (Int.toNat 2) (zI v38) := ⟨_, rfl⟩
  have hs_es39 : sh es39 := by rw [e_es39]; exact sh_sA hs_es36
  have hT_es39 : hOK tT es39 := by rw [e_es39]; exact hOK_sA hT_es36 (p := 72) (n := 93) rfl (fun _ => i32_rng _)
  rw [← e_es39]
  refine x_ret (v := none) i_14_14 rfl (fun _ => rfl) rfl rfl rfl ?_
  show aW _ _ _ _ _ _ (70, [some (.ref 132), some (.int (zI 2)), some (.int (zI 0)), some (.int (zI 0))], [], es39)
  refine x_ret (v := none) i_27_70 rfl (fun _ => rfl) rfl rfl rfl ?_
  show aW _ _ _ _ _ _ (24, [some (.ref 132), some (.int (zI 0)), some (.int (zI 2))], [], es39)
  refine x_iinc (x := 2) i_25_24 rfl (by show 2 < 3; decide) ?_
  show aW _ _ _ _ _ _ (27, [some (.ref 132), some (.int (zI 0)), some (.int (zI 3))], [], es39)
  refine x0 (r := (7, [some (.ref 132), some (.int (zI 0)), some (.int (zI 3))], [], es39)) i_25_27 rfl ?_
  refine x0 (r := (8, [some (.ref 132), some (.int (zI 0)), some (.int (zI 3))], [.int (zI 3)], es39)) i_25_7 rfl ?_
  refine x0 (r := (9, [some (.ref 132), some (.int (zI 0)), some (.int (zI 3))], [.int (zI 3), .int (zI 3)], es39)) i_25_8 (by rfl) ?_
  refine x_cmpT i_25_9 (by unfold i32 iLO iHI; omega) (by unfold i32 iLO iHI; omega) rfl (by simp only [zC, cR]; omega) ?_
  refine x_ret (v := none) i_25_30 rfl (fun _ => rfl) rfl rfl rfl ?_
  show aW _ _ _ _ _ _ (25, [some (.ref 116), some (.int (zI 0)), some (.int (zI 0))], [], es39)
  refine x_ret (v := none) i_23_25 rfl (fun _ => rfl) rfl rfl rfl ?_
  show aW _ _ _ _ _ _ (16, [some (.ref 116)], [], es39)
  refine x0 (r := (17, [some (.ref 116)], [.ref 116], es39)) i_150_16 rfl ?_
  refine x0 (r := (18, [some (.ref 116)], [.int (zI 0), .ref 116], es39)) i_150_17 (by rfl) ?_
  exact K1 es1 e_es1 es2 e_es2 es3 e_es3 es4 e_es4 es5 e_es5 es6 e_es6 es7 e_es7 es8 e_es8 es9 e_es9 es10 e_es10 v11 e_v11 v12 e_v12 es13 e_es13 es14 e_es14 v15 e_v15 v16 e_v16 es17 e_es17 es18 e_es18 es19 e_es19 es20 e_es20 es21 e_es21 v22 e_v22 v23 e_v23 es24 e_es24 es25 e_es25 v26 e_v26 v27 e_v27 es28 e_es28 es29 e_es29 es30 e_es30 es31 e_es31 es32 e_es32 v33 e_v33 v34 e_v34 es35 e_es35 es36 e_es36 v37 e_v37 v38 e_v38 es39 e_es39 hT_es39
theorem s_dn21 {O : pOut} {d kc ks : Nat} {Q : pRes → Prop} {es : PH} (hs_es : sh es) (hT_es : hOK tT es)
    (K1 : ∀ v1 : Int, v1 = (gI es 52 16).toInt → v1 ≤ 8000 → ∀ v3 : Int, v3 = (gI es 52 17).toInt → Q (.inl (some (.int (zI v3))), es, kc, ks))
    (K2 : ∀ v1 : Int, v1 = (gI es 52 16).toInt → ¬ (v1 ≤ 8000) → Q (.inl (some (.int (zI (-2)))), es, kc, ks)) :
    aW O (d + 1) 150 kc ks Q (21, [some (.ref 116)], [], es) := by
  refine x0 (r := (22, [some (.ref 116)], [.ref 116], es)) i_150_21 rfl ?_
  refine x_call (vs := [.ref 116]) (rs := []) i_150_22 rfl (fun _ => rfl) rfl rfl rfl rfl rfl (pCall_v (p := 52) hs_es rfl rfl rfl rfl rfl (by decide) rfl rfl rfl rfl rfl) ?_
  show aW _ _ _ _ _ _ (0, [some (.ref 116)], [], es)
  refine x0 (r := (1, [some (.ref 116)], [.ref 116], es)) i_31_0 rfl ?_
  refine x_geti (p := 52) i_31_1 hs_es rfl rfl ?_
  obtain ⟨v1, e_v1⟩ : ∃ z : Int, z = (gI es 52 16).toInt := ⟨_, rfl⟩
  rw [← e_v1]
  have r_v1 : iLO ≤ v1 ∧ v1 ≤ iHI := by rw [e_v1]; exact i32_rng _
  unfold iLO iHI at r_v1
  refine x0 (r := (7, [some (.ref 116)], [.int (zI 8000), .int (zI v1)], es)) i_31_4 (by rfl) ?_
  by_cases c2 : v1 ≤ 8000
  · refine x_cmpT i_31_7 (by unfold i32 iLO iHI; omega) (by unfold i32 iLO iHI; omega) rfl (by simp only [zC, cR]; omega) ?_
    refine x0 (r := (15, [some (.ref 116)], [.int (zI 0)], es)) i_31_14 (by rfl) ?_
    refine x_ret (v := some (.int (zI 0))) i_31_15 rfl (fun _ => rfl) rfl rfl (pFin_b (by omega)) ?_
    show aW _ _ _ _ _ _ (25, [some (.ref 116)], [.int (zI 0)], es)
    refine x_ifT i_150_25 (by unfold i32 iLO iHI; omega) rfl (by simp only [zC, cR]; omega) ?_
    refine x0 (r := (34, [some (.ref 116)], [.ref 116], es)) i_150_33 rfl ?_
    refine x_geti (p := 52) i_150_34 hs_es rfl rfl ?_
    obtain ⟨v3, e_v3⟩ : ∃ z : Int, z = (gI es 52 17).toInt := ⟨_, rfl⟩
    rw [← e_v3]
    have r_v3 : iLO ≤ v3 ∧ v3 ≤ iHI := by rw [e_v3]; exact i32_rng _
    unfold iLO iHI at r_v3
    refine x_ret (v := some (.int (zI v3))) i_150_37 rfl (fun _ => rfl) rfl rfl rfl ?_
    exact K1 v1 e_v1 c2 v3 e_v3
  · refine x_cmpF i_31_7 (by unfold i32 iLO iHI; omega) (by unfold i32 iLO iHI; omega) rfl (by simp only [zC, cR]; omega) ?_
    refine x0 (r := (11, [some (.ref 116)], [.int (zI 1)], es)) i_31_10 (by rfl) ?_
    refine x0 (r := (15, [some (.ref 116)], [.int (zI 1)], es)) i_31_11 rfl ?_
    refine x_ret (v := some (.int (zI 1))) i_31_15 rfl (fun _ => rfl) rfl rfl (pFin_b (by omega)) ?_
    show aW _ _ _ _ _ _ (25, [some (.ref 116)], [.int (zI 1)], es)
    refine x_ifF i_150_25 (by unfold i32 iLO iHI; omega) rfl (by simp only [zC, cR]; omega) ?_
    refine x0 (r := (30, [some (.ref 116)], [.int (zI (-2))], es)) i_150_28 (by rfl) ?_
    refine x0 (r := (37, [some (.ref 116)], [.int (zI (-2))], es)) i_150_30 rfl ?_
    refine x_ret (v := some (.int (zI (-2)))) i_150_37 rfl (fun _ => rfl) rfl rfl rfl ?_
    exact K2 v1 e_v1 c2
theorem dn_sp {xs : Nat → Int32} {N d kc ks : Nat} {Q : pRes → Prop} {es : PH} {b nb : Nat} {wy : Int} {K : Nat → Nat × (Nat → Int × Nat)} {nt : Nat → Nat → Int} {B : Nat → Int} (hN3 : N ≤ 3584) (hb : b ≤ 2) (hn : nb ≤ 24) (hNT : ntB nt nb) (hBr : rwB B) (hT : hOK tT es) (q0 : (gI es 53 0).toInt = (b : Int)) (q1 : (gI es 53 1).toInt = (b : Int) + 1) (q2 : (gI es 53 2).toInt = 0) (q3 : ∀ i, i < 8 → (gA es 55 i).toInt = 0) (q5 : (gA es 13 b).toInt = (nb : Int)) (q6 : (gA es 54 b).toInt = wy) (hK : kdC K 9 10 es) (q10 : ∀ j, j < nb → ∀ q, q < 4 → (gA es 14 (96 * b + 4 * j + q)).toInt = nt j q) (hB : bdC B 11 es) (KQ : ∀ (es' : PH) (v : Int), hOK tT es' → (gA es' 13 b).toInt = (nb : Int) → (v = if 8000 < tN (zKid K nt wy nb) 24 0 B then -2 else (tX (zKid K nt wy nb) 24 0 B : Int)) → Q (.inl (some (.int (zI v))), es', kc, ks)) : aW (pO0 xs N) (d + 30) 150 kc ks Q (0, [some (.ref 116)], [], es) := by
  have hs_es := sh_of hT
  refine s_dn0 (d := d + 26) hs_es hT (fun es1 e_es1 es2 e_es2 es3 e_es3 es4 e_es4 es5 e_es5 es6 e_es6 es7 e_es7 es8 e_es8 es9 e_es9 es10 e_es10 v11 e_v11 v12 e_v12 es13 e_es13 es14 e_es14 v15 e_v15 v16 e_v16 es17 e_es17 es18 e_es18 es19 e_es19 es20 e_es20 es21 e_es21 v22 e_v22 v23 e_v23 es24 e_es24 es25 e_es25 v26 e_v26 v27 e_v27 es28 e_es28 es29 e_es29 es30 e_es30 es31 e_es31 es32 e_es32 v33 e_v33 v34 e_v34 es35 e_es35 es36 e_es36 v37 e_v37 v38 e_v38 es39 e_es39 hT_es39 => ?_)
  have hs_es1 : sh es1 := by rw [e_es1]; exact sh_sI hs_es (p := 52) (b := 16) rfl rfl
  have hs_es2 : sh es2 := by rw [e_es2]; exact sh_sI hs_es1 (p := 52) (b := 17) rfl rfl
  have hs_es3 : sh es3 := by rw [e_es3]; exact sh_sI hs_es2 (p := 52) (b := 15) rfl rfl
  have hs_es4 : sh es4 := by rw [e_es4]; exact sh_sI hs_es3 (p := 52) (b := 18) rfl rfl
  have hs_es5 : sh es5 := by rw [e_es5]; exact sh_sR hs_es4
  have hs_es6 : sh es6 := by rw [e_es6]; exact sh_sI hs_es5 (p := 68) (b := 2) rfl rfl
  have hs_es7 : sh es7 := by rw [e_es7]; exact sh_sA hs_es6
  have hs_es8 : sh es8 := by rw [e_es8]; exact sh_sA hs_es7
  have hs_es9 : sh es9 := by rw [e_es9]; exact sh_sA hs_es8
  have hs_es10 : sh es10 := by rw [e_es10]; exact sh_sA hs_es9
  have hs_es13 : sh es13 := by rw [e_es13]; exact sh_sA hs_es10
  have hs_es14 : sh es14 := by rw [e_es14]; exact sh_sA hs_es13
  have hs_es17 : sh es17 := by rw [e_es17]; exact sh_sA hs_es14
  have hs_es18 : sh es18 := by rw [e_es18]; exact sh_sA hs_es17
  have hs_es19 : sh es19 := by rw [e_es19]; exact sh_sA hs_es18
  have hs_es20 : sh es20 := by rw [e_es20]; exact sh_sA hs_es19
  have hs_es21 : sh es21 := by rw [e_es21]; exact sh_sA hs_es20
  have hs_es24 : sh es24 := by rw [e_es24]; exact sh_sA hs_es21
  have hs_es25 : sh es25 := by rw [e_es25]; exact sh_sA hs_es24
  have hs_es28 : sh es28 := by rw [e_es28]; exact sh_sA hs_es25
  have hs_es29 : sh es29 := by rw [e_es29]; exact sh_sA hs_es28
  have hs_es30 : sh es30 := by rw [e_es30]; exact sh_sA hs_es29
  have hs_es31 : sh es31 := by rw [e_es31]; exact sh_sA hs_es30
  have hs_es32 : sh es32 := by rw [e_es32]; exact sh_sA hs_es31
  have hs_es35 : sh es35 := by rw [e_es35]; exact sh_sA hs_es32
  have hs_es36 : sh es36 := by rw [e_es36]; exact sh_sA hs_es35
  have hs_es39 : sh es39 := by rw [e_es39]; exact sh_sA hs_es36
  have b_v11 : v11 = 1000 := by
    rw [e_v11, e_es10, gA_sA_ne (by decide), e_es9, gA_sA_ne (by decide), e_es8, gA_sA_ne (by decide), e_es7, gA_sA hs_es6 (p := 70) (t := 0) (n := 93) rfl (by decide)]
    unfold upd
    rw [if_pos rfl]
    rfl
  have z_v12 : v12 = 0 := by rw [e_v12, b_v11]; rfl
  have b_v15 : v15 = 1000 := by
    rw [e_v15, e_es14, gA_sA_ne (by decide), e_es13, gA_sA_ne (by decide), e_es10, gA_sA_ne (by decide), e_es9, gA_sA hs_es8 (p := 72) (t := 0) (n := 93) rfl (by decide)]
    unfold upd
    rw [if_pos rfl]
    rfl
  have z_v16 : v16 = 0 := by rw [e_v16, b_v15]; rfl
  have b_v22 : v22 = 1000 := by
    rw [e_v22, e_es21, gA_sA_ne (by decide), e_es20, gA_sA_ne (by decide), e_es19, gA_sA_ne (by decide), e_es18, gA_sA hs_es17 (p := 70) (t := 0) (n := 93) rfl (by decide)]
    unfold upd
    rw [if_pos rfl]
    rfl
  have z_v23 : v23 = 0 := by rw [e_v23, b_v22]; rfl
  have b_v26 : v26 = 1000 := by
    rw [e_v26, e_es25, gA_sA_ne (by decide), e_es24, gA_sA_ne (by decide), e_es21, gA_sA_ne (by decide), e_es20, gA_sA hs_es19 (p := 72) (t := 0) (n := 93) rfl (by decide)]
    unfold upd
    rw [if_pos rfl]
    rfl
  have z_v27 : v27 = 0 := by rw [e_v27, b_v26]; rfl
  have b_v33 : v33 = 1000 := by
    rw [e_v33, e_es32, gA_sA_ne (by decide), e_es31, gA_sA_ne (by decide), e_es30, gA_sA_ne (by decide), e_es29, gA_sA hs_es28 (p := 70) (t := 0) (n := 93) rfl (by decide)]
    unfold upd
    rw [if_pos rfl]
    rfl
  have z_v34 : v34 = 0 := by rw [e_v34, b_v33]; rfl
  have b_v37 : v37 = 1000 := by
    rw [e_v37, e_es36, gA_sA_ne (by decide), e_es35, gA_sA_ne (by decide), e_es32, gA_sA_ne (by decide), e_es31, gA_sA hs_es30 (p := 72) (t := 0) (n := 93) rfl (by decide)]
    unfold upd
    rw [if_pos rfl]
    rfl
  have z_v38 : v38 = 0 := by rw [e_v38, b_v37]; rfl
  have i53_0 : gI es39 53 0 = gI es 53 0 := by rw [e_es39, gI_sA, e_es36, gI_sA, e_es35, gI_sA, e_es32, gI_sA, e_es31, gI_sA, e_es30, gI_sA, e_es29, gI_sA, e_es28, gI_sA, e_es25, gI_sA, e_es24, gI_sA, e_es21, gI_sA, e_es20, gI_sA, e_es19, gI_sA, e_es18, gI_sA, e_es17, gI_sA, e_es14, gI_sA, e_es13, gI_sA, e_es10, gI_sA, e_es9, gI_sA, e_es8, gI_sA, e_es7, gI_sA, e_es6, gI_sI_ne (Or.inl (by decide)), e_es5, gI_sR, e_es4, gI_sI_ne (Or.inl (by decide)), e_es3, gI_sI_ne (Or.inl (by decide)), e_es2, gI_sI_ne (Or.inl (by decide)), e_es1, gI_sI_ne (Or.inl (by decide))]
  have i53_1 : gI es39 53 1 = gI es 53 1 := by rw [e_es39, gI_sA, e_es36, gI_sA, e_es35, gI_sA, e_es32, gI_sA, e_es31, gI_sA, e_es30, gI_sA, e_es29, gI_sA, e_es28, gI_sA, e_es25, gI_sA, e_es24, gI_sA, e_es21, gI_sA, e_es20, gI_sA, e_es19, gI_sA, e_es18, gI_sA, e_es17, gI_sA, e_es14, gI_sA, e_es13, gI_sA, e_es10, gI_sA, e_es9, gI_sA, e_es8, gI_sA, e_es7, gI_sA, e_es6, gI_sI_ne (Or.inl (by decide)), e_es5, gI_sR, e_es4, gI_sI_ne (Or.inl (by decide)), e_es3, gI_sI_ne (Or.inl (by decide)), e_es2, gI_sI_ne (Or.inl (by decide)), e_es1, gI_sI_ne (Or.inl (by decide))]
  have i53_2 : gI es39 53 2 = gI es 53 2 := by rw [e_es39, gI_sA, e_es36, gI_sA, e_es35, gI_sA, e_es32, gI_sA, e_es31, gI_sA, e_es30, gI_sA, e_es29, gI_sA, e_es28, gI_sA, e_es25, gI_sA, e_es24, gI_sA, e_es21, gI_sA, e_es20, gI_sA, e_es19, gI_sA, e_es18, gI_sA, e_es17, gI_sA, e_es14, gI_sA, e_es13, gI_sA, e_es10, gI_sA, e_es9, gI_sA, e_es8, gI_sA, e_es7, gI_sA, e_es6, gI_sI_ne (Or.inl (by decide)), e_es5, gI_sR, e_es4, gI_sI_ne (Or.inl (by decide)), e_es3, gI_sI_ne (Or.inl (by decide)), e_es2, gI_sI_ne (Or.inl (by decide)), e_es1, gI_sI_ne (Or.inl (by decide))]
  have i52_15 : (gI es39 52 15).toInt = 0 := by rw [e_es39, gI_sA, e_es36, gI_sA, e_es35, gI_sA, e_es32, gI_sA, e_es31, gI_sA, e_es30, gI_sA, e_es29, gI_sA, e_es28, gI_sA, e_es25, gI_sA, e_es24, gI_sA, e_es21, gI_sA, e_es20, gI_sA, e_es19, gI_sA, e_es18, gI_sA, e_es17, gI_sA, e_es14, gI_sA, e_es13, gI_sA, e_es10, gI_sA, e_es9, gI_sA, e_es8, gI_sA, e_es7, gI_sA, e_es6, gI_sI_ne (Or.inl (by decide)), e_es5, gI_sR, e_es4, gI_sI_ne (Or.inr (by decide)), e_es3, gI_sI hs_es2 (p := 52) (b := 15) rfl (by decide)]; rfl
  have i52_16 : (gI es39 52 16).toInt = 0 := by rw [e_es39, gI_sA, e_es36, gI_sA, e_es35, gI_sA, e_es32, gI_sA, e_es31, gI_sA, e_es30, gI_sA, e_es29, gI_sA, e_es28, gI_sA, e_es25, gI_sA, e_es24, gI_sA, e_es21, gI_sA, e_es20, gI_sA, e_es19, gI_sA, e_es18, gI_sA, e_es17, gI_sA, e_es14, gI_sA, e_es13, gI_sA, e_es10, gI_sA, e_es9, gI_sA, e_es8, gI_sA, e_es7, gI_sA, e_es6, gI_sI_ne (Or.inl (by decide)), e_es5, gI_sR, e_es4, gI_sI_ne (Or.inr (by decide)), e_es3, gI_sI_ne (Or.inr (by decide)), e_es2, gI_sI_ne (Or.inr (by decide)), e_es1, gI_sI hs_es (p := 52) (b := 16) rfl (by decide)]; rfl
  have i52_17 : (gI es39 52 17).toInt = 0 := by rw [e_es39, gI_sA, e_es36, gI_sA, e_es35, gI_sA, e_es32, gI_sA, e_es31, gI_sA, e_es30, gI_sA, e_es29, gI_sA, e_es28, gI_sA, e_es25, gI_sA, e_es24, gI_sA, e_es21, gI_sA, e_es20, gI_sA, e_es19, gI_sA, e_es18, gI_sA, e_es17, gI_sA, e_es14, gI_sA, e_es13, gI_sA, e_es10, gI_sA, e_es9, gI_sA, e_es8, gI_sA, e_es7, gI_sA, e_es6, gI_sI_ne (Or.inl (by decide)), e_es5, gI_sR, e_es4, gI_sI_ne (Or.inr (by decide)), e_es3, gI_sI_ne (Or.inr (by decide)), e_es2, gI_sI hs_es1 (p := 52) (b := 17) rfl (by decide)]; rfl
  have i68_2 : (gI es39 68 2).toInt = 0 := by rw [e_es39, gI_sA, e_es36, gI_sA, e_es35, gI_sA, e_es32, gI_sA, e_es31, gI_sA, e_es30, gI_sA, e_es29, gI_sA, e_es28, gI_sA, e_es25, gI_sA, e_es24, gI_sA, e_es21, gI_sA, e_es20, gI_sA, e_es19, gI_sA, e_es18, gI_sA, e_es17, gI_sA, e_es14, gI_sA, e_es13, gI_sA, e_es10, gI_sA, e_es9, gI_sA, e_es8, gI_sA, e_es7, gI_sA, e_es6, gI_sI hs_es5 (p := 68) (b := 2) rfl (by decide)]; rfl
  have a9 : gA es39 9 = gA es 9 := by rw [e_es39, gA_sA_ne (by decide), e_es36, gA_sA_ne (by decide), e_es35, gA_sA_ne (by decide), e_es32, gA_sA_ne (by decide), e_es31, gA_sA_ne (by decide), e_es30, gA_sA_ne (by decide), e_es29, gA_sA_ne (by decide), e_es28, gA_sA_ne (by decide), e_es25, gA_sA_ne (by decide), e_es24, gA_sA_ne (by decide), e_es21, gA_sA_ne (by decide), e_es20, gA_sA_ne (by decide), e_es19, gA_sA_ne (by decide), e_es18, gA_sA_ne (by decide), e_es17, gA_sA_ne (by decide), e_es14, gA_sA_ne (by decide), e_es13, gA_sA_ne (by decide), e_es10, gA_sA_ne (by decide), e_es9, gA_sA_ne (by decide), e_es8, gA_sA_ne (by decide), e_es7, gA_sA_ne (by decide), e_es6, gA_sI, e_es5, gA_sR_ne (by decide), e_es4, gA_sI, e_es3, gA_sI, e_es2, gA_sI, e_es1, gA_sI]
  have a10 : gA es39 10 = gA es 10 := by rw [e_es39, gA_sA_ne (by decide), e_es36, gA_sA_ne (by decide), e_es35, gA_sA_ne (by decide), e_es32, gA_sA_ne (by decide), e_es31, gA_sA_ne (by decide), e_es30, gA_sA_ne (by decide), e_es29, gA_sA_ne (by decide), e_es28, gA_sA_ne (by decide), e_es25, gA_sA_ne (by decide), e_es24, gA_sA_ne (by decide), e_es21, gA_sA_ne (by decide), e_es20, gA_sA_ne (by decide), e_es19, gA_sA_ne (by decide), e_es18, gA_sA_ne (by decide), e_es17, gA_sA_ne (by decide), e_es14, gA_sA_ne (by decide), e_es13, gA_sA_ne (by decide), e_es10, gA_sA_ne (by decide), e_es9, gA_sA_ne (by decide), e_es8, gA_sA_ne (by decide), e_es7, gA_sA_ne (by decide), e_es6, gA_sI, e_es5, gA_sR_ne (by decide), e_es4, gA_sI, e_es3, gA_sI, e_es2, gA_sI, e_es1, gA_sI]
  have a13 : gA es39 13 = gA es 13 := by rw [e_es39, gA_sA_ne (by decide), e_es36, gA_sA_ne (by decide), e_es35, gA_sA_ne (by decide), e_es32, gA_sA_ne (by decide), e_es31, gA_sA_ne (by decide), e_es30, gA_sA_ne (by decide), e_es29, gA_sA_ne (by decide), e_es28, gA_sA_ne (by decide), e_es25, gA_sA_ne (by decide), e_es24, gA_sA_ne (by decide), e_es21, gA_sA_ne (by decide), e_es20, gA_sA_ne (by decide), e_es19, gA_sA_ne (by decide), e_es18, gA_sA_ne (by decide), e_es17, gA_sA_ne (by decide), e_es14, gA_sA_ne (by decide), e_es13, gA_sA_ne (by decide), e_es10, gA_sA_ne (by decide), e_es9, gA_sA_ne (by decide), e_es8, gA_sA_ne (by decide), e_es7, gA_sA_ne (by decide), e_es6, gA_sI, e_es5, gA_sR_ne (by decide), e_es4, gA_sI, e_es3, gA_sI, e_es2, gA_sI, e_es1, gA_sI]
  have a14 : gA es39 14 = gA es 14 := by rw [e_es39, gA_sA_ne (by decide), e_es36, gA_sA_ne (by decide), e_es35, gA_sA_ne (by decide), e_es32, gA_sA_ne (by decide), e_es31, gA_sA_ne (by decide), e_es30, gA_sA_ne (by decide), e_es29, gA_sA_ne (by decide), e_es28, gA_sA_ne (by decide), e_es25, gA_sA_ne (by decide), e_es24, gA_sA_ne (by decide), e_es21, gA_sA_ne (by decide), e_es20, gA_sA_ne (by decide), e_es19, gA_sA_ne (by decide), e_es18, gA_sA_ne (by decide), e_es17, gA_sA_ne (by decide), e_es14, gA_sA_ne (by decide), e_es13, gA_sA_ne (by decide), e_es10, gA_sA_ne (by decide), e_es9, gA_sA_ne (by decide), e_es8, gA_sA_ne (by decide), e_es7, gA_sA_ne (by decide), e_es6, gA_sI, e_es5, gA_sR_ne (by decide), e_es4, gA_sI, e_es3, gA_sI, e_es2, gA_sI, e_es1, gA_sI]
  have a54 : gA es39 54 = gA es 54 := by rw [e_es39, gA_sA_ne (by decide), e_es36, gA_sA_ne (by decide), e_es35, gA_sA_ne (by decide), e_es32, gA_sA_ne (by decide), e_es31, gA_sA_ne (by decide), e_es30, gA_sA_ne (by decide), e_es29, gA_sA_ne (by decide), e_es28, gA_sA_ne (by decide), e_es25, gA_sA_ne (by decide), e_es24, gA_sA_ne (by decide), e_es21, gA_sA_ne (by decide), e_es20, gA_sA_ne (by decide), e_es19, gA_sA_ne (by decide), e_es18, gA_sA_ne (by decide), e_es17, gA_sA_ne (by decide), e_es14, gA_sA_ne (by decide), e_es13, gA_sA_ne (by decide), e_es10, gA_sA_ne (by decide), e_es9, gA_sA_ne (by decide), e_es8, gA_sA_ne (by decide), e_es7, gA_sA_ne (by decide), e_es6, gA_sI, e_es5, gA_sR_ne (by decide), e_es4, gA_sI, e_es3, gA_sI, e_es2, gA_sI, e_es1, gA_sI]
  have a55 : gA es39 55 = gA es 55 := by rw [e_es39, gA_sA_ne (by decide), e_es36, gA_sA_ne (by decide), e_es35, gA_sA_ne (by decide), e_es32, gA_sA_ne (by decide), e_es31, gA_sA_ne (by decide), e_es30, gA_sA_ne (by decide), e_es29, gA_sA_ne (by decide), e_es28, gA_sA_ne (by decide), e_es25, gA_sA_ne (by decide), e_es24, gA_sA_ne (by decide), e_es21, gA_sA_ne (by decide), e_es20, gA_sA_ne (by decide), e_es19, gA_sA_ne (by decide), e_es18, gA_sA_ne (by decide), e_es17, gA_sA_ne (by decide), e_es14, gA_sA_ne (by decide), e_es13, gA_sA_ne (by decide), e_es10, gA_sA_ne (by decide), e_es9, gA_sA_ne (by decide), e_es8, gA_sA_ne (by decide), e_es7, gA_sA_ne (by decide), e_es6, gA_sI, e_es5, gA_sR_ne (by decide), e_es4, gA_sI, e_es3, gA_sI, e_es2, gA_sI, e_es1, gA_sI]
  have a67 : ∀ s, s < 36 → gA es39 67 s = gA es 11 s := fun s hs => by rw [e_es39, gA_sA_ne (by decide), e_es36, gA_sA_ne (by decide), e_es35, gA_sA_ne (by decide), e_es32, gA_sA_ne (by decide), e_es31, gA_sA_ne (by decide), e_es30, gA_sA_ne (by decide), e_es29, gA_sA_ne (by decide), e_es28, gA_sA_ne (by decide), e_es25, gA_sA_ne (by decide), e_es24, gA_sA_ne (by decide), e_es21, gA_sA_ne (by decide), e_es20, gA_sA_ne (by decide), e_es19, gA_sA_ne (by decide), e_es18, gA_sA_ne (by decide), e_es17, gA_sA_ne (by decide), e_es14, gA_sA_ne (by decide), e_es13, gA_sA_ne (by decide), e_es10, gA_sA_ne (by decide), e_es9, gA_sA_ne (by decide), e_es8, gA_sA_ne (by decide), e_es7, gA_sA_ne (by decide), e_es6, gA_sI, e_es5, gA_sR hs_es4 (p := 67) (t := 0) (n := 36) rfl (by decide), cpy_at hs, e_es4, gA_sI, e_es3, gA_sI, e_es2, gA_sI, e_es1, gA_sI]
  have r70 : gA es39 70 = upd (upd (upd (upd (upd (upd (gA es 70) (Int.toNat 0) (zI 1000)) (Int.toNat 0) (zI v12)) (Int.toNat 1) (zI 1000)) (Int.toNat 1) (zI v23)) (Int.toNat 2) (zI 1000)) (Int.toNat 2) (zI v34) := by rw [e_es39, gA_sA_ne (by decide), e_es36, gA_sA_ne (by decide), e_es35, gA_sA hs_es32 (p := 70) (t := 0) (n := 93) rfl (by decide), e_es32, gA_sA_ne (by decide), e_es31, gA_sA_ne (by decide), e_es30, gA_sA_ne (by decide), e_es29, gA_sA hs_es28 (p := 70) (t := 0) (n := 93) rfl (by decide), e_es28, gA_sA_ne (by decide), e_es25, gA_sA_ne (by decide), e_es24, gA_sA hs_es21 (p := 70) (t := 0) (n := 93) rfl (by decide), e_es21, gA_sA_ne (by decide), e_es20, gA_sA_ne (by decide), e_es19, gA_sA_ne (by decide), e_es18, gA_sA hs_es17 (p := 70) (t := 0) (n := 93) rfl (by decide), e_es17, gA_sA_ne (by decide), e_es14, gA_sA_ne (by decide), e_es13, gA_sA hs_es10 (p := 70) (t := 0) (n := 93) rfl (by decide), e_es10, gA_sA_ne (by decide), e_es9, gA_sA_ne (by decide), e_es8, gA_sA_ne (by decide), e_es7, gA_sA hs_es6 (p := 70) (t := 0) (n := 93) rfl (by decide), e_es6, gA_sI, e_es5, gA_sR_ne (by decide), e_es4, gA_sI, e_es3, gA_sI, e_es2, gA_sI, e_es1, gA_sI]
  have c70_0 : (gA es39 70 0).toInt = 0 := by
    rw [r70]
    rw [updN (by decide)]
    rw [updN (by decide)]
    rw [updN (by decide)]
    rw [updN (by decide)]
    unfold upd
    rw [if_pos (show (0 : Nat) = (Int.toNat 0) by decide)]
    rw [z_v12]
    rfl
  have c70_1 : (gA es39 70 1).toInt = 0 := by
    rw [r70]
    rw [updN (by decide)]
    rw [updN (by decide)]
    unfold upd
    rw [if_pos (show (1 : Nat) = (Int.toNat 1) by decide)]
    rw [z_v23]
    rfl
  have c70_2 : (gA es39 70 2).toInt = 0 := by
    rw [r70]
    unfold upd
    rw [if_pos (show (2 : Nat) = (Int.toNat 2) by decide)]
    rw [z_v34]
    rfl
  have r71 : gA es39 71 = upd (upd (upd (upd (upd (upd (gA es 71) (Int.toNat 0) (zI (-1))) (Int.toNat 0) (zI 0)) (Int.toNat 1) (zI (-1))) (Int.toNat 1) (zI 0)) (Int.toNat 2) (zI (-1))) (Int.toNat 2) (zI 0) := by rw [e_es39, gA_sA_ne (by decide), e_es36, gA_sA hs_es35 (p := 71) (t := 0) (n := 93) rfl (by decide), e_es35, gA_sA_ne (by decide), e_es32, gA_sA_ne (by decide), e_es31, gA_sA_ne (by decide), e_es30, gA_sA hs_es29 (p := 71) (t := 0) (n := 93) rfl (by decide), e_es29, gA_sA_ne (by decide), e_es28, gA_sA_ne (by decide), e_es25, gA_sA hs_es24 (p := 71) (t := 0) (n := 93) rfl (by decide), e_es24, gA_sA_ne (by decide), e_es21, gA_sA_ne (by decide), e_es20, gA_sA_ne (by decide), e_es19, gA_sA hs_es18 (p := 71) (t := 0) (n := 93) rfl (by decide), e_es18, gA_sA_ne (by decide), e_es17, gA_sA_ne (by decide), e_es14, gA_sA hs_es13 (p := 71) (t := 0) (n := 93) rfl (by decide), e_es13, gA_sA_ne (by decide), e_es10, gA_sA_ne (by decide), e_es9, gA_sA_ne (by decide), e_es8, gA_sA hs_es7 (p := 71) (t := 0) (n := 93) rfl (by decide), e_es7, gA_sA_ne (by decide), e_es6, gA_sI, e_es5, gA_sR_ne (by decide), e_es4, gA_sI, e_es3, gA_sI, e_es2, gA_sI, e_es1, gA_sI]
  have c71_0 : (gA es39 71 0).toInt = 0 := by
    rw [r71]
    rw [updN (by decide)]
    rw [updN (by decide)]
    rw [updN (by decide)]
    rw [updN (by decide)]
    unfold upd
    rw [if_pos (show (0 : Nat) = (Int.toNat 0) by decide)]
    rfl
  have c71_1 : (gA es39 71 1).toInt = 0 := by
    rw [r71]
    rw [updN (by decide)]
    rw [updN (by decide)]
    unfold upd
    rw [if_pos (show (1 : Nat) = (Int.toNat 1) by decide)]
    rfl
  have c71_2 : (gA es39 71 2).toInt = 0 := by
    rw [r71]
    unfold upd
    rw [if_pos (show (2 : Nat) = (Int.toNat 2) by decide)]
    rfl
  have r72 : gA es39 72 = upd (upd (upd (upd (upd (upd (gA es 72) (Int.toNat 0) (zI 1000)) (Int.toNat 0) (zI v16)) (Int.toNat 1) (zI 1000)) (Int.toNat 1) (zI v27)) (Int.toNat 2) (zI 1000)) (Int.toNat 2) (zI v38) := by rw [e_es39, gA_sA hs_es36 (p := 72) (t := 0) (n := 93) rfl (by decide), e_es36, gA_sA_ne (by decide), e_es35, gA_sA_ne (by decide), e_es32, gA_sA_ne (by decide), e_es31, gA_sA hs_es30 (p := 72) (t := 0) (n := 93) rfl (by decide), e_es30, gA_sA_ne (by decide), e_es29, gA_sA_ne (by decide), e_es28, gA_sA hs_es25 (p := 72) (t := 0) (n := 93) rfl (by decide), e_es25, gA_sA_ne (by decide), e_es24, gA_sA_ne (by decide), e_es21, gA_sA_ne (by decide), e_es20, gA_sA hs_es19 (p := 72) (t := 0) (n := 93) rfl (by decide), e_es19, gA_sA_ne (by decide), e_es18, gA_sA_ne (by decide), e_es17, gA_sA hs_es14 (p := 72) (t := 0) (n := 93) rfl (by decide), e_es14, gA_sA_ne (by decide), e_es13, gA_sA_ne (by decide), e_es10, gA_sA_ne (by decide), e_es9, gA_sA hs_es8 (p := 72) (t := 0) (n := 93) rfl (by decide), e_es8, gA_sA_ne (by decide), e_es7, gA_sA_ne (by decide), e_es6, gA_sI, e_es5, gA_sR_ne (by decide), e_es4, gA_sI, e_es3, gA_sI, e_es2, gA_sI, e_es1, gA_sI]
  have c72_0 : (gA es39 72 0).toInt = 0 := by
    rw [r72]
    rw [updN (by decide)]
    rw [updN (by decide)]
    rw [updN (by decide)]
    rw [updN (by decide)]
    unfold upd
    rw [if_pos (show (0 : Nat) = (Int.toNat 0) by decide)]
    rw [z_v16]
    rfl
  have c72_1 : (gA es39 72 1).toInt = 0 := by
    rw [r72]
    rw [updN (by decide)]
    rw [updN (by decide)]
    unfold upd
    rw [if_pos (show (1 : Nat) = (Int.toNat 1) by decide)]
    rw [z_v27]
    rfl
  have c72_2 : (gA es39 72 2).toInt = 0 := by
    rw [r72]
    unfold upd
    rw [if_pos (show (2 : Nat) = (Int.toNat 2) by decide)]
    rw [z_v38]
    rfl
  have r69 : gA es39 69 = upd (upd (upd (gA es 69) (Int.toNat 0) (zI 0)) (Int.toNat 25) (zI 0)) (Int.toNat 50) (zI 0) := by rw [e_es39, gA_sA_ne (by decide), e_es36, gA_sA_ne (by decide), e_es35, gA_sA_ne (by decide), e_es32, gA_sA hs_es31 (p := 69) (t := 0) (n := 2325) rfl (by decide), e_es31, gA_sA_ne (by decide), e_es30, gA_sA_ne (by decide), e_es29, gA_sA_ne (by decide), e_es28, gA_sA_ne (by decide), e_es25, gA_sA_ne (by decide), e_es24, gA_sA_ne (by decide), e_es21, gA_sA hs_es20 (p := 69) (t := 0) (n := 2325) rfl (by decide), e_es20, gA_sA_ne (by decide), e_es19, gA_sA_ne (by decide), e_es18, gA_sA_ne (by decide), e_es17, gA_sA_ne (by decide), e_es14, gA_sA_ne (by decide), e_es13, gA_sA_ne (by decide), e_es10, gA_sA hs_es9 (p := 69) (t := 0) (n := 2325) rfl (by decide), e_es9, gA_sA_ne (by decide), e_es8, gA_sA_ne (by decide), e_es7, gA_sA_ne (by decide), e_es6, gA_sI, e_es5, gA_sR_ne (by decide), e_es4, gA_sI, e_es3, gA_sI, e_es2, gA_sI, e_es1, gA_sI]
  have c69_0 : (gA es39 69 0).toInt = 0 := by
    rw [r69]
    rw [updN (by decide)]
    rw [updN (by decide)]
    unfold upd
    rw [if_pos (show (0 : Nat) = (Int.toNat 0) by decide)]
    rfl
  have c69_1 : (gA es39 69 25).toInt = 0 := by
    rw [r69]
    rw [updN (by decide)]
    unfold upd
    rw [if_pos (show (25 : Nat) = (Int.toNat 25) by decide)]
    rfl
  have c69_2 : (gA es39 69 50).toInt = 0 := by
    rw [r69]
    unfold upd
    rw [if_pos (show (50 : Nat) = (Int.toNat 50) by decide)]
    rfl
  have hR : clR b 0 es39 := by
    have h3 : b = 0 ∨ b = 1 ∨ b = 2 := by omega
    rcases h3 with rfl | rfl | rfl
    · exact ⟨c70_0, c71_0, c72_0, c69_0⟩
    · exact ⟨c70_1, c71_1, c72_1, c69_1⟩
    · exact ⟨c70_2, c71_2, c72_2, c69_2⟩
  have hI : clI b nb wy K nt 0 0 0 B es39 := by
    refine ⟨⟨hT_es39, by rw [i53_0]; exact q0, by rw [i53_1]; exact q1, by rw [i53_2]; exact q2, by rw [a55]; exact q3, i68_2, i52_15, by rw [a13]; exact q5, by rw [a54]; exact q6, ?_, by rw [a14]; exact q10⟩, fun s hs => ?_, fun j hj => by rw [Nat.le_zero.mp hj]; exact hR, i52_16, i52_17⟩
    · unfold kdC at hK ⊢
      rw [a9, a10]
      exact hK
    · rw [a67 s hs]
      exact hB s hs
  refine x_call (vs := [.ref 116, .int (zI 0)]) (rs := []) i_150_18 rfl (fun _ => rfl) rfl rfl rfl rfl rfl (pCall_v (p := 52) hs_es39 rfl rfl rfl rfl rfl (by decide) rfl rfl rfl rfl rfl) ?_
  show aW _ _ _ _ _ _ (0, [some (.ref 116), some (.int (zI ((0 : Nat) : Int))), none, none, none, none, none, none, none, none, none, none, none], [], es39)
  refine lo_0at (d := d) hN3 hb hn hNT _ kc ks B 0 0 es39 hBr (by omega) hI (fun es' n' x' hI' hp => ?_)
  show aW _ _ _ _ _ _ (21, [some (.ref 116)], [], es')
  obtain ⟨p0, p1, p2⟩ := hp
  have h13 : (gA es' 13 b).toInt = (nb : Int) := hI'.1.2.2.2.2.2.2.2.1
  refine s_dn21 (d := d + 29) (sh_of hI'.1.1) hI'.1.1 (fun v1 e1 c1 v3 e3 => KQ es' v3 hI'.1.1 h13 ?_) (fun v1 e1 c1 => KQ es' (-2) hI'.1.1 h13 ?_)
  · rw [hI'.2.2.2.1] at e1
    rw [hI'.2.2.2.2] at e3
    by_cases h8 : 8000 < tN (zKid K nt wy nb) 24 0 B
    · have := p2 (by rw [Nat.zero_add]; exact h8)
      omega
    · rw [if_neg h8, e3, (p1 (by rw [Nat.zero_add]; exact Nat.le_of_not_lt h8)).2, Nat.zero_max]
  · rw [hI'.2.2.2.1] at e1
    by_cases h8 : 8000 < tN (zKid K nt wy nb) 24 0 B
    · rw [if_pos h8]
    · have h9 : n' = tN (zKid K nt wy nb) 24 0 B := by
        have h7 := (p1 (by rw [Nat.zero_add]; exact Nat.le_of_not_lt h8)).1
        rw [Nat.zero_add] at h7
        exact h7
      omega
theorem s_bk0 {O : pOut} {d kc ks : Nat} {Q : pRes → Prop} {es : PH} {bk : Int} (hs_es : sh es) (h_bk : -2147483648 ≤ bk ∧ bk ≤ 2147483647) (hT_es : hOK tT es)
    (K1 : bk < 0 → Q (.inr 2, es, kc + 1, ks + 6))
    (K2 : ¬ (bk < 0) → ∀ v2 : Int, v2 = (gI es 7 5).toInt → v2 ≤ bk → Q (.inr 2, es, kc + 1, ks + 6))
    (K3 : ¬ (bk < 0) → ∀ v2 : Int, v2 = (gI es 7 5).toInt → ¬ (v2 ≤ bk) → ∀ es4 : PH, es4 = sI es 53 0 (.int (zI 0)) → ∀ es5 : PH, es5 = sI es4 53 1 (.int (zI v2)) → ∀ es6 : PH, es6 = sI es5 53 2 (.int (zI 1)) → ∀ es7 : PH, es7 = sR es6 54 (va_cpy (gA es6 12) (gA es6 54) 0 0 3) → ∀ es8 : PH, es8 = sR es7 55 (va_cpy (gA es7 15) (gA es7 55) 0 0 8) → ∀ es9 : PH, es9 = sI es8 53 0 (.int (zI bk)) → ∀ es10 : PH, es10 = sI es9 53 1 (.int (zI (bk + 1))) → ∀ es11 : PH, es11 = sI es10 53 2 (.int (zI 0)) → ∀ es12 : PH, es12 = sA es11 55 (Int.toNat 0) (zI 0) → ∀ es13 : PH, es13 = sA es12 55 (Int.toNat 1) (zI 0) → ∀ es14 : PH, es14 = sA es13 55 (Int.toNat 2) (zI 0) → ∀ es15 : PH, es15 = sA es14 55 (Int.toNat 3) (zI 0) → ∀ es16 : PH, es16 = sA es15 55 (Int.toNat 4) (zI 0) → ∀ es17 : PH, es17 = sA es16 55 (Int.toNat 5) (zI 0) → ∀ es18 : PH, es18 = sA es17 55 (Int.toNat 6) (zI 0) → ∀ es19 : PH, es19 = sA es18 55 (Int.toNat 7) (zI 0) → hOK tT es19 → aW O (d + 4) 147 kc ks Q (48, [some (.ref 64), some (.int (zI bk)), none], [.ref 116], es19)) :
    aW O (d + 4) 147 kc ks Q (0, [some (.ref 64), some (.int (zI bk)), none], [], es) := by
  refine x0 (r := (1, [some (.ref 64), some (.int (zI bk)), none], [.ref 64], es)) i_147_0 rfl ?_
  refine x0 (r := (2, [some (.ref 64), some (.int (zI bk)), none], [.int (zI bk), .ref 64], es)) i_147_1 rfl ?_
  refine x_call (vs := [.ref 64, .int (zI bk)]) (rs := []) i_147_2 rfl (fun _ => rfl) rfl rfl rfl rfl rfl (pCall_v (p := 0) hs_es rfl rfl rfl rfl rfl (by decide) rfl rfl rfl rfl rfl) ?_
  show aW _ _ _ _ _ _ (0, [some (.ref 64), some (.int (zI bk))], [], es)
  refine x0 (r := (1, [some (.ref 64), some (.int (zI bk))], [.int (zI bk)], es)) i_116_0 rfl ?_
  by_cases c1 : bk < 0
  · refine x_ifT i_116_1 (by unfold i32 iLO iHI; omega) rfl (by simp only [zC, cR]; omega) ?_
    refine x0 (r := (20, [some (.ref 64), some (.int (zI bk))], [.int (zI 0)], es)) i_116_19 (by rfl) ?_
    refine x_ret (v := some (.int (zI 0))) i_116_20 rfl (fun _ => rfl) rfl rfl (pFin_b (by omega)) ?_
    show aW _ _ _ _ _ _ (5, [some (.ref 64), some (.int (zI bk)), none], [.int (zI 0)], es)
    refine x_ifF i_147_5 (by unfold i32 iLO iHI; omega) rfl (by simp only [zC, cR]; omega) ?_
    refine x_thr i_147_8 rfl (fun _ => rfl) rfl rfl rfl rfl ?_
    exact K1 c1
  · refine x_ifF i_116_1 (by unfold i32 iLO iHI; omega) rfl (by simp only [zC, cR]; omega) ?_
    refine x0 (r := (5, [some (.ref 64), some (.int (zI bk))], [.int (zI bk)], es)) i_116_4 rfl ?_
    refine x0 (r := (6, [some (.ref 64), some (.int (zI bk))], [.ref 64, .int (zI bk)], es)) i_116_5 rfl ?_
    refine x_getr (p := 0) (k := 71) i_116_6 hs_es rfl rfl ?_
    show aW _ _ _ _ _ _ (9, [some (.ref 64), some (.int (zI bk))], [.ref 71, .int (zI bk)], es)
    refine x_geti (p := 7) i_116_9 hs_es rfl rfl ?_
    obtain ⟨v2, e_v2⟩ : ∃ z : Int, z = (gI es 7 5).toInt := ⟨_, rfl⟩
    rw [← e_v2]
    have r_v2 : iLO ≤ v2 ∧ v2 ≤ iHI := by rw [e_v2]; exact i32_rng _
    unfold iLO iHI at r_v2
    have b_v2 : (0 : Int) ≤ v2 ∧ v2 ≤ (3 : Int) := by rw [e_v2]; exact gI_bd hT_es (p := 7) (b := 5) rfl rfl
    by_cases c3 : v2 ≤ bk
    · refine x_cmpT i_116_12 (by unfold i32 iLO iHI; omega) (by unfold i32 iLO iHI; omega) rfl (by simp only [zC, cR]; omega) ?_
      refine x0 (r := (20, [some (.ref 64), some (.int (zI bk))], [.int (zI 0)], es)) i_116_19 (by rfl) ?_
      refine x_ret (v := some (.int (zI 0))) i_116_20 rfl (fun _ => rfl) rfl rfl (pFin_b (by omega)) ?_
      show aW _ _ _ _ _ _ (5, [some (.ref 64), some (.int (zI bk)), none], [.int (zI 0)], es)
      refine x_ifF i_147_5 (by unfold i32 iLO iHI; omega) rfl (by simp only [zC, cR]; omega) ?_
      refine x_thr i_147_8 rfl (fun _ => rfl) rfl rfl rfl rfl ?_
      exact K2 c1 v2 e_v2 c3
    · refine x_cmpF i_116_12 (by unfold i32 iLO iHI; omega) (by unfold i32 iLO iHI; omega) rfl (by simp only [zC, cR]; omega) ?_
      refine x0 (r := (16, [some (.ref 64), some (.int (zI bk))], [.int (zI 1)], es)) i_116_15 (by rfl) ?_
      refine x0 (r := (20, [some (.ref 64), some (.int (zI bk))], [.int (zI 1)], es)) i_116_16 rfl ?_
      refine x_ret (v := some (.int (zI 1))) i_116_20 rfl (fun _ => rfl) rfl rfl (pFin_b (by omega)) ?_
      show aW _ _ _ _ _ _ (5, [some (.ref 64), some (.int (zI bk)), none], [.int (zI 1)], es)
      refine x_ifT i_147_5 (by unfold i32 iLO iHI; omega) rfl (by simp only [zC, cR]; omega) ?_
      refine x0 (r := (20, [some (.ref 64), some (.int (zI bk)), none], [.ref 64], es)) i_147_19 rfl ?_
      refine x_getr (p := 0) (k := 116) i_147_20 hs_es rfl rfl ?_
      show aW _ _ _ _ _ _ (23, [some (.ref 64), some (.int (zI bk)), none], [.ref 116], es)
      refine x_getr (p := 52) (k := 117) i_147_23 hs_es rfl rfl ?_
      show aW _ _ _ _ _ _ (26, [some (.ref 64), some (.int (zI bk)), none], [.ref 117], es)
      refine x0 (r := (27, [some (.ref 64), some (.int (zI bk)), none], [.ref 64, .ref 117], es)) i_147_26 rfl ?_
      refine x_getr (p := 0) (k := 71) i_147_27 hs_es rfl rfl ?_
      show aW _ _ _ _ _ _ (30, [some (.ref 64), some (.int (zI bk)), none], [.ref 71, .ref 117], es)
      refine x0 (r := (31, [some (.ref 64), some (.int (zI bk)), none], [.int (zI bk), .ref 71, .ref 117], es)) i_147_30 rfl ?_
      refine x_call (vs := [.ref 117, .ref 71, .int (zI bk)]) (rs := []) i_147_31 rfl (fun _ => rfl) rfl rfl rfl rfl rfl (pCall_v (p := 53) hs_es rfl rfl rfl rfl rfl (by decide) rfl rfl rfl rfl rfl) ?_
      show aW _ _ _ _ _ _ (0, [some (.ref 117), some (.ref 71), some (.int (zI bk))], [], es)
      refine x0 (r := (1, [some (.ref 117), some (.ref 71), some (.int (zI bk))], [.ref 117], es)) i_148_0 rfl ?_
      refine x0 (r := (2, [some (.ref 117), some (.ref 71), some (.int (zI bk))], [.ref 71, .ref 117], es)) i_148_1 rfl ?_
      refine x_call (vs := [.ref 117, .ref 71]) (rs := []) i_148_2 rfl (fun _ => rfl) rfl rfl rfl rfl rfl (pCall_v (p := 53) hs_es rfl rfl rfl rfl rfl (by decide) rfl rfl rfl rfl rfl) ?_
      show aW _ _ _ _ _ _ (0, [some (.ref 117), some (.ref 71)], [], es)
      refine x0 (r := (1, [some (.ref 117), some (.ref 71)], [.ref 117], es)) i_19_0 rfl ?_
      refine x0 (r := (2, [some (.ref 117), some (.ref 71)], [.int (zI 0), .ref 117], es)) i_19_1 (by rfl) ?_
      refine x_puti (p := 53) (ty := .int) i_19_2 hs_es rfl rfl rfl (Or.inl rfl) ?_
      obtain ⟨es4, e_es4⟩ : ∃ z : PH, z = sI es 53 0 (.int (zI 0)) := ⟨_, rfl⟩
      have hs_es4 : sh es4 := by rw [e_es4]; exact sh_sI hs_es (p := 53) (b := 0) rfl rfl
      have hT_es4 : hOK tT es4 := by rw [e_es4]; exact hOK_sI hT_es (p := 53) (b := 0) (lo := iLO) (hi := iHI) rfl rfl (i32_rng _)
      rw [← e_es4]
      refine x0 (r := (6, [some (.ref 117), some (.ref 71)], [.ref 117], es4)) i_19_5 rfl ?_
      refine x0 (r := (7, [some (.ref 117), some (.ref 71)], [.ref 71, .ref 117], es4)) i_19_6 rfl ?_
      refine x_geti (p := 7) i_19_7 hs_es4 rfl rfl ?_
      rw [show (gI es4 7 5).toInt = v2 from by rw [e_es4, gI_sI_ne (Or.inl (by decide))]; exact e_v2.symm]
      refine x_puti (p := 53) (ty := .int) i_19_10 hs_es4 rfl rfl rfl (Or.inl rfl) ?_
      obtain ⟨es5, e_es5⟩ : ∃ z : PH, z = sI es4 53 1 (.int (zI v2)) := ⟨_, rfl⟩
      have hs_es5 : sh es5 := by rw [e_es5]; exact sh_sI hs_es4 (p := 53) (b := 1) rfl rfl
      have hT_es5 : hOK tT es5 := by rw [e_es5]; exact hOK_sI hT_es4 (p := 53) (b := 1) (lo := iLO) (hi := iHI) rfl rfl (i32_rng _)
      rw [← e_es5]
      refine x0 (r := (14, [some (.ref 117), some (.ref 71)], [.ref 117], es5)) i_19_13 rfl ?_
      refine x0 (r := (15, [some (.ref 117), some (.ref 71)], [.int (zI 1), .ref 117], es5)) i_19_14 (by rfl) ?_
      refine x_puti (p := 53) (ty := .boolean) i_19_15 hs_es5 rfl rfl rfl (Or.inr ⟨rfl, by omega⟩) ?_
      obtain ⟨es6, e_es6⟩ : ∃ z : PH, z = sI es5 53 2 (.int (zI 1)) := ⟨_, rfl⟩
      have hs_es6 : sh es6 := by rw [e_es6]; exact sh_sI hs_es5 (p := 53) (b := 2) rfl rfl
      have hT_es6 : hOK tT es6 := by rw [e_es6]; exact hOK_sI hT_es5 (p := 53) (b := 2) rfl rfl (by rw [zI_toInt (by unfold i32 iLO iHI; omega)]; exact ⟨by show (0 : Int) ≤ 1; omega, by show 1 ≤ (1 : Int); omega⟩)
      rw [← e_es6]
      refine x0 (r := (19, [some (.ref 117), some (.ref 71)], [.ref 71], es6)) i_19_18 rfl ?_
      refine x_getr (p := 7) (k := 76) i_19_19 hs_es6 rfl rfl ?_
      show aW _ _ _ _ _ _ (22, [some (.ref 117), some (.ref 71)], [.ref 76], es6)
      refine x0 (r := (23, [some (.ref 117), some (.ref 71)], [.ref 117, .ref 76], es6)) i_19_22 rfl ?_
      refine x_getr (p := 53) (k := 118) i_19_23 hs_es6 rfl rfl ?_
      show aW _ _ _ _ _ _ (26, [some (.ref 117), some (.ref 71)], [.ref 118, .ref 76], es6)
      refine x_call (vs := [.ref 76, .ref 118]) (rs := []) i_19_26 rfl (fun _ => rfl) rfl rfl rfl rfl rfl rfl ?_
      show aW _ _ _ _ _ _ (0, [some (.ref 76), some (.ref 118)], [], es6)
      refine x0 (r := (1, [some (.ref 76), some (.ref 118)], [.ref 76], es6)) i_20_0 rfl ?_
      refine x0 (r := (2, [some (.ref 76), some (.ref 118)], [.int (zI 0), .ref 76], es6)) i_20_1 (by rfl) ?_
      refine x0 (r := (3, [some (.ref 76), some (.ref 118)], [.ref 118, .int (zI 0), .ref 76], es6)) i_20_2 rfl ?_
      refine x0 (r := (4, [some (.ref 76), some (.ref 118)], [.int (zI 0), .ref 118, .int (zI 0), .ref 76], es6)) i_20_3 (by rfl) ?_
      refine x0 (r := (5, [some (.ref 76), some (.ref 118)], [.ref 76, .int (zI 0), .ref 118, .int (zI 0), .ref 76], es6)) i_20_4 rfl ?_
      refine x_alen (p := 12) (n := 3) i_20_5 hs_es6 rfl ?_
      refine x0 (r := (7, [some (.ref 76), some (.ref 118)], [.ref 118, .int (zI 3), .int (zI 0), .ref 118, .int (zI 0), .ref 76], es6)) i_20_6 rfl ?_
      refine x_alen (p := 54) (n := 3) i_20_7 hs_es6 rfl ?_
      refine x_min i_20_8 (by unfold i32 iLO iHI; omega) (by unfold i32 iLO iHI; omega) (Nat.le_of_ble_eq_true rfl) ?_
      show aW _ _ _ _ _ _ (11, [some (.ref 76), some (.ref 118)], [.int (zI 3), .int (zI 0), .ref 118, .int (zI 0), .ref 76], es6)
      refine x_acp (p := 12) (p2 := 54) (n := 3) i_20_11 hs_es6 rfl rfl (by decide) (Nat.le_of_ble_eq_true rfl) ?_
      obtain ⟨es7, e_es7⟩ : ∃ z : PH, z = sR es6 54 (va_cpy (gA es6 12) (gA es6 54) 0 0 3) := ⟨_, rfl⟩
      have hs_es7 : sh es7 := by rw [e_es7]; exact sh_sR hs_es6
      have hT_es7 : hOK tT es7 := by rw [e_es7]; exact hOK_sR hT_es6 (p := 54) (t := 0) (n := 3) rfl (fun j _ => i32_rng _)
      rw [← e_es7]
      refine x_ret (v := none) i_20_14 rfl (fun _ => rfl) rfl rfl rfl ?_
      show aW _ _ _ _ _ _ (29, [some (.ref 117), some (.ref 71)], [], es7)
      refine x0 (r := (30, [some (.ref 117), some (.ref 71)], [.ref 71], es7)) i_19_29 rfl ?_
      refine x_getr (p := 7) (k := 79) i_19_30 hs_es7 rfl rfl ?_
      show aW _ _ _ _ _ _ (33, [some (.ref 117), some (.ref 71)], [.ref 79], es7)
      refine x0 (r := (34, [some (.ref 117), some (.ref 71)], [.ref 117, .ref 79], es7)) i_19_33 rfl ?_
      refine x_getr (p := 53) (k := 119) i_19_34 hs_es7 rfl rfl ?_
      show aW _ _ _ _ _ _ (37, [some (.ref 117), some (.ref 71)], [.ref 119, .ref 79], es7)
      refine x_call (vs := [.ref 79, .ref 119]) (rs := []) i_19_37 rfl (fun _ => rfl) rfl rfl rfl rfl rfl rfl ?_
      show aW _ _ _ _ _ _ (0, [some (.ref 79), some (.ref 119)], [], es7)
      refine x0 (r := (1, [some (.ref 79), some (.ref 119)], [.ref 79], es7)) i_20_0 rfl ?_
      refine x0 (r := (2, [some (.ref 79), some (.ref 119)], [.int (zI 0), .ref 79], es7)) i_20_1 (by rfl) ?_
      refine x0 (r := (3, [some (.ref 79), some (.ref 119)], [.ref 119, .int (zI 0), .ref 79], es7)) i_20_2 rfl ?_
      refine x0 (r := (4, [some (.ref 79), some (.ref 119)], [.int (zI 0), .ref 119, .int (zI 0), .ref 79], es7)) i_20_3 (by rfl) ?_
      refine x0 (r := (5, [some (.ref 79), some (.ref 119)], [.ref 79, .int (zI 0), .ref 119, .int (zI 0), .ref 79], es7)) i_20_4 rfl ?_
      refine x_alen (p := 15) (n := 8) i_20_5 hs_es7 rfl ?_
      refine x0 (r := (7, [some (.ref 79), some (.ref 119)], [.ref 119, .int (zI 8), .int (zI 0), .ref 119, .int (zI 0), .ref 79], es7)) i_20_6 rfl ?_
      refine x_alen (p := 55) (n := 8) i_20_7 hs_es7 rfl ?_
      refine x_min i_20_8 (by unfold i32 iLO iHI; omega) (by unfold i32 iLO iHI; omega) (Nat.le_of_ble_eq_true rfl) ?_
      show aW _ _ _ _ _ _ (11, [some (.ref 79), some (.ref 119)], [.int (zI 8), .int (zI 0), .ref 119, .int (zI 0), .ref 79], es7)
      refine x_acp (p := 15) (p2 := 55) (n := 8) i_20_11 hs_es7 rfl rfl (by decide) (Nat.le_of_ble_eq_true rfl) ?_
      obtain ⟨es8, e_es8⟩ : ∃ z : PH, z = sR es7 55 (va_cpy (gA es7 15) (gA es7 55) 0 0 8) := ⟨_, rfl⟩
      have hs_es8 : sh es8 := by rw [e_es8]; exact sh_sR hs_es7
      have hT_es8 : hOK tT es8 := by rw [e_es8]; exact hOK_sR hT_es7 (p := 55) (t := 0) (n := 8) rfl (fun j _ => i32_rng _)
      rw [← e_es8]
      refine x_ret (v := none) i_20_14 rfl (fun _ => rfl) rfl rfl rfl ?_
      show aW _ _ _ _ _ _ (40, [some (.ref 117), some (.ref 71)], [], es8)
      refine x_ret (v := none) i_19_40 rfl (fun _ => rfl) rfl rfl rfl ?_
      show aW _ _ _ _ _ _ (5, [some (.ref 117), some (.ref 71), some (.int (zI bk))], [], es8)
      refine x0 (r := (6, [some (.ref 117), some (.ref 71), some (.int (zI bk))], [.ref 117], es8)) i_148_5 rfl ?_
      refine x0 (r := (7, [some (.ref 117), some (.ref 71), some (.int (zI bk))], [.int (zI bk), .ref 117], es8)) i_148_6 rfl ?_
      refine x_puti (p := 53) (ty := .int) i_148_7 hs_es8 rfl rfl rfl (Or.inl rfl) ?_
      obtain ⟨es9, e_es9⟩ : ∃ z : PH, z = sI es8 53 0 (.int (zI bk)) := ⟨_, rfl⟩
      have hs_es9 : sh es9 := by rw [e_es9]; exact sh_sI hs_es8 (p := 53) (b := 0) rfl rfl
      have hT_es9 : hOK tT es9 := by rw [e_es9]; exact hOK_sI hT_es8 (p := 53) (b := 0) (lo := iLO) (hi := iHI) rfl rfl (i32_rng _)
      rw [← e_es9]
      refine x0 (r := (11, [some (.ref 117), some (.ref 71), some (.int (zI bk))], [.ref 117], es9)) i_148_10 rfl ?_
      refine x0 (r := (12, [some (.ref 117), some (.ref 71), some (.int (zI bk))], [.int (zI bk), .ref 117], es9)) i_148_11 rfl ?_
      refine x0 (r := (13, [some (.ref 117), some (.ref 71), some (.int (zI bk))], [.int (zI 1), .int (zI bk), .ref 117], es9)) i_148_12 (by rfl) ?_
      refine x_iadd i_148_13 ?_
      refine x_puti (p := 53) (ty := .int) i_148_14 hs_es9 rfl rfl rfl (Or.inl rfl) ?_
      obtain ⟨es10, e_es10⟩ : ∃ z : PH, z = sI es9 53 1 (.int (zI (bk + 1))) := ⟨_, rfl⟩
      have hs_es10 : sh es10 := by rw [e_es10]; exact sh_sI hs_es9 (p := 53) (b := 1) rfl rfl
      have hT_es10 : hOK tT es10 := by rw [e_es10]; exact hOK_sI hT_es9 (p := 53) (b := 1) (lo := iLO) (hi := iHI) rfl rfl (i32_rng _)
      rw [← e_es10]
      refine x_ret (v := none) i_148_17 rfl (fun _ => rfl) rfl rfl rfl ?_
      show aW _ _ _ _ _ _ (34, [some (.ref 64), some (.int (zI bk)), none], [], es10)
      refine x0 (r := (35, [some (.ref 64), some (.int (zI bk)), none], [.ref 64], es10)) i_147_34 rfl ?_
      refine x_getr (p := 0) (k := 116) i_147_35 hs_es10 rfl rfl ?_
      show aW _ _ _ _ _ _ (38, [some (.ref 64), some (.int (zI bk)), none], [.ref 116], es10)
      refine x_getr (p := 52) (k := 117) i_147_38 hs_es10 rfl rfl ?_
      show aW _ _ _ _ _ _ (41, [some (.ref 64), some (.int (zI bk)), none], [.ref 117], es10)
      refine x_call (vs := [.ref 117]) (rs := []) i_147_41 rfl (fun _ => rfl) rfl rfl rfl rfl rfl (pCall_v (p := 53) hs_es10 rfl rfl rfl rfl rfl (by decide) rfl rfl rfl rfl rfl) ?_
      show aW _ _ _ _ _ _ (0, [some (.ref 117)], [], es10)
      refine x0 (r := (1, [some (.ref 117)], [.ref 117], es10)) i_149_0 rfl ?_
      refine x0 (r := (2, [some (.ref 117)], [.int (zI 0), .ref 117], es10)) i_149_1 (by rfl) ?_
      refine x_puti (p := 53) (ty := .boolean) i_149_2 hs_es10 rfl rfl rfl (Or.inr ⟨rfl, by omega⟩) ?_
      obtain ⟨es11, e_es11⟩ : ∃ z : PH, z = sI es10 53 2 (.int (zI 0)) := ⟨_, rfl⟩
      have hs_es11 : sh es11 := by rw [e_es11]; exact sh_sI hs_es10 (p := 53) (b := 2) rfl rfl
      have hT_es11 : hOK tT es11 := by rw [e_es11]; exact hOK_sI hT_es10 (p := 53) (b := 2) rfl rfl (by rw [zI_toInt (by unfold i32 iLO iHI; omega)]; exact ⟨by show (0 : Int) ≤ 0; omega, by show 0 ≤ (1 : Int); omega⟩)
      rw [← e_es11]
      refine x0 (r := (6, [some (.ref 117)], [.ref 117], es11)) i_149_5 rfl ?_
      refine x_getr (p := 53) (k := 119) i_149_6 hs_es11 rfl rfl ?_
      show aW _ _ _ _ _ _ (9, [some (.ref 117)], [.ref 119], es11)
      refine x0 (r := (10, [some (.ref 117)], [.int (zI 0), .ref 119], es11)) i_149_9 (by rfl) ?_
      refine x_call (vs := [.ref 119, .int (zI 0)]) (rs := []) i_149_10 rfl (fun _ => rfl) rfl rfl rfl rfl rfl rfl ?_
      show aW _ _ _ _ _ _ (0, [some (.ref 119), some (.int (zI 0)), none, none], [], es11)
      refine x0 (r := (1, [some (.ref 119), some (.int (zI 0)), none, none], [.int (zI 0)], es11)) i_139_0 (by rfl) ?_
      refine x0 (r := (2, [some (.ref 119), some (.int (zI 0)), some (.int (zI 0)), none], [], es11)) i_139_1 rfl ?_
      refine x0 (r := (3, [some (.ref 119), some (.int (zI 0)), some (.int (zI 0)), none], [.ref 119], es11)) i_139_2 rfl ?_
      refine x_alen (p := 55) (n := 8) i_139_3 hs_es11 rfl ?_
      refine x0 (r := (5, [some (.ref 119), some (.int (zI 0)), some (.int (zI 0)), some (.int (zI 8))], [], es11)) i_139_4 rfl ?_
      refine x0 (r := (6, [some (.ref 119), some (.int (zI 0)), some (.int (zI 0)), some (.int (zI 8))], [.int (zI 0)], es11)) i_139_5 rfl ?_
      refine x0 (r := (7, [some (.ref 119), some (.int (zI 0)), some (.int (zI 0)), some (.int (zI 8))], [.int (zI 8), .int (zI 0)], es11)) i_139_6 rfl ?_
      refine x_cmpF i_139_7 (by unfold i32 iLO iHI; omega) (by unfold i32 iLO iHI; omega) rfl (by simp only [zC, cR]; omega) ?_
      refine x0 (r := (11, [some (.ref 119), some (.int (zI 0)), some (.int (zI 0)), some (.int (zI 8))], [.ref 119], es11)) i_139_10 rfl ?_
      refine x0 (r := (12, [some (.ref 119), some (.int (zI 0)), some (.int (zI 0)), some (.int (zI 8))], [.int (zI 0), .ref 119], es11)) i_139_11 rfl ?_
      refine x0 (r := (13, [some (.ref 119), some (.int (zI 0)), some (.int (zI 0)), some (.int (zI 8))], [.int (zI 0), .int (zI 0), .ref 119], es11)) i_139_12 rfl ?_
      refine x_iast (p := 55) i_139_13 hs_es11 rfl (by unfold i32 iLO iHI; omega) (by omega) (by omega) ?_
      obtain ⟨es12, e_es12⟩ : ∃ z : PH, z = sA es11 55 (Int.toNat 0) (zI 0) := ⟨_, rfl⟩
      have hs_es12 : sh es12 := by rw [e_es12]; exact sh_sA hs_es11
      have hT_es12 : hOK tT es12 := by rw [e_es12]; exact hOK_sA hT_es11 (p := 55) (n := 8) rfl (fun _ => i32_rng _)
      rw [← e_es12]
      refine x_iinc (x := 0) i_139_14 rfl (by show 2 < 4; decide) ?_
      show aW _ _ _ _ _ _ (17, [some (.ref 119), some (.int (zI 0)), some (.int (zI 1)), some (.int (zI 8))], [], es12)
      refine x0 (r := (5, [some (.ref 119), some (.int (zI 0)), some (.int (zI 1)), some (.int (zI 8))], [], es12)) i_139_17 rfl ?_
      refine x0 (r := (6, [some (.ref 119), some (.int (zI 0)), some (.int (zI 1)), some (.int (zI 8))], [.int (zI 1)], es12)) i_139_5 rfl ?_
      refine x0 (r := (7, [some (.ref 119), some (.int (zI 0)), some (.int (zI 1)), some (.int (zI 8))], [.int (zI 8), .int (zI 1)], es12)) i_139_6 rfl ?_
      refine x_cmpF i_139_7 (by unfold i32 iLO iHI; omega) (by unfold i32 iLO iHI; omega) rfl (by simp only [zC, cR]; omega) ?_
      refine x0 (r := (11, [some (.ref 119), some (.int (zI 0)), some (.int (zI 1)), some (.int (zI 8))], [.ref 119], es12)) i_139_10 rfl ?_
      refine x0 (r := (12, [some (.ref 119), some (.int (zI 0)), some (.int (zI 1)), some (.int (zI 8))], [.int (zI 1), .ref 119], es12)) i_139_11 rfl ?_
      refine x0 (r := (13, [some (.ref 119), some (.int (zI 0)), some (.int (zI 1)), some (.int (zI 8))], [.int (zI 0), .int (zI 1), .ref 119], es12)) i_139_12 rfl ?_
      refine x_iast (p := 55) i_139_13 hs_es12 rfl (by unfold i32 iLO iHI; omega) (by omega) (by omega) ?_
      obtain ⟨es13, e_es13⟩ : ∃ z : PH, z = sA es12 55 (Int.toNat 1) (zI 0) := ⟨_, rfl⟩
      have hs_es13 : sh es13 := by rw [e_es13]; exact sh_sA hs_es12
      have hT_es13 : hOK tT es13 := by rw [e_es13]; exact hOK_sA hT_es12 (p := 55) (n := 8) rfl (fun _ => i32_rng _)
      rw [← e_es13]
      refine x_iinc (x := 1) i_139_14 rfl (by show 2 < 4; decide) ?_
      show aW _ _ _ _ _ _ (17, [some (.ref 119), some (.int (zI 0)), some (.int (zI 2)), some (.int (zI 8))], [], es13)
      refine x0 (r := (5, [some (.ref 119), some (.int (zI 0)), some (.int (zI 2)), some (.int (zI 8))], [], es13)) i_139_17 rfl ?_
      refine x0 (r := (6, [some (.ref 119), some (.int (zI 0)), some (.int (zI 2)), some (.int (zI 8))], [.int (zI 2)], es13)) i_139_5 rfl ?_
      refine x0 (r := (7, [some (.ref 119), some (.int (zI 0)), some (.int (zI 2)), some (.int (zI 8))], [.int (zI 8), .int (zI 2)], es13)) i_139_6 rfl ?_
      refine x_cmpF i_139_7 (by unfold i32 iLO iHI; omega) (by unfold i32 iLO iHI; omega) rfl (by simp only [zC, cR]; omega) ?_
      refine x0 (r := (11, [some (.ref 119), some (.int (zI 0)), some (.int (zI 2)), some (.int (zI 8))], [.ref 119], es13)) i_139_10 rfl ?_
      refine x0 (r := (12, [some (.ref 119), some (.int (zI 0)), some (.int (zI 2)), some (.int (zI 8))], [.int (zI 2), .ref 119], es13)) i_139_11 rfl ?_
      refine x0 (r := (13, [some (.ref 119), some (.int (zI 0)), some (.int (zI 2)), some (.int (zI 8))], [.int (zI 0), .int (zI 2), .ref 119], es13)) i_139_12 rfl ?_
      refine x_iast (p := 55) i_139_13 hs_es13 rfl (by unfold i32 iLO iHI; omega) (by omega) (by omega) ?_
      obtain ⟨es14, e_es14⟩ : ∃ z : PH, z = sA es13 55 (Int.toNat 2) (zI 0) := ⟨_, rfl⟩
      have hs_es14 : sh es14 := by rw [e_es14]; exact sh_sA hs_es13
      have hT_es14 : hOK tT es14 := by rw [e_es14]; exact hOK_sA hT_es13 (p := 55) (n := 8) rfl (fun _ => i32_rng _)
      rw [← e_es14]
      refine x_iinc (x := 2) i_139_14 rfl (by show 2 < 4; decide) ?_
      show aW _ _ _ _ _ _ (17, [some (.ref 119), some (.int (zI 0)), some (.int (zI 3)), some (.int (zI 8))], [], es14)
      refine x0 (r := (5, [some (.ref 119), some (.int (zI 0)), some (.int (zI 3)), some (.int (zI 8))], [], es14)) i_139_17 rfl ?_
      refine x0 (r := (6, [some (.ref 119), some (.int (zI 0)), some (.int (zI 3)), some (.int (zI 8))], [.int (zI 3)], es14)) i_139_5 rfl ?_
      refine x0 (r := (7, [some (.ref 119), some (.int (zI 0)), some (.int (zI 3)), some (.int (zI 8))], [.int (zI 8), .int (zI 3)], es14)) i_139_6 rfl ?_
      refine x_cmpF i_139_7 (by unfold i32 iLO iHI; omega) (by unfold i32 iLO iHI; omega) rfl (by simp only [zC, cR]; omega) ?_
      refine x0 (r := (11, [some (.ref 119), some (.int (zI 0)), some (.int (zI 3)), some (.int (zI 8))], [.ref 119], es14)) i_139_10 rfl ?_
      refine x0 (r := (12, [some (.ref 119), some (.int (zI 0)), some (.int (zI 3)), some (.int (zI 8))], [.int (zI 3), .ref 119], es14)) i_139_11 rfl ?_
      refine x0 (r := (13, [some (.ref 119), some (.int (zI 0)), some (.int (zI 3)), some (.int (zI 8))], [.int (zI 0), .int (zI 3), .ref 119], es14)) i_139_12 rfl ?_
      refine x_iast (p := 55) i_139_13 hs_es14 rfl (by unfold i32 iLO iHI; omega) (by omega) (by omega) ?_
      obtain ⟨es15, e_es15⟩ : ∃ z : PH, z = sA es14 55 (Int.toNat 3) (zI 0) := ⟨_, rfl⟩
      have hs_es15 : sh es15 := by rw [e_es15]; exact sh_sA hs_es14
      have hT_es15 : hOK tT es15 := by rw [e_es15]; exact hOK_sA hT_es14 (p := 55) (n := 8) rfl (fun _ => i32_rng _)
      rw [← e_es15]
      refine x_iinc (x := 3) i_139_14 rfl (by show 2 < 4; decide) ?_
      show aW _ _ _ _ _ _ (17, [some (.ref 119), some (.int (zI 0)), some (.int (zI 4)), some (.int (zI 8))], [], es15)
      refine x0 (r := (5, [some (.ref 119), some (.int (zI 0)), some (.int (zI 4)), some (.int (zI 8))], [], es15)) i_139_17 rfl ?_
      refine x0 (r := (6, [some (.ref 119), some (.int (zI 0)), some (.int (zI 4)), some (.int (zI 8))], [.int (zI 4)], es15)) i_139_5 rfl ?_
      refine x0 (r := (7, [some (.ref 119), some (.int (zI 0)), some (.int (zI 4)), some (.int (zI 8))], [.int (zI 8), .int (zI 4)], es15)) i_139_6 rfl ?_
      refine x_cmpF i_139_7 (by unfold i32 iLO iHI; omega) (by unfold i32 iLO iHI; omega) rfl (by simp only [zC, cR]; omega) ?_
      refine x0 (r := (11, [some (.ref 119), some (.int (zI 0)), some (.int (zI 4)), some (.int (zI 8))], [.ref 119], es15)) i_139_10 rfl ?_
      refine x0 (r := (12, [some (.ref 119), some (.int (zI 0)), some (.int (zI 4)), some (.int (zI 8))], [.int (zI 4), .ref 119], es15)) i_139_11 rfl ?_
      refine x0 (r := (13, [some (.ref 119), some (.int (zI 0)), some (.int (zI 4)), some (.int (zI 8))], [.int (zI 0), .int (zI 4), .ref 119], es15)) i_139_12 rfl ?_
      refine x_iast (p := 55) i_139_13 hs_es15 rfl (by unfold i32 iLO iHI; omega) (by omega) (by omega) ?_
      obtain ⟨es16, e_es16⟩ : ∃ z : PH, z = sA es15 55 (Int.toNat 4) (zI 0) := ⟨_, rfl⟩
      have hs_es16 : sh es16 := by rw [e_es16]; exact sh_sA hs_es15
      have hT_es16 : hOK tT es16 := by rw [e_es16]; exact hOK_sA hT_es15 (p := 55) (n := 8) rfl (fun _ => i32_rng _)
      rw [← e_es16]
      refine x_iinc (x := 4) i_139_14 rfl (by show 2 < 4; decide) ?_
      show aW _ _ _ _ _ _ (17, [some (.ref 119), some (.int (zI 0)), some (.int (zI 5)), some (.int (zI 8))], [], es16)
      refine x0 (r := (5, [some (.ref 119), some (.int (zI 0)), some (.int (zI 5)), some (.int (zI 8))], [], es16)) i_139_17 rfl ?_
      refine x0 (r := (6, [some (.ref 119), some (.int (zI 0)), some (.int (zI 5)), some (.int (zI 8))], [.int (zI 5)], es16)) i_139_5 rfl ?_
      refine x0 (r := (7, [some (.ref 119), some (.int (zI 0)), some (.int (zI 5)), some (.int (zI 8))], [.int (zI 8), .int (zI 5)], es16)) i_139_6 rfl ?_
      refine x_cmpF i_139_7 (by unfold i32 iLO iHI; omega) (by unfold i32 iLO iHI; omega) rfl (by simp only [zC, cR]; omega) ?_
      refine x0 (r := (11, [some (.ref 119), some (.int (zI 0)), some (.int (zI 5)), some (.int (zI 8))], [.ref 119], es16)) i_139_10 rfl ?_
      refine x0 (r := (12, [some (.ref 119), some (.int (zI 0)), some (.int (zI 5)), some (.int (zI 8))], [.int (zI 5), .ref 119], es16)) i_139_11 rfl ?_
      refine x0 (r := (13, [some (.ref 119), some (.int (zI 0)), some (.int (zI 5)), some (.int (zI 8))], [.int (zI 0), .int (zI 5), .ref 119], es16)) i_139_12 rfl ?_
      refine x_iast (p := 55) i_139_13 hs_es16 rfl (by unfold i32 iLO iHI; omega) (by omega) (by omega) ?_
      obtain ⟨es17, e_es17⟩ : ∃ z : PH, z = sA es16 55 (Int.toNat 5) (zI 0) := ⟨_, rfl⟩
      have hs_es17 : sh es17 := by rw [e_es17]; exact sh_sA hs_es16
      have hT_es17 : hOK tT es17 := by rw [e_es17]; exact hOK_sA hT_es16 (p := 55) (n := 8) rfl (fun _ => i32_rng _)
      rw [← e_es17]
      refine x_iinc (x := 5) i_139_14 rfl (by show 2 < 4; decide) ?_
      show aW _ _ _ _ _ _ (17, [some (.ref 119), some (.int (zI 0)), some (.int (zI 6)), some (.int (zI 8))], [], es17)
      refine x0 (r := (5, [some (.ref 119), some (.int (zI 0)), some (.int (zI 6)), some (.int (zI 8))], [], es17)) i_139_17 rfl ?_
      refine x0 (r := (6, [some (.ref 119), some (.int (zI 0)), some (.int (zI 6)), some (.int (zI 8))], [.int (zI 6)], es17)) i_139_5 rfl ?_
      refine x0 (r := (7, [some (.ref 119), some (.int (zI 0)), some (.int (zI 6)), some (.int (zI 8))], [.int (zI 8), .int (zI 6)], es17)) i_139_6 rfl ?_
      refine x_cmpF i_139_7 (by unfold i32 iLO iHI; omega) (by unfold i32 iLO iHI; omega) rfl (by simp only [zC, cR]; omega) ?_
      refine x0 (r := (11, [some (.ref 119), some (.int (zI 0)), some (.int (zI 6)), some (.int (zI 8))], [.ref 119], es17)) i_139_10 rfl ?_
      refine x0 (r := (12, [some (.ref 119), some (.int (zI 0)), some (.int (zI 6)), some (.int (zI 8))], [.int (zI 6), .ref 119], es17)) i_139_11 rfl ?_
      refine x0 (r := (13, [some (.ref 119), some (.int (zI 0)), some (.int (zI 6)), some (.int (zI 8))], [.int (zI 0), .int (zI 6), .ref 119], es17)) i_139_12 rfl ?_
      refine x_iast (p := 55) i_139_13 hs_es17 rfl (by unfold i32 iLO iHI; omega) (by omega) (by omega) ?_
      obtain ⟨es18, e_es18⟩ : ∃ z : PH, z = sA es17 55 (Int.toNat 6) (zI 0) := ⟨_, rfl⟩
      have hs_es18 : sh es18 := by rw [e_es18]; exact sh_sA hs_es17
      have hT_es18 : hOK tT es18 := by rw [e_es18]; exact hOK_sA hT_es17 (p := 55) (n := 8) rfl (fun _ => i32_rng _)
      rw [← e_es18]
      refine x_iinc (x := 6) i_139_14 rfl (by show 2 < 4; decide) ?_
      show aW _ _ _ _ _ _ (17, [some (.ref 119), some (.int (zI 0)), some (.int (zI 7)), some (.int (zI 8))], [], es18)
      refine x0 (r := (5, [some (.ref 119), some (.int (zI 0)), some (.int (zI 7)), some (.int (zI 8))], [], es18)) i_139_17 rfl ?_
      refine x0 (r := (6, [some (.ref 119), some (.int (zI 0)), some (.int (zI 7)), some (.int (zI 8))], [.int (zI 7)], es18)) i_139_5 rfl ?_
      refine x0 (r := (7, [some (.ref 119), some (.int (zI 0)), some (.int (zI 7)), some (.int (zI 8))], [.int (zI 8), .int (zI 7)], es18)) i_139_6 rfl ?_
      refine x_cmpF i_139_7 (by unfold i32 iLO iHI; omega) (by unfold i32 iLO iHI; omega) rfl (by simp only [zC, cR]; omega) ?_
      refine x0 (r := (11, [some (.ref 119), some (.int (zI 0)), some (.int (zI 7)), some (.int (zI 8))], [.ref 119], es18)) i_139_10 rfl ?_
      refine x0 (r := (12, [some (.ref 119), some (.int (zI 0)), some (.int (zI 7)), some (.int (zI 8))], [.int (zI 7), .ref 119], es18)) i_139_11 rfl ?_
      refine x0 (r := (13, [some (.ref 119), some (.int (zI 0)), some (.int (zI 7)), some (.int (zI 8))], [.int (zI 0), .int (zI 7), .ref 119], es18)) i_139_12 rfl ?_
      refine x_iast (p := 55) i_139_13 hs_es18 rfl (by unfold i32 iLO iHI; omega) (by omega) (by omega) ?_
      obtain ⟨es19, e_es19⟩ : ∃ z : PH, z = sA es18 55 (Int.toNat 7) (zI 0) := ⟨_, rfl⟩
      have hs_es19 : sh es19 := by rw [e_es19]; exact sh_sA hs_es18
      have hT_es19 : hOK tT es19 := by rw [e_es19]; exact hOK_sA hT_es18 (p := 55) (n := 8) rfl (fun _ => i32_rng _)
      rw [← e_es19]
      refine x_iinc (x := 7) i_139_14 rfl (by show 2 < 4; decide) ?_
      show aW _ _ _ _ _ _ (17, [some (.ref 119), some (.int (zI 0)), some (.int (zI 8)), some (.int (zI 8))], [], es19)
      refine x0 (r := (5, [some (.ref 119), some (.int (zI 0)), some (.int (zI 8)), some (.int (zI 8))], [], es19)) i_139_17 rfl ?_
      refine x0 (r := (6, [some (.ref 119), some (.int (zI 0)), some (.int (zI 8)), some (.int (zI 8))], [.int (zI 8)], es19)) i_139_5 rfl ?_
      refine x0 (r := (7, [some (.ref 119), some (.int (zI 0)), some (.int (zI 8)), some (.int (zI 8))], [.int (zI 8), .int (zI 8)], es19)) i_139_6 rfl ?_
      refine x_cmpT i_139_7 (by unfold i32 iLO iHI; omega) (by unfold i32 iLO iHI; omega) rfl (by simp only [zC, cR]; omega) ?_
      refine x_ret (v := none) i_139_20 rfl (fun _ => rfl) rfl rfl rfl ?_
      show aW _ _ _ _ _ _ (13, [some (.ref 117)], [], es19)
      refine x_ret (v := none) i_149_13 rfl (fun _ => rfl) rfl rfl rfl ?_
      show aW _ _ _ _ _ _ (44, [some (.ref 64), some (.int (zI bk)), none], [], es19)
      refine x0 (r := (45, [some (.ref 64), some (.int (zI bk)), none], [.ref 64], es19)) i_147_44 rfl ?_
      refine x_getr (p := 0) (k := 116) i_147_45 hs_es19 rfl rfl ?_
      show aW _ _ _ _ _ _ (48, [some (.ref 64), some (.int (zI bk)), none], [.ref 116], es19)
      exact K3 c1 v2 e_v2 c3 es4 e_es4 es5 e_es5 es6 e_es6 es7 e_es7 es8 e_es8 es9 e_es9 es10 e_es10 es11 e_es11 es12 e_es12 es13 e_es13 es14 e_es14 es15 e_es15 es16 e_es16 es17 e_es17 es18 e_es18 es19 e_es19 hT_es19
theorem s_bk51 {O : pOut} {d kc ks : Nat} {Q : pRes → Prop} {es : PH} {bk v : Int} (hs_es : sh es) (h_bk : 0 ≤ bk ∧ bk ≤ 2) (hv : -2 ≤ v ∧ v ≤ 30)
    (K1 : v < 0 → Q (.inl (some (.int (zI v))), es, kc, ks))
    (K2 : ¬ (v < 0) → ∀ v2 : Int, v2 = (gA es 13 bk.toNat).toInt → v < v2 → Q (.inl (some (.int (zI v))), es, kc, ks))
    (K3 : ¬ (v < 0) → ∀ v2 : Int, v2 = (gA es 13 bk.toNat).toInt → ¬ (v < v2) → Q (.inl (some (.int (zI (-3)))), es, kc, ks)) :
    aW O (d + 2) 147 kc ks Q (51, [some (.ref 64), some (.int (zI bk)), none], [.int (zI v)], es) := by
  refine x0 (r := (52, [some (.ref 64), some (.int (zI bk)), some (.int (zI v))], [], es)) i_147_51 rfl ?_
  refine x0 (r := (53, [some (.ref 64), some (.int (zI bk)), some (.int (zI v))], [.int (zI v)], es)) i_147_52 rfl ?_
  by_cases c1 : v < 0
  · refine x_ifT i_147_53 (by unfold i32 iLO iHI; omega) rfl (by simp only [zC, cR]; omega) ?_
    refine x0 (r := (74, [some (.ref 64), some (.int (zI bk)), some (.int (zI v))], [.int (zI v)], es)) i_147_73 rfl ?_
    refine x_ret (v := some (.int (zI v))) i_147_74 rfl (fun _ => rfl) rfl rfl rfl ?_
    exact K1 c1
  · refine x_ifF i_147_53 (by unfold i32 iLO iHI; omega) rfl (by simp only [zC, cR]; omega) ?_
    refine x0 (r := (57, [some (.ref 64), some (.int (zI bk)), some (.int (zI v))], [.int (zI v)], es)) i_147_56 rfl ?_
    refine x0 (r := (58, [some (.ref 64), some (.int (zI bk)), some (.int (zI v))], [.ref 64, .int (zI v)], es)) i_147_57 rfl ?_
    refine x_getr (p := 0) (k := 71) i_147_58 hs_es rfl rfl ?_
    show aW _ _ _ _ _ _ (61, [some (.ref 64), some (.int (zI bk)), some (.int (zI v))], [.ref 71, .int (zI v)], es)
    refine x0 (r := (62, [some (.ref 64), some (.int (zI bk)), some (.int (zI v))], [.int (zI bk), .ref 71, .int (zI v)], es)) i_147_61 rfl ?_
    refine x_call (vs := [.ref 71, .int (zI bk)]) (rs := [.int (zI v)]) i_147_62 rfl (fun _ => rfl) rfl rfl rfl rfl rfl (pCall_v (p := 7) hs_es rfl rfl rfl rfl rfl (by decide) rfl rfl rfl rfl rfl) ?_
    show aW _ _ _ _ _ _ (0, [some (.ref 71), some (.int (zI bk))], [], es)
    refine x0 (r := (1, [some (.ref 71), some (.int (zI bk))], [.ref 71], es)) i_35_0 rfl ?_
    refine x_getr (p := 7) (k := 77) i_35_1 hs_es rfl rfl ?_
    show aW _ _ _ _ _ _ (4, [some (.ref 71), some (.int (zI bk))], [.ref 77], es)
    refine x0 (r := (5, [some (.ref 71), some (.int (zI bk))], [.int (zI bk), .ref 77], es)) i_35_4 rfl ?_
    refine x_call (vs := [.ref 77, .int (zI bk)]) (rs := []) i_35_5 rfl (fun _ => rfl) rfl rfl rfl rfl rfl rfl ?_
    show aW _ _ _ _ _ _ (0, [some (.ref 77), some (.int (zI bk))], [], es)
    refine x0 (r := (1, [some (.ref 77), some (.int (zI bk))], [.int (zI bk)], es)) i_28_0 rfl ?_
    refine x_ifF i_28_1 (by unfold i32 iLO iHI; omega) rfl (by simp only [zC, cR]; omega) ?_
    refine x0 (r := (5, [some (.ref 77), some (.int (zI bk))], [.int (zI bk)], es)) i_28_4 rfl ?_
    refine x0 (r := (6, [some (.ref 77), some (.int (zI bk))], [.ref 77, .int (zI bk)], es)) i_28_5 rfl ?_
    refine x_alen (p := 13) (n := 3) i_28_6 hs_es rfl ?_
    refine x_cmpF i_28_7 (by unfold i32 iLO iHI; omega) (by unfold i32 iLO iHI; omega) rfl (by simp only [zC, cR]; omega) ?_
    refine x0 (r := (11, [some (.ref 77), some (.int (zI bk))], [.ref 77], es)) i_28_10 rfl ?_
    refine x0 (r := (12, [some (.ref 77), some (.int (zI bk))], [.int (zI bk), .ref 77], es)) i_28_11 rfl ?_
    refine x_iald (p := 13) i_28_12 hs_es rfl (by unfold i32 iLO iHI; omega) (by omega) (by omega) ?_
    obtain ⟨v2, e_v2⟩ : ∃ z : Int, z = (gA es 13 bk.toNat).toInt := ⟨_, rfl⟩
    rw [← e_v2]
    have r_v2 : iLO ≤ v2 ∧ v2 ≤ iHI := by rw [e_v2]; exact i32_rng _
    unfold iLO iHI at r_v2
    refine x0 (r := (17, [some (.ref 77), some (.int (zI bk))], [.int (zI v2)], es)) i_28_13 rfl ?_
    refine x_ret (v := some (.int (zI v2))) i_28_17 rfl (fun _ => rfl) rfl rfl rfl ?_
    show aW _ _ _ _ _ _ (8, [some (.ref 71), some (.int (zI bk))], [.int (zI v2)], es)
    refine x_ret (v := some (.int (zI v2))) i_35_8 rfl (fun _ => rfl) rfl rfl rfl ?_
    show aW _ _ _ _ _ _ (65, [some (.ref 64), some (.int (zI bk)), some (.int (zI v))], [.int (zI v2), .int (zI v)], es)
    by_cases c3 : v < v2
    · refine x_cmpT i_147_65 (by unfold i32 iLO iHI; omega) (by unfold i32 iLO iHI; omega) rfl (by simp only [zC, cR]; omega) ?_
      refine x0 (r := (74, [some (.ref 64), some (.int (zI bk)), some (.int (zI v))], [.int (zI v)], es)) i_147_73 rfl ?_
      refine x_ret (v := some (.int (zI v))) i_147_74 rfl (fun _ => rfl) rfl rfl rfl ?_
      exact K2 c1 v2 e_v2 c3
    · refine x_cmpF i_147_65 (by unfold i32 iLO iHI; omega) (by unfold i32 iLO iHI; omega) rfl (by simp only [zC, cR]; omega) ?_
      refine x0 (r := (70, [some (.ref 64), some (.int (zI bk)), some (.int (zI v))], [.int (zI (-3))], es)) i_147_68 (by rfl) ?_
      refine x0 (r := (74, [some (.ref 64), some (.int (zI bk)), some (.int (zI v))], [.int (zI (-3))], es)) i_147_70 rfl ?_
      refine x_ret (v := some (.int (zI (-3)))) i_147_74 rfl (fun _ => rfl) rfl rfl rfl ?_
      exact K3 c1 v2 e_v2 c3
def xbkQ (K : Nat → Nat × (Nat → Int × Nat)) (nb : Nat → Nat) (wy : Nat → Int) (nt : Nat → Nat → Nat → Int) (B : Nat → Int) (n : Nat) (bk : Int) (r : Option Value ⊕ Nat) : Prop := (r = .inr 2 ∧ (bk < 0 ∨ (n : Int) ≤ bk)) ∨ ∃ b : Nat, bk = (b : Int) ∧ b < n ∧ r = .inl (some (.int (zI (zBr K (nt b) (wy b) (nb b) B))))
theorem fn_xbkK {xs : Nat → Int32} {N d n : Nat} {Q : pRes → Prop} {es : PH} {bk : Int} {K : Nat → Nat × (Nat → Int × Nat)} {nb : Nat → Nat} {wy : Nat → Int} {nt : Nat → Nat → Nat → Int} {B : Nat → Int} (hN3 : N ≤ 3584) (h_bk : i32 bk) (hT : hOK tT es) (hcn : (gI es 7 5).toInt = (n : Int)) (hC : bkC nb wy nt n es) (hBr : rwB B) (hB : bdC B 11 es) (hK : kdC K 9 10 es) (KQ : ∀ r es' kc' ks', hOK tT es' → xbkQ K nb wy nt B n bk r → Q (r, es', kc', ks')) : aW (pO0 xs N) (d + 31) 147 0 0 Q (0, [some (.ref 64), some (.int (zI bk)), none], [], es) := by
  have hs_es := sh_of hT
  refine s_bk0 (d := d + 27) hs_es h_bk hT (fun c1 => KQ _ _ _ _ hT (Or.inl ⟨rfl, by omega⟩)) (fun c1 v2 e_v2 c3 => KQ _ _ _ _ hT (Or.inl ⟨rfl, by omega⟩)) (fun c1 v2 e_v2 c3 es4 e_es4 es5 e_es5 es6 e_es6 es7 e_es7 es8 e_es8 es9 e_es9 es10 e_es10 es11 e_es11 es12 e_es12 es13 e_es13 es14 e_es14 es15 e_es15 es16 e_es16 es17 e_es17 es18 e_es18 es19 e_es19 hT_es19 => ?_)
  have hs_es4 : sh es4 := by rw [e_es4]; exact sh_sI hs_es (p := 53) (b := 0) rfl rfl
  have hs_es5 : sh es5 := by rw [e_es5]; exact sh_sI hs_es4 (p := 53) (b := 1) rfl rfl
  have hs_es6 : sh es6 := by rw [e_es6]; exact sh_sI hs_es5 (p := 53) (b := 2) rfl rfl
  have hs_es7 : sh es7 := by rw [e_es7]; exact sh_sR hs_es6
  have hs_es8 : sh es8 := by rw [e_es8]; exact sh_sR hs_es7
  have hs_es9 : sh es9 := by rw [e_es9]; exact sh_sI hs_es8 (p := 53) (b := 0) rfl rfl
  have hs_es10 : sh es10 := by rw [e_es10]; exact sh_sI hs_es9 (p := 53) (b := 1) rfl rfl
  have hs_es11 : sh es11 := by rw [e_es11]; exact sh_sI hs_es10 (p := 53) (b := 2) rfl rfl
  have hs_es12 : sh es12 := by rw [e_es12]; exact sh_sA hs_es11
  have hs_es13 : sh es13 := by rw [e_es13]; exact sh_sA hs_es12
  have hs_es14 : sh es14 := by rw [e_es14]; exact sh_sA hs_es13
  have hs_es15 : sh es15 := by rw [e_es15]; exact sh_sA hs_es14
  have hs_es16 : sh es16 := by rw [e_es16]; exact sh_sA hs_es15
  have hs_es17 : sh es17 := by rw [e_es17]; exact sh_sA hs_es16
  have hs_es18 : sh es18 := by rw [e_es18]; exact sh_sA hs_es17
  have hs_es19 : sh es19 := by rw [e_es19]; exact sh_sA hs_es18
  obtain ⟨b, rfl⟩ := Int.eq_ofNat_of_zero_le (show 0 ≤ bk by omega)
  have hbn : b < n := by omega
  obtain ⟨hb3, w12, w13, hn24, hNT, w14⟩ := hC b hbn
  have i53_0 : (gI es19 53 0).toInt = (b : Int) := by rw [e_es19, gI_sA, e_es18, gI_sA, e_es17, gI_sA, e_es16, gI_sA, e_es15, gI_sA, e_es14, gI_sA, e_es13, gI_sA, e_es12, gI_sA, e_es11, gI_sI_ne (Or.inr (by decide)), e_es10, gI_sI_ne (Or.inr (by decide)), e_es9, gI_sI hs_es8 (p := 53) (b := 0) rfl (by decide)]; exact zI_toInt (by unfold i32 iLO iHI; omega)
  have i53_1 : (gI es19 53 1).toInt = (b : Int) + 1 := by rw [e_es19, gI_sA, e_es18, gI_sA, e_es17, gI_sA, e_es16, gI_sA, e_es15, gI_sA, e_es14, gI_sA, e_es13, gI_sA, e_es12, gI_sA, e_es11, gI_sI_ne (Or.inr (by decide)), e_es10, gI_sI hs_es9 (p := 53) (b := 1) rfl (by decide)]; exact zI_toInt (by unfold i32 iLO iHI; omega)
  have i53_2 : (gI es19 53 2).toInt = 0 := by rw [e_es19, gI_sA, e_es18, gI_sA, e_es17, gI_sA, e_es16, gI_sA, e_es15, gI_sA, e_es14, gI_sA, e_es13, gI_sA, e_es12, gI_sA, e_es11, gI_sI hs_es10 (p := 53) (b := 2) rfl (by decide)]; rfl
  have a9 : gA es19 9 = gA es 9 := by rw [e_es19, gA_sA_ne (by decide), e_es18, gA_sA_ne (by decide), e_es17, gA_sA_ne (by decide), e_es16, gA_sA_ne (by decide), e_es15, gA_sA_ne (by decide), e_es14, gA_sA_ne (by decide), e_es13, gA_sA_ne (by decide), e_es12, gA_sA_ne (by decide), e_es11, gA_sI, e_es10, gA_sI, e_es9, gA_sI, e_es8, gA_sR_ne (by decide), e_es7, gA_sR_ne (by decide), e_es6, gA_sI, e_es5, gA_sI, e_es4, gA_sI]
  have a10 : gA es19 10 = gA es 10 := by rw [e_es19, gA_sA_ne (by decide), e_es18, gA_sA_ne (by decide), e_es17, gA_sA_ne (by decide), e_es16, gA_sA_ne (by decide), e_es15, gA_sA_ne (by decide), e_es14, gA_sA_ne (by decide), e_es13, gA_sA_ne (by decide), e_es12, gA_sA_ne (by decide), e_es11, gA_sI, e_es10, gA_sI, e_es9, gA_sI, e_es8, gA_sR_ne (by decide), e_es7, gA_sR_ne (by decide), e_es6, gA_sI, e_es5, gA_sI, e_es4, gA_sI]
  have a11 : gA es19 11 = gA es 11 := by rw [e_es19, gA_sA_ne (by decide), e_es18, gA_sA_ne (by decide), e_es17, gA_sA_ne (by decide), e_es16, gA_sA_ne (by decide), e_es15, gA_sA_ne (by decide), e_es14, gA_sA_ne (by decide), e_es13, gA_sA_ne (by decide), e_es12, gA_sA_ne (by decide), e_es11, gA_sI, e_es10, gA_sI, e_es9, gA_sI, e_es8, gA_sR_ne (by decide), e_es7, gA_sR_ne (by decide), e_es6, gA_sI, e_es5, gA_sI, e_es4, gA_sI]
  have a13 : gA es19 13 = gA es 13 := by rw [e_es19, gA_sA_ne (by decide), e_es18, gA_sA_ne (by decide), e_es17, gA_sA_ne (by decide), e_es16, gA_sA_ne (by decide), e_es15, gA_sA_ne (by decide), e_es14, gA_sA_ne (by decide), e_es13, gA_sA_ne (by decide), e_es12, gA_sA_ne (by decide), e_es11, gA_sI, e_es10, gA_sI, e_es9, gA_sI, e_es8, gA_sR_ne (by decide), e_es7, gA_sR_ne (by decide), e_es6, gA_sI, e_es5, gA_sI, e_es4, gA_sI]
  have a14 : gA es19 14 = gA es 14 := by rw [e_es19, gA_sA_ne (by decide), e_es18, gA_sA_ne (by decide), e_es17, gA_sA_ne (by decide), e_es16, gA_sA_ne (by decide), e_es15, gA_sA_ne (by decide), e_es14, gA_sA_ne (by decide), e_es13, gA_sA_ne (by decide), e_es12, gA_sA_ne (by decide), e_es11, gA_sI, e_es10, gA_sI, e_es9, gA_sI, e_es8, gA_sR_ne (by decide), e_es7, gA_sR_ne (by decide), e_es6, gA_sI, e_es5, gA_sI, e_es4, gA_sI]
  have a54 : (gA es19 54 b).toInt = wy b := by rw [e_es19, gA_sA_ne (by decide), e_es18, gA_sA_ne (by decide), e_es17, gA_sA_ne (by decide), e_es16, gA_sA_ne (by decide), e_es15, gA_sA_ne (by decide), e_es14, gA_sA_ne (by decide), e_es13, gA_sA_ne (by decide), e_es12, gA_sA_ne (by decide), e_es11, gA_sI, e_es10, gA_sI, e_es9, gA_sI, e_es8, gA_sR_ne (by decide), e_es7, gA_sR hs_es6 (p := 54) (t := 0) (n := 3) rfl (by decide), cpy_at hb3, e_es6, gA_sI, e_es5, gA_sI, e_es4, gA_sI]; exact w12
  have r55 : gA es19 55 = upd (upd (upd (upd (upd (upd (upd (upd (gA es8 55) (Int.toNat 0) (zI 0)) (Int.toNat 1) (zI 0)) (Int.toNat 2) (zI 0)) (Int.toNat 3) (zI 0)) (Int.toNat 4) (zI 0)) (Int.toNat 5) (zI 0)) (Int.toNat 6) (zI 0)) (Int.toNat 7) (zI 0) := by rw [e_es19, gA_sA hs_es18 (p := 55) (t := 0) (n := 8) rfl (by decide), e_es18, gA_sA hs_es17 (p := 55) (t := 0) (n := 8) rfl (by decide), e_es17, gA_sA hs_es16 (p := 55) (t := 0) (n := 8) rfl (by decide), e_es16, gA_sA hs_es15 (p := 55) (t := 0) (n := 8) rfl (by decide), e_es15, gA_sA hs_es14 (p := 55) (t := 0) (n := 8) rfl (by decide), e_es14, gA_sA hs_es13 (p := 55) (t := 0) (n := 8) rfl (by decide), e_es13, gA_sA hs_es12 (p := 55) (t := 0) (n := 8) rfl (by decide), e_es12, gA_sA hs_es11 (p := 55) (t := 0) (n := 8) rfl (by decide), e_es11, gA_sI, e_es10, gA_sI, e_es9, gA_sI]
  have a55 : ∀ i, i < 8 → (gA es19 55 i).toInt = 0 := by
    intro i hi
    have h8 : i = 0 ∨ i = 1 ∨ i = 2 ∨ i = 3 ∨ i = 4 ∨ i = 5 ∨ i = 6 ∨ i = 7 := by omega
    rw [r55]
    rcases h8 with rfl | rfl | rfl | rfl | rfl | rfl | rfl | rfl
    · rw [updN (by decide)]
      rw [updN (by decide)]
      rw [updN (by decide)]
      rw [updN (by decide)]
      rw [updN (by decide)]
      rw [updN (by decide)]
      rw [updN (by decide)]
      unfold upd
      rw [if_pos (show (0 : Nat) = Int.toNat 0 by decide)]
      rfl
    · rw [updN (by decide)]
      rw [updN (by decide)]
      rw [updN (by decide)]
      rw [updN (by decide)]
      rw [updN (by decide)]
      rw [updN (by decide)]
      unfold upd
      rw [if_pos (show (1 : Nat) = Int.toNat 1 by decide)]
      rfl
    · rw [updN (by decide)]
      rw [updN (by decide)]
      rw [updN (by decide)]
      rw [updN (by decide)]
      rw [updN (by decide)]
      unfold upd
      rw [if_pos (show (2 : Nat) = Int.toNat 2 by decide)]
      rfl
    · rw [updN (by decide)]
      rw [updN (by decide)]
      rw [updN (by decide)]
      rw [updN (by decide)]
      unfold upd
      rw [if_pos (show (3 : Nat) = Int.toNat 3 by decide)]
      rfl
    · rw [updN (by decide)]
      rw [updN (by decide)]
      rw [updN (by decide)]
      unfold upd
      rw [if_pos (show (4 : Nat) = Int.toNat 4 by decide)]
      rfl
    · rw [updN (by decide)]
      rw [updN (by decide)]
      unfold upd
      rw [if_pos (show (5 : Nat) = Int.toNat 5 by decide)]
      rfl
    · rw [updN (by decide)]
      unfold upd
      rw [if_pos (show (6 : Nat) = Int.toNat 6 by decide)]
      rfl
    · unfold upd
      rw [if_pos (show (7 : Nat) = Int.toNat 7 by decide)]
      rfl
  refine x_call (vs := [.ref 116]) (rs := []) i_147_48 rfl (fun _ => rfl) rfl rfl rfl rfl rfl (pCall_v (p := 52) hs_es19 rfl rfl rfl rfl rfl (by decide) rfl rfl rfl rfl rfl) ?_
  show aW _ _ _ _ _ _ (0, [some (.ref 116)], [], es19)
  refine dn_sp (d := d) (b := b) (nb := nb b) (wy := wy b) (K := K) (nt := nt b) (B := B) hN3 (by omega) hn24 hNT hBr hT_es19 i53_0 i53_1 i53_2 a55 (by rw [a13]; exact w13) a54 ?_ (by rw [a14]; exact w14) ?_ (fun es' v hT' h13 hv => ?_)
  · unfold kdC at hK ⊢
    rw [a9, a10]
    exact hK
  · intro s hs
    rw [a11]
    exact hB s hs
  show aW _ _ _ _ _ _ (51, [some (.ref 64), some (.int (zI (b : Int))), none], [.int (zI v)], es')
  have hx := tX_le (K := K) (nt := nt b) (wy := wy b) (nb := nb b) 24 0 B (Nat.zero_le _)
  have hv2 : -2 ≤ v ∧ v ≤ 30 := by rw [hv]; split <;> omega
  have ez : zBr K (nt b) (wy b) (nb b) B = if v < 0 then v else if v < (nb b : Int) then v else -3 := by
    unfold zBr
    rw [hv]
    by_cases h8 : 8000 < tN (zKid K (nt b) (wy b) (nb b)) 24 0 B
    · rw [if_pos h8, if_pos h8, if_pos (by omega)]
    · by_cases h9 : tX (zKid K (nt b) (wy b) (nb b)) 24 0 B = nb b
      · rw [if_neg h8, if_neg h8, if_pos h9, if_neg (show ¬ ((tX (zKid K (nt b) (wy b) (nb b)) 24 0 B : Int) < 0) by omega), if_neg (show ¬ ((tX (zKid K (nt b) (wy b) (nb b)) 24 0 B : Int) < (nb b : Int)) by omega)]
      · rw [if_neg h8, if_neg h8, if_neg h9, if_neg (show ¬ ((tX (zKid K (nt b) (wy b) (nb b)) 24 0 B : Int) < 0) by omega), if_pos (show (tX (zKid K (nt b) (wy b) (nb b)) 24 0 B : Int) < (nb b : Int) by omega)]
  refine s_bk51 (d := d + 29) (sh_of hT') ⟨by omega, by omega⟩ hv2 (fun c1 => ?_) (fun c1 v2 e2 c2 => ?_) (fun c1 v2 e2 c2 => ?_)
  · refine KQ _ _ _ _ hT' (Or.inr ⟨b, rfl, hbn, ?_⟩)
    rw [ez, if_pos c1]
  · rw [Int.toNat_natCast, h13] at e2
    refine KQ _ _ _ _ hT' (Or.inr ⟨b, rfl, hbn, ?_⟩)
    rw [ez, if_neg c1, if_pos (by omega)]
  · rw [Int.toNat_natCast, h13] at e2
    refine KQ _ _ _ _ hT' (Or.inr ⟨b, rfl, hbn, ?_⟩)
    rw [ez, if_neg c1, if_neg (by omega)]
theorem s_lbk0 {O : pOut} {d kc ks : Nat} {Q : pRes → Prop} {es : PH} {bk : Int} (hs_es : sh es)
    (K1 : aW O d 293 kc ks Q (4, [some (.ref 64), some (.int (zI bk)), some (.ref 171), none], [.int (zI bk), .ref 64, .int (zI 0), .ref 171], es)) :
    aW O d 293 kc ks Q (0, [some (.ref 64), some (.int (zI bk)), some (.ref 171), none], [], es) := by
  refine x0 (r := (1, [some (.ref 64), some (.int (zI bk)), some (.ref 171), none], [.ref 171], es)) i_293_0 rfl ?_
  refine x0 (r := (2, [some (.ref 64), some (.int (zI bk)), some (.ref 171), none], [.int (zI 0), .ref 171], es)) i_293_1 (by rfl) ?_
  refine x0 (r := (3, [some (.ref 64), some (.int (zI bk)), some (.ref 171), none], [.ref 64, .int (zI 0), .ref 171], es)) i_293_2 rfl ?_
  refine x0 (r := (4, [some (.ref 64), some (.int (zI bk)), some (.ref 171), none], [.int (zI bk), .ref 64, .int (zI 0), .ref 171], es)) i_293_3 rfl ?_
  exact K1
theorem s_lbk7 {O : pOut} {d kc ks : Nat} {Q : pRes → Prop} {es : PH} {bk v : Int} (hs_es : sh es)
    (K1 : ∀ es1 : PH, es1 = sJ es 107 (Int.toNat 0) ((zI v).toInt64) → Q (.inl (some (.int (zI 0))), es1, kc, ks)) :
    aW O d 293 kc ks Q (7, [some (.ref 64), some (.int (zI bk)), some (.ref 171), none], [.int (zI v), .int (zI 0), .ref 171], es) := by
  refine x0 (r := (8, [some (.ref 64), some (.int (zI bk)), some (.ref 171), none], [.long ((zI v).toInt64), .int (zI 0), .ref 171], es)) i_293_7 rfl ?_
  refine x_last (p := 107) i_293_8 hs_es rfl (by unfold i32 iLO iHI; omega) (by omega) (by omega) ?_
  obtain ⟨es1, e_es1⟩ : ∃ z : PH, z = sJ es 107 (Int.toNat 0) ((zI v).toInt64) := ⟨_, rfl⟩
  have hs_es1 : sh es1 := by rw [e_es1]; exact sh_sJ hs_es
  rw [← e_es1]
  refine x0 (r := (15, [some (.ref 64), some (.int (zI bk)), some (.ref 171), none], [], es1)) i_293_9 rfl ?_
  refine x0 (r := (16, [some (.ref 64), some (.int (zI bk)), some (.ref 171), none], [.int (zI 0)], es1)) i_293_15 (by rfl) ?_
  refine x_ret (v := some (.int (zI 0))) i_293_16 rfl (fun _ => rfl) rfl rfl rfl ?_
  exact K1 es1 e_es1
theorem s_lbk13 {O : pOut} {d kc ks : Nat} {Q : pRes → Prop} {es : PH} {bk : Int} (hs_es : sh es)
    (K1 : Q (.inl (some (.int (zI 1))), es, kc, ks)) :
    aW O d 293 kc ks Q (13, [some (.ref 64), some (.int (zI bk)), some (.ref 171), none], [], es) := by
  refine x0 (r := (14, [some (.ref 64), some (.int (zI bk)), some (.ref 171), none], [.int (zI 1)], es)) i_293_13 (by rfl) ?_
  refine x_ret (v := some (.int (zI 1))) i_293_14 rfl (fun _ => rfl) rfl rfl rfl ?_
  exact K1
/-- the law's call of breaks -/
def lbkP (K : Nat → Nat × (Nat → Int × Nat)) (nb : Nat → Nat) (wy : Nat → Int) (nt : Nat → Nat → Nat → Int) (B : Nat → Int) (n : Nat) (bk : Int) (r : Option Value ⊕ Nat) (es1 : PH) : Prop := sh es1 ∧ ∃ k : Int, r = .inl (some (.int (zI k))) ∧ ((k = 1 ∧ (bk < 0 ∨ (n : Int) ≤ bk)) ∨ (k = 0 ∧ ∃ b : Nat, bk = (b : Int) ∧ b < n ∧ (gJ es1 107 (Int.toNat 0)).toInt = zBr K (nt b) (wy b) (nb b) B))
theorem zBr_r {K : Nat → Nat × (Nat → Int × Nat)} {nt : Nat → Nat → Int} {wy : Int} {nb : Nat} {B : Nat → Int} (hn : nb ≤ 24) : -3 ≤ zBr K nt wy nb B ∧ zBr K nt wy nb B ≤ 24 := by
  have hx := tX_le (K := K) (nt := nt) (wy := wy) (nb := nb) 24 0 B (Nat.zero_le _)
  unfold zBr
  split
  · omega
  · split
    · omega
    · omega
theorem fn_lbk {xs : Nat → Int32} {N d n : Nat} {es : PH} {bk : Int} {K : Nat → Nat × (Nat → Int × Nat)} {nb : Nat → Nat} {wy : Nat → Int} {nt : Nat → Nat → Nat → Int} {B : Nat → Int} (hN3 : N ≤ 3584) (h_bk : i32 bk) (hT : hOK tT es) (hcn : (gI es 7 5).toInt = (n : Int)) (hC : bkC nb wy nt n es) (hBr : rwB B) (hB : bdC B 11 es) (hK : kdC K 9 10 es) : aW (pO0 xs N) (d + 32) 293 0 0 (fun o => lbkP K nb wy nt B n bk o.1 o.2.1) (0, [some (.ref 64), some (.int (zI bk)), some (.ref 171), none], [], es) := by
  refine s_lbk0 (sh_of hT) ?_
  refine x_call (vs := [.ref 64, .int (zI bk)]) (rs := [.int (zI 0), .ref 171]) i_293_4 rfl (fun _ => rfl) rfl rfl rfl rfl rfl (pCall_v (p := 0) (sh_of hT) rfl rfl rfl rfl rfl (by decide) rfl rfl rfl rfl rfl) ?_
  show aW _ _ _ _ _ _ (0, [some (.ref 64), some (.int (zI bk)), none], [], es)
  refine fn_xbkK (d := d) (n := n) (K := K) (nb := nb) (wy := wy) (nt := nt) (B := B) hN3 h_bk hT hcn hC hBr hB hK (fun r es' kc' ks' hT' h => ?_)
  rcases h with ⟨rfl, h1⟩ | ⟨b, hb, hbn, rfl⟩
  · refine ⟨_, _, _, _, rfl, rfl, rfl, ?_⟩
    show aW _ _ _ _ _ _ (13, [some (.ref 64), some (.int (zI bk)), some (.ref 171), none], [], es')
    exact s_lbk13 (sh_of hT') ⟨sh_of hT', 1, rfl, Or.inl ⟨rfl, h1⟩⟩
  · refine aK_inl ?_
    show aW _ _ _ _ _ _ (7, [some (.ref 64), some (.int (zI bk)), some (.ref 171), none], [.int (zI (zBr K (nt b) (wy b) (nb b) B)), .int (zI 0), .ref 171], es')
    have hzr := zBr_r (K := K) (nt := nt b) (wy := wy b) (B := B) (hC b hbn).2.2.2.1
    refine s_lbk7 (sh_of hT') (fun es1 e_es1 => ?_)
    have g3 : (gJ es1 107 (Int.toNat 0)).toInt = zBr K (nt b) (wy b) (nb b) B := by
      rw [e_es1, gJ_sJ (sh_of hT') (p := 107) (n := 1) rfl]
      unfold vp_updL
      rw [if_pos rfl, i2l_int (by unfold i32 iLO iHI; omega)]
    exact ⟨by show sh es1; rw [e_es1]; exact sh_sJ (sh_of hT'), 0, rfl, Or.inr ⟨rfl, b, hb, hbn, g3⟩⟩
