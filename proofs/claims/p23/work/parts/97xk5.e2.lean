/-! bits of a long, and Long.bitCount -/
def lbit (a : Int64) (t : Nat) : Bool := a.toBitVec.getLsbD t
theorem lbit_or {a b : Int64} {t : Nat} : lbit (a ||| b) t = (lbit a t || lbit b t) := by
  unfold lbit
  rw [Int64.toBitVec_or, BitVec.getLsbD_or]
theorem lbit_0 {t : Nat} : lbit (Int64.ofNat 0) t = false := by
  unfold lbit
  show (0#64).getLsbD t = false
  exact BitVec.getLsbD_zero
theorem shf_36 : ∀ x, x < 36 → (((Int32.ofNat x).toInt64 &&& 63).toBitVec.smod 64).toNat = x := by decide
theorem zI_nat {x : Int} (h0 : 0 ≤ x) : zI x = Int32.ofNat x.toNat := by
  unfold zI
  rw [← Int32.ofInt_eq_ofNat]
  congr 1
  omega
theorem lbit_sh {x : Int} {t : Nat} (h0 : 0 ≤ x) (h1 : x ≤ 35) : lbit (Int64.ofNat 1 <<< ((zI x).toInt64 &&& 63)) t = decide (x.toNat = t) := by
  have hk := shf_36 x.toNat (by omega)
  rw [← zI_nat h0] at hk
  unfold lbit
  rw [Int64.toBitVec_shiftLeft]
  show ((1#64) <<< (((zI x).toInt64 &&& 63).toBitVec.smod 64)).getLsbD t = _
  rw [BitVec.shiftLeft_eq', hk, BitVec.getLsbD_shiftLeft]
  by_cases ht : x.toNat = t
  · subst ht
    simp
    omega
  · rw [decide_eq_false ht]
    by_cases hlt : t < x.toNat
    · simp [hlt]
    · have : ¬ t - x.toNat = 0 := by omega
      simp [this]
section
variable {O : pOut} {d j kc ks pc q a b : Nat} {Q : pRes → Prop} {L : PL} {s : List Value} {es : PH} {ret : Option FieldType}
theorem x_oal {k n : Nat} {g : Nat → Int32} {x : Int} (hi : iRow j pc = some (.iaload, q, a, b, ret)) (hk : k < 64) (ho : O k = some (n, g)) (hx : i32 x) (h0 : 0 ≤ x) (h1 : x < (n : Int)) (K : aW O d j kc ks Q (pc + 1, L, .int (zI (g x.toNat).toInt) :: s, es)) : aW O d j kc ks Q (pc, L, .int (zI x) :: .ref k :: s, es) := by
  obtain ⟨c1, c2⟩ := pIn_of (i := zI x) (n := n) (by rw [zI_toInt hx]; exact h0) (by rw [zI_toInt hx]; exact h1)
  have c3 : (zI x).toNatClampNeg = x.toNat := by
    rw [zI_toInt hx] at c2; omega
  rw [zI_id] at K
  refine x1 hi rfl (fun ini => ?_) rfl K
  simp only [pS1, pArrI]
  rw [if_pos hk, ho]
  simp only [c1, if_true, c3]
theorem x_olen {k n : Nat} {g : Nat → Int32} (hi : iRow j pc = some (.arraylength, q, a, b, ret)) (hk : k < 64) (ho : O k = some (n, g)) (K : aW O d j kc ks Q (pc + 1, L, .int (zI (n : Int)) :: s, es)) : aW O d j kc ks Q (pc, L, .ref k :: s, es) := by
  refine x1 hi rfl (fun ini => ?_) rfl K
  simp only [pS1, pLenA]
  rw [if_pos hk, ho]
  rfl
theorem x_gst {ix : Nat} (hi : iRow j pc = some (.getstatic ix, q, a, b, ret)) (K : aW O d j kc ks Q (pc + 3, L, .ref a :: s, es)) : aW O d j kc ks Q (pc, L, s, es) := x1 hi rfl (fun ini => rfl) rfl K
theorem atP_is {p : Nat} {x v : Int} {es : PH} (h : atP p x es v) : (-2147483648 ≤ v ∧ v ≤ 2147483647) ∧ v = (gA es p x.toNat).toInt := ⟨atP_rng h, h⟩
end
