/-! ABSTRACT ARITHMETIC -/
def iLO : Int := -2147483648
def iHI : Int := 2147483647
def lLO : Int := -9223372036854775808
def lHI : Int := 9223372036854775807
theorem bm32 {z : Int} (h1 : iLO ≤ z) (h2 : z ≤ iHI) : z.bmod 4294967296 = z := by
  unfold iLO at h1; unfold iHI at h2
  rw [Int.bmod_def]; split <;> omega
theorem i32_rng (x : Int32) : iLO ≤ x.toInt ∧ x.toInt ≤ iHI := by
  have h1 := Int32.le_toInt x
  have h2 := Int32.toInt_lt x
  unfold iLO iHI; omega
theorem i64_rng (x : Int64) : lLO ≤ x.toInt ∧ x.toInt ≤ lHI := by
  have h1 := Int64.le_toInt x
  have h2 := Int64.toInt_lt x
  unfold lLO lHI; omega
def aNew (e : aE) (l h : Int) : aE × aF := (e ++ [(l, h)], fV e.length)
theorem aNew_ok {ρ : List Int} {e : aE} (h : gE ρ e) {l r v : Int} (hv : l ≤ v ∧ v ≤ r) : gE (ρ ++ [v]) (aNew e l r).1 ∧ evF (ρ ++ [v]) (aNew e l r).2 = some v := by
  refine ⟨⟨by simp [aNew, h.1], fun x w hw => ?_⟩, ?_⟩
  · simp only [aNew, List.getD_eq_getElem?_getD]
    by_cases hx : x < ρ.length
    · rw [List.getElem?_append_left hx] at hw
      rw [List.getElem?_append_left (by rw [← h.1]; exact hx)]
      have := h.2 x w hw
      rwa [List.getD_eq_getElem?_getD] at this
    · rw [List.getElem?_append_right (by omega)] at hw
      rw [List.getElem?_append_right (by rw [← h.1]; omega), ← h.1]
      generalize x - ρ.length = k at hw ⊢
      cases k with
      | zero => simp at hw; subst hw; simpa using hv
      | succ k => simp at hw
  · refine fV_ev ?_
    rw [← h.1, List.getElem?_append_right (Nat.le_refl _)]; simp
/-- an int that is told to lie within -/
def aNorm (e : aE) (cs : List aF) (f : aF) : aE × aF := bif iLe iLO (pLo e cs f) && iLe (pHi e cs f) iHI then (e, f) else aNew e iLO iHI
theorem aNorm_ok {ρ : List Int} {e : aE} {cs : List aF} (h : gE ρ e) (hc : gC ρ cs) {f : aF} {t : Int} (hf : evF ρ f = some t) {v : Int32} (hv : v.toInt = t.bmod 4294967296) : ∃ τ, gE (ρ ++ τ) (aNorm e cs f).1 ∧ evF (ρ ++ τ) (aNorm e cs f).2 = some v.toInt := by
  unfold aNorm
  cases hb : iLe iLO (pLo e cs f) && iLe (pHi e cs f) iHI with
  | true =>
    simp only [Bool.and_eq_true, iLe_iff] at hb
    have := pLo_le h hc hf
    refine ⟨[], by simpa using h, ?_⟩
    rw [hv, bm32 (by omega) (by omega)]
    simpa using hf
  | false => exact ⟨[v.toInt], aNew_ok h (i32_rng v)⟩
def tq (a c : Int) : Int := bif iLe 0 a then a / c else -((-a) / c)
theorem tq_tdiv {a c : Int} (hc : 0 < c) : a.tdiv c = tq a c := by
  unfold tq
  cases ha : iLe 0 a with
  | true => exact Int.tdiv_eq_ediv_of_nonneg (iLe_iff.mp ha)
  | false =>
    have ha' := iLe_not.mp ha
    simp only [cond_false]
    rw [← Int.tdiv_eq_ediv_of_nonneg (by omega), Int.neg_tdiv, Int.neg_neg]
theorem tq_mono {a b c : Int} (hc : 0 < c) (h : a ≤ b) : tq a c ≤ tq b c := by
  unfold tq
  cases ha : iLe 0 a with
  | true =>
    have ha' := iLe_iff.mp ha
    rw [iLe_iff.mpr (Int.le_trans ha' h)]
    exact Int.ediv_le_ediv hc h
  | false =>
    have ha' := iLe_not.mp ha
    simp only [cond_false]
    cases hb : iLe 0 b with
    | true =>
      have hb' := iLe_iff.mp hb
      have h1 : 0 ≤ (-a) / c := Int.ediv_nonneg (by omega) (by omega)
      have h2 : 0 ≤ b / c := Int.ediv_nonneg hb' (by omega)
      simp only [cond_true]; omega
    | false =>
      have := Int.ediv_le_ediv hc (show -b ≤ -a by omega)
      simp only [cond_false]; omega
/-- the quotient by anything from 1 on lies between a and 0 -/
theorem tdiv_within {a c : Int} (hc : 0 < c) : (0 ≤ a → 0 ≤ a.tdiv c ∧ a.tdiv c ≤ a) ∧ (a ≤ 0 → a ≤ a.tdiv c ∧ a.tdiv c ≤ 0) := by
  refine ⟨fun ha => ?_, fun ha => ?_⟩
  · rw [Int.tdiv_eq_ediv_of_nonneg ha]
    exact ⟨Int.ediv_nonneg ha (by omega), Int.ediv_le_self _ ha⟩
  · have e1 : a.tdiv c = -((-a) / c) := by
      rw [← Int.tdiv_eq_ediv_of_nonneg (by omega), Int.neg_tdiv, Int.neg_neg]
    have h1 : 0 ≤ (-a) / c := Int.ediv_nonneg (by omega) (by omega)
    have h2 : (-a) / c ≤ -a := Int.ediv_le_self _ (by omega)
    omega
theorem i32_div {x y : Int32} (hy : 0 < y.toInt) : (x / y).toInt = x.toInt.tdiv y.toInt := by
  rw [Int32.toInt_div]
  have h1 := i32_rng x
  have h2 := tdiv_within (a := x.toInt) hy
  refine bm32 ?_ ?_ <;> (rcases Int.le_total 0 x.toInt with h | h) <;> (first | have h3 := h2.1 h | have h3 := h2.2 h) <;> (unfold iLO iHI at *; omega)
theorem i32_rem {x y : Int32} (hy : 0 < y.toInt) : (x - x / y * y).toInt = x.toInt.tmod y.toInt := by
  have h1 := i32_rng x
  have h2 := i32_div (x := x) hy
  have h3 : (x / y * y).toInt = (x.toInt.tdiv y.toInt * y.toInt).bmod 4294967296 := by rw [Int32.toInt_mul, h2]
  have h4 : x.toInt.tmod y.toInt = x.toInt - y.toInt * x.toInt.tdiv y.toInt := Int.tmod_def _ _
  have h5 : x.toInt.tmod y.toInt < y.toInt := Int.tmod_lt_of_pos _ hy
  have h6 : -y.toInt < x.toInt.tmod y.toInt := by
    have := Int.tmod_lt_of_pos (-x.toInt) hy
    rw [Int.neg_tmod] at this; omega
  have h7 := i32_rng y
  have h8 : 0 ≤ x.toInt → 0 ≤ x.toInt.tmod y.toInt := fun h => Int.tmod_nonneg _ h
  have h9 : x.toInt ≤ 0 → x.toInt.tmod y.toInt ≤ 0 := fun h => by
    have := Int.tmod_nonneg (a := -x.toInt) y.toInt (by omega)
    rw [Int.neg_tmod] at this; omega
  rw [Int.mul_comm] at h4
  unfold iLO iHI at h1 h7
  generalize x.toInt.tdiv y.toInt * y.toInt = q at h3 h4
  have h10 : (x / y * y).toInt = q := by
    rw [h3]
    refine bm32 ?_ ?_ <;> (simp only [iLO, iHI]; rcases Int.le_total 0 x.toInt with h | h) <;> (first | have h3 := h8 h | have h3 := h9 h) <;> omega
  rw [Int32.toInt_sub, h10, h4]
  refine bm32 ?_ ?_ <;> (simp only [iLO, iHI]; rcases Int.le_total 0 x.toInt with h | h) <;> (first | have h3 := h8 h | have h3 := h9 h) <;> omega
theorem i32_and {x y : Int32} (hy : 0 ≤ y.toInt) : 0 ≤ (x &&& y).toInt ∧ (x &&& y).toInt ≤ y.toInt := by
  have e1 : (x &&& y).toBitVec = x.toBitVec &&& y.toBitVec := Int32.toBitVec_and x y
  have hy' : 0 ≤ y.toBitVec.toInt := hy
  show 0 ≤ (x &&& y).toBitVec.toInt ∧ (x &&& y).toBitVec.toInt ≤ y.toBitVec.toInt
  rw [e1]
  have h1 : (x.toBitVec &&& y.toBitVec).toNat ≤ y.toBitVec.toNat := by
    rw [BitVec.toNat_and]; exact Nat.and_le_right
  rw [BitVec.toInt_eq_toNat_cond] at hy' ⊢
  rw [BitVec.toInt_eq_toNat_cond]
  have h2 := y.toBitVec.isLt
  split at hy' <;> (split <;> omega)
/-- two ints -/
def aArith (ins : Instr) (e : aE) (cs : List aF) (f g : aF) : Option (aE × aF) := match ins with
  | .iadd => some (aNorm e cs (fAdd 1 f g))
  | .isub => some (aNorm e cs (fAdd (-1) f g))
  | .imul => match f.2, g.2 with
    | _, [] => some (aNorm e cs (fScale g.1 f))
    | [], _ => some (aNorm e cs (fScale f.1 g))
    | _, _ => bif iLe 0 (pLo e cs f) && (iLe 0 (pLo e cs g) && iLe (pHi e cs f * pHi e cs g) iHI) then some (aNew e 0 (pHi e cs f * pHi e cs g)) else some (aNew e iLO iHI)
  | .idiv => match g.2 with
    | [] => bif iLe 1 g.1 then some (aNew e (tq (pLo e cs f) g.1) (tq (pHi e cs f) g.1)) else none
    | _ => bif iLe 1 (pLo e cs g) then some (aNew e (iMin 0 (pLo e cs f)) (iMax 0 (pHi e cs f))) else none
  | .irem => bif iLe 1 (pLo e cs g) then (bif iLe 0 (pLo e cs f) then some (aNew e 0 (iMin (pHi e cs f) (pHi e cs g - 1))) else some (aNew e (1 - pHi e cs g) (pHi e cs g - 1))) else none
  | .iand => match f.2, g.2 with
    | _, [] => bif iLe 0 g.1 then some (aNew e 0 g.1) else some (aNew e iLO iHI)
    | [], _ => bif iLe 0 f.1 then some (aNew e 0 f.1) else some (aNew e iLO iHI)
    | _, _ => some (aNew e iLO iHI)
  | .ior | .ishl | .ishr | .iushr => some (aNew e iLO iHI)
  | _ => none
theorem fC_val {ρ : List Int} {f : aF} {t : Int} (h : f.2 = []) (hf : evF ρ f = some t) : t = f.1 := by
  obtain ⟨s, h1, h2⟩ := evF_iff.mp hf
  rw [h, evT_nil] at h1
  omega
set_option maxHeartbeats 4000000 in
theorem aArith_ok {ρ : List Int} {e : aE} {cs : List aF} (h : gE ρ e) (hc : gC ρ cs) {ins : Instr} {f g : aF} {x y : Int32} (hf : evF ρ f = some x.toInt) (hg : evF ρ g = some y.toInt) {r : aE × aF} (hr : aArith ins e cs f g = some r) : ∃ v τ, pBin ins x y = some v ∧ gE (ρ ++ τ) r.1 ∧ evF (ρ ++ τ) r.2 = some v.toInt := by
  have bf := pLo_le h hc hf
  have bg := pLo_le h hc hg
  have any : ∀ v : Int32, r = aNew e iLO iHI → ∃ τ, gE (ρ ++ τ) r.1 ∧ evF (ρ ++ τ) r.2 = some v.toInt := fun v hv => by
    subst hv; exact ⟨[v.toInt], aNew_ok h (i32_rng v)⟩
  unfold aArith at hr
  split at hr
  · cases hr
    obtain ⟨τ, h1⟩ := aNorm_ok h hc (fAdd_ev (k := 1) hf hg) (v := x + y) (by rw [Int32.toInt_add, Int.one_mul])
    exact ⟨x + y, τ, rfl, h1⟩
  · cases hr
    obtain ⟨τ, h1⟩ := aNorm_ok h hc (fAdd_ev (k := -1) hf hg) (v := x - y) (by rw [Int32.toInt_sub]; congr 1; omega)
    exact ⟨x - y, τ, rfl, h1⟩
  · split at hr
    · rename_i hg2
      cases hr
      obtain ⟨τ, h1⟩ := aNorm_ok h hc (fScale_ev (k := g.1) hf) (v := x * y) (by rw [Int32.toInt_mul, fC_val hg2 hg, Int.mul_comm])
      exact ⟨x * y, τ, rfl, h1⟩
    · rename_i hf2 _
      cases hr
      obtain ⟨τ, h1⟩ := aNorm_ok h hc (fScale_ev (k := f.1) hg) (v := x * y) (by rw [Int32.toInt_mul, fC_val hf2 hf])
      exact ⟨x * y, τ, rfl, h1⟩
    · cases hb : iLe 0 (pLo e cs f) && (iLe 0 (pLo e cs g) && iLe (pHi e cs f * pHi e cs g) iHI) with
      | true =>
        rw [hb] at hr
        simp only [cond_true, Option.some.injEq] at hr
        subst hr
        simp only [Bool.and_eq_true, iLe_iff] at hb
        obtain ⟨b1, b2, b3⟩ := hb
        have h0 : 0 ≤ x.toInt * y.toInt := Int.mul_nonneg (by omega) (by omega)
        have h1 : x.toInt * y.toInt ≤ pHi e cs f * pHi e cs g := Int.mul_le_mul bf.2 bg.2 (by omega) (by omega)
        have h2 : (x * y).toInt = x.toInt * y.toInt := by
          rw [Int32.toInt_mul]
          exact bm32 (by unfold iLO; omega) (by omega)
        refine ⟨x * y, [x.toInt * y.toInt], rfl, ?_⟩
        rw [h2]
        exact aNew_ok h ⟨h0, h1⟩
      | false =>
        rw [hb] at hr
        obtain ⟨τ, h1⟩ := any (x * y) (by simpa using hr.symm)
        exact ⟨_, τ, rfl, h1⟩
  · split at hr
    · rename_i hg2
      have hgv := fC_val hg2 hg
      cases hb : iLe 1 g.1 with
      | false => rw [hb] at hr; cases hr
      | true =>
        rw [hb] at hr
        simp only [cond_true, Option.some.injEq] at hr
        subst hr
        have hp : 0 < y.toInt := by have := iLe_iff.mp hb; omega
        have hy0 : ¬ y = 0 := fun hh => by rw [hh] at hp; exact absurd hp (by decide)
        refine ⟨x / y, [(x / y).toInt], by simp only [pBin, hy0, if_false], ?_⟩
        refine aNew_ok h ?_
        rw [i32_div hp, tq_tdiv hp, ← hgv]
        exact ⟨tq_mono hp bf.1, tq_mono hp bf.2⟩
    · cases hb : iLe 1 (pLo e cs g) with
      | false => rw [hb] at hr; cases hr
      | true =>
        rw [hb] at hr
        simp only [cond_true, Option.some.injEq] at hr
        subst hr
        have hp : 0 < y.toInt := by have := iLe_iff.mp hb; omega
        have hy0 : ¬ y = 0 := fun hh => by rw [hh] at hp; exact absurd hp (by decide)
        refine ⟨x / y, [(x / y).toInt], by simp only [pBin, hy0, if_false], ?_⟩
        refine aNew_ok h ?_
        rw [i32_div hp]
        have h2 := tdiv_within (a := x.toInt) hp
        unfold iMin iMax
        rcases Int.le_total 0 x.toInt with hx | hx
        · have h3 := h2.1 hx
          constructor
          · cases hq : iLe 0 (pLo e cs f) with
            | true => simp only [cond_true]; omega
            | false => have := iLe_not.mp hq; simp only [cond_false]; omega
          · cases hq : iLe 0 (pHi e cs f) with
            | true => simp only [cond_true]; omega
            | false => have := iLe_not.mp hq; simp only [cond_false]; omega
        · have h3 := h2.2 hx
          constructor
          · cases hq : iLe 0 (pLo e cs f) with
            | true => have := iLe_iff.mp hq; simp only [cond_true]; omega
            | false => simp only [cond_false]; omega
          · cases hq : iLe 0 (pHi e cs f) with
            | true => have := iLe_iff.mp hq; simp only [cond_true]; omega
            | false => simp only [cond_false]; omega
  · cases hb : iLe 1 (pLo e cs g) with
    | false => rw [hb] at hr; cases hr
    | true =>
      rw [hb] at hr
      simp only [cond_true] at hr
      have hp : 0 < y.toInt := by have := iLe_iff.mp hb; omega
      have hy0 : ¬ y = 0 := fun hh => by rw [hh] at hp; exact absurd hp (by decide)
      have hm1 : x.toInt.tmod y.toInt < y.toInt := Int.tmod_lt_of_pos _ hp
      have hm2 : -y.toInt < x.toInt.tmod y.toInt := by
        have := Int.tmod_lt_of_pos (-x.toInt) hp
        rw [Int.neg_tmod] at this; omega
      refine ⟨x - x / y * y, [(x - x / y * y).toInt], by simp only [pBin, hy0, if_false], ?_⟩
      cases hq : iLe 0 (pLo e cs f) with
      | true =>
        rw [hq] at hr
        simp only [cond_true, Option.some.injEq] at hr
        subst hr
        have hx : 0 ≤ x.toInt := by have := iLe_iff.mp hq; omega
        refine aNew_ok h ?_
        rw [i32_rem hp]
        have hm3 : 0 ≤ x.toInt.tmod y.toInt := Int.tmod_nonneg _ hx
        have hm4 : x.toInt.tmod y.toInt ≤ x.toInt := by
          have q1 : x.toInt.tmod y.toInt = x.toInt - y.toInt * x.toInt.tdiv y.toInt := Int.tmod_def _ _
          have q2 : 0 ≤ y.toInt * x.toInt.tdiv y.toInt := Int.mul_nonneg (by omega) ((tdiv_within (a := x.toInt) hp).1 hx).1
          omega
        exact ⟨hm3, le_iMin (by omega) (by omega)⟩
      | false =>
        rw [hq] at hr
        simp only [cond_false, Option.some.injEq] at hr
        subst hr
        refine aNew_ok h ?_
        rw [i32_rem hp]
        constructor <;> omega
  · split at hr
    · rename_i hg2
      have hgv := fC_val hg2 hg
      cases hb : iLe 0 g.1 with
      | true =>
        rw [hb] at hr
        simp only [cond_true, Option.some.injEq] at hr
        subst hr
        have := iLe_iff.mp hb
        have h2 := i32_and (x := x) (y := y) (by omega)
        exact ⟨x &&& y, [(x &&& y).toInt], rfl, aNew_ok h (by omega)⟩
      | false =>
        rw [hb] at hr
        obtain ⟨τ, h1⟩ := any (x &&& y) (by simpa using hr.symm)
        exact ⟨_, τ, rfl, h1⟩
    · rename_i hf2 _
      have hfv := fC_val hf2 hf
      cases hb : iLe 0 f.1 with
      | true =>
        rw [hb] at hr
        simp only [cond_true, Option.some.injEq] at hr
        subst hr
        have := iLe_iff.mp hb
        have h2 := i32_and (x := y) (y := x) (by omega)
        rw [Int32.and_comm] at h2
        exact ⟨x &&& y, [(x &&& y).toInt], rfl, aNew_ok h (by omega)⟩
      | false =>
        rw [hb] at hr
        obtain ⟨τ, h1⟩ := any (x &&& y) (by simpa using hr.symm)
        exact ⟨_, τ, rfl, h1⟩
    · obtain ⟨τ, h1⟩ := any (x &&& y) (by simpa using hr.symm)
      exact ⟨_, τ, rfl, h1⟩
  · obtain ⟨τ, h1⟩ := any (x ||| y) (by simpa using hr.symm)
    exact ⟨_, τ, rfl, h1⟩
  · obtain ⟨τ, h1⟩ := any (x <<< (y &&& 31)) (by simpa using hr.symm)
    exact ⟨_, τ, rfl, h1⟩
  · obtain ⟨τ, h1⟩ := any (x >>> (y &&& 31)) (by simpa using hr.symm)
    exact ⟨_, τ, rfl, h1⟩
  · obtain ⟨τ, h1⟩ := any ((x.toUInt32 >>> (y.toUInt32 &&& Int32.toUInt32 31)).toInt32) (by simpa using hr.symm)
    exact ⟨_, τ, rfl, h1⟩
  · cases hr
