/-! printed by wip/rel/notes.py -/
/-! WRITTEN, as both sides find it: DRAWS, a NOTE of a MOVE, its SLIP, the board behind it -/
/-- the SEED behind a DRAW; what is drawn -/
def zDs (s : Int32) : Int32 := zI 1103515245 * s + zI 12345
def zDv (s : Int32) : Int := ((zDs s >>> (zI 16 &&& 31)) &&& zI 32767).toInt
/-- a NOTE: KIND, FILE to, RANK to (FILE from: none) -/
def zNt (B : Nat → Int) (wy sd : Int) (c : Nat) : Int × Int × Int := (B (c / 36) / 2, ((c % 36 % 6 : Nat) : Int), if wy = 1 ∧ sd = 1 then 5 - ((c % 36 / 6 : Nat) : Int) else ((c % 36 / 6 : Nat) : Int))
def z1m (x : Int) : Int := if x = 5 then x - 1 else x + 1
/-- the SLIP w of a NOTE, of kc KINDS -/
def zSlw (kc : Int) (w : Int) (x : Int × Int × Int) : Int × Int × Int := if w = 0 then ((x.1 + 1) % kc, x.2.1, x.2.2) else if w = 1 then (x.1, z1m x.2.1, x.2.2) else (x.1, x.2.1, z1m x.2.2)
/-- the board behind a MOVE -/
def zBd (B : Nat → Int) (c : Nat) : Nat → Int := fun s => if s = c / 36 then -1 else if s = c % 36 then B (c / 36) else B s
/-- the NOTES: f MOVES at most from the n-th on -/
def zWr (K : Nat → Nat × (Nat → Int × Nat)) (kc wy sl : Int) : Nat → Nat → (Nat → Int) → Int32 → List (Int × Int × Int)
  | 0, _, _, _ => []
  | f + 1, n, B, s =>
    if zCnt (zMv B K ((n : Int) % 2)) 1296 0 = 0 then [] else
    if zDv (zDs s) % 10 < sl then zSlw kc (zDv (zDs (zDs s)) % 3) (zNt B wy ((n : Int) % 2) (zNth (zMv B K ((n : Int) % 2)) 1296 0 (zDv s % zCnt (zMv B K ((n : Int) % 2)) 1296 0)).toNat) :: zWr K kc wy sl f (n + 1) (zBd B (zNth (zMv B K ((n : Int) % 2)) 1296 0 (zDv s % zCnt (zMv B K ((n : Int) % 2)) 1296 0)).toNat) (zDs (zDs (zDs s)))
    else zNt B wy ((n : Int) % 2) (zNth (zMv B K ((n : Int) % 2)) 1296 0 (zDv s % zCnt (zMv B K ((n : Int) % 2)) 1296 0)).toNat :: zWr K kc wy sl f (n + 1) (zBd B (zNth (zMv B K ((n : Int) % 2)) 1296 0 (zDv s % zCnt (zMv B K ((n : Int) % 2)) 1296 0)).toNat) (zDs (zDs s))
theorem zDv_r (s : Int32) : 0 ≤ zDv s ∧ zDv s ≤ 32767 := by
  unfold zDv
  exact i32_and (y := zI 32767) (by decide)
/-- as the class shifts, and as the reference does: the same bits -/
theorem shr_same : ∀ x : Int32, (((x.toUInt32 >>> ((zI 16).toUInt32 &&& Int32.toUInt32 31)).toInt32) &&& zI 32767) = ((x >>> (zI 16 &&& 31)) &&& zI 32767) := by
  intro x
  apply Int32.toBitVec_inj.mp
  have e1 : (zI 16).toUInt32 &&& Int32.toUInt32 31 = 16 := by decide
  have e2 : zI 16 &&& 31 = 16 := by decide
  rw [e1, e2]
  rw [Int32.toBitVec_and, Int32.toBitVec_and]
  apply BitVec.eq_of_getLsbD_eq
  intro i hi
  rw [BitVec.getLsbD_and, BitVec.getLsbD_and]
  by_cases h : i < 15
  · congr 1
    show (x.toBitVec >>> 16).getLsbD i = (x.toBitVec.sshiftRight 16).getLsbD i
    rw [BitVec.getLsbD_ushiftRight, BitVec.getLsbD_sshiftRight]
    have h2 : 16 + i < 32 := by omega
    simp [hi, h2]
  · have h3 : (zI 32767).toBitVec.getLsbD i = false := by
      have h4 : ∀ j, j < 32 → 15 ≤ j → (zI 32767).toBitVec.getLsbD j = false := by decide
      exact h4 i hi (by omega)
    rw [h3, Bool.and_false, Bool.and_false]
theorem zNth_ok {P : Nat → Bool} : ∀ (f c : Nat) (i : Int), 0 ≤ i → i < zCnt P f c → P (zNth P f c i).toNat = true := by
  intro f
  induction f with
  | zero =>
    intro c i h0 h1
    have : i < 0 := h1
    omega
  | succ f ih =>
    intro c i h0 h1
    have h1' : i < (if P c = true then 1 else 0) + zCnt P f (c + 1) := h1
    show P (if P c = true then (if i = 0 then (c : Int) else zNth P f (c + 1) (i - 1)) else zNth P f (c + 1) i).toNat = true
    by_cases hp : P c = true
    · rw [if_pos hp] at h1'
      rw [if_pos hp]
      by_cases hi : i = 0
      · rw [if_pos hi, Int.toNat_natCast]; exact hp
      · rw [if_neg hi]
        exact ih (c + 1) (i - 1) (by omega) (by omega)
    · rw [if_neg hp] at h1'
      rw [if_neg hp]
      exact ih (c + 1) i h0 (by omega)
theorem zBd_r {B : Nat → Int} {c : Nat} (h : rwB B) : rwB (zBd B c) := fun s => by
  unfold zBd
  by_cases h1 : s = c / 36
  · rw [if_pos h1]; exact ⟨by omega, by omega⟩
  · rw [if_neg h1]
    by_cases h2 : s = c % 36
    · rw [if_pos h2]; exact h _
    · rw [if_neg h2]; exact h _
theorem zWr_len {K : Nat → Nat × (Nat → Int × Nat)} {kc wy sl : Int} : ∀ (f n : Nat) (B : Nat → Int) (s : Int32), (zWr K kc wy sl f n B s).length ≤ f := by
  intro f
  induction f with
  | zero => intro n B s; exact Nat.le_refl 0
  | succ f ih =>
    intro n B s
    unfold zWr
    split
    · exact Nat.zero_le _
    · split
      · exact Nat.succ_le_succ (ih _ _ _)
      · exact Nat.succ_le_succ (ih _ _ _)
theorem zDs_i {x : Int} : zI (1103515245 * x + 12345) = zDs (zI x) := by
  unfold zDs zI
  rw [Int32.ofInt_add, Int32.ofInt_mul]
