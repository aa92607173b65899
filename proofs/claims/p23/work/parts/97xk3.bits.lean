/-! how many bits: Long.bitCount, by its fields -/
def pE (w : Nat) : Nat → Nat → Nat
  | 0, _ => 0
  | n + 1, y => y % 2 ^ w + 2 ^ (2 * w) * pE w n (y / 2 ^ (2 * w))
def pMk (w : Nat) : Nat → Nat
  | 0 => 0
  | n + 1 => (2 ^ w - 1) + 2 ^ (2 * w) * pMk w n
def pF (w : Nat) : Nat → Nat → Nat
  | 0, _ => 0
  | n + 1, y => (y % 2 ^ w + y / 2 ^ w % 2 ^ w) + 2 ^ (2 * w) * pF w n (y / 2 ^ (2 * w))
def pSum (w : Nat) : Nat → Nat → Nat
  | 0, _ => 0
  | n + 1, y => y % 2 ^ w + pSum w n (y / 2 ^ w)
def pAll (w c : Nat) : Nat → Nat → Prop
  | 0, _ => True
  | n + 1, y => y % 2 ^ w ≤ c ∧ pAll w c n (y / 2 ^ w)
theorem pE_and {w : Nat} (hw : 0 < w) : ∀ (n y : Nat), y &&& pMk w n = pE w n y := by
  intro n
  induction n with
  | zero => intro y; exact Nat.and_zero y
  | succ n ih =>
    intro y
    have h1 : 1 ≤ 2 ^ w := Nat.one_le_two_pow
    have h2 : 2 ^ w ≤ 2 ^ (2 * w) := Nat.pow_le_pow_right (by omega) (by omega)
    have e1 : (2 ^ w - 1 + 2 ^ (2 * w) * pMk w n) / 2 ^ (2 * w) = pMk w n := by
      rw [Nat.add_mul_div_left _ _ (by omega), Nat.div_eq_of_lt (by omega), Nat.zero_add]
    have e2 : (2 ^ w - 1 + 2 ^ (2 * w) * pMk w n) % 2 ^ (2 * w) = 2 ^ w - 1 := by
      rw [Nat.add_mul_mod_self_left, Nat.mod_eq_of_lt (by omega)]
    have e3 : y % 2 ^ (2 * w) % 2 ^ w = y % 2 ^ w := Nat.mod_mod_of_dvd y (Nat.pow_dvd_pow 2 (by omega))
    show y &&& (2 ^ w - 1 + 2 ^ (2 * w) * pMk w n) = y % 2 ^ w + 2 ^ (2 * w) * pE w n (y / 2 ^ (2 * w))
    refine (Nat.div_add_mod _ (2 ^ (2 * w))).symm.trans ?_
    rw [Nat.and_div_two_pow, Nat.and_mod_two_pow, e1, e2, ih, Nat.and_two_pow_sub_one_eq_mod, e3, Nat.add_comm]
theorem pE_F {w : Nat} : ∀ (n y : Nat), pE w n y + pE w n (y / 2 ^ w) = pF w n y := by
  intro n
  induction n with
  | zero => intro y; rfl
  | succ n ih =>
    intro y
    have e : y / 2 ^ w / 2 ^ (2 * w) = y / 2 ^ (2 * w) / 2 ^ w := by rw [Nat.div_div_eq_div_mul, Nat.div_div_eq_div_mul, Nat.mul_comm]
    show (y % 2 ^ w + 2 ^ (2 * w) * pE w n (y / 2 ^ (2 * w))) + (y / 2 ^ w % 2 ^ w + 2 ^ (2 * w) * pE w n (y / 2 ^ w / 2 ^ (2 * w))) = (y % 2 ^ w + y / 2 ^ w % 2 ^ w) + 2 ^ (2 * w) * pF w n (y / 2 ^ (2 * w))
    rw [e, ← ih, Nat.mul_add]
    omega
theorem pF_step {w : Nat} (hw : 0 < w) (n y : Nat) : pF w (n + 1) y % 2 ^ (2 * w) = y % 2 ^ w + y / 2 ^ w % 2 ^ w ∧ pF w (n + 1) y / 2 ^ (2 * w) = pF w n (y / 2 ^ (2 * w)) := by
  have h1 : 1 ≤ 2 ^ w := Nat.one_le_two_pow
  have h3 : 2 ^ (w + 1) ≤ 2 ^ (2 * w) := Nat.pow_le_pow_right (by omega) (by omega)
  have h4 : 2 ^ (w + 1) = 2 ^ w * 2 := Nat.pow_succ 2 w
  have a1 : y % 2 ^ w < 2 ^ w := Nat.mod_lt _ (by omega)
  have a2 : y / 2 ^ w % 2 ^ w < 2 ^ w := Nat.mod_lt _ (by omega)
  have hlt : y % 2 ^ w + y / 2 ^ w % 2 ^ w < 2 ^ (2 * w) := by omega
  show ((y % 2 ^ w + y / 2 ^ w % 2 ^ w) + 2 ^ (2 * w) * pF w n (y / 2 ^ (2 * w))) % 2 ^ (2 * w) = _ ∧ ((y % 2 ^ w + y / 2 ^ w % 2 ^ w) + 2 ^ (2 * w) * pF w n (y / 2 ^ (2 * w))) / 2 ^ (2 * w) = _
  rw [Nat.add_mul_mod_self_left, Nat.mod_eq_of_lt hlt, Nat.add_mul_div_left _ _ (by omega), Nat.div_eq_of_lt hlt, Nat.zero_add]
  exact ⟨rfl, rfl⟩
theorem two_w {w y : Nat} : y / 2 ^ w / 2 ^ w = y / 2 ^ (2 * w) := by rw [Nat.div_div_eq_div_mul, ← Nat.pow_add, show w + w = 2 * w by omega]
theorem pF_sum {w : Nat} (hw : 0 < w) : ∀ (n y : Nat), pSum (2 * w) n (pF w n y) = pSum w (2 * n) y := by
  intro n
  induction n with
  | zero => intro y; rfl
  | succ n ih =>
    intro y
    obtain ⟨s1, s2⟩ := pF_step hw n y
    show pF w (n + 1) y % 2 ^ (2 * w) + pSum (2 * w) n (pF w (n + 1) y / 2 ^ (2 * w)) = pSum w (2 * n + 1 + 1) y
    rw [s1, s2, ih]
    show _ = y % 2 ^ w + (y / 2 ^ w % 2 ^ w + pSum w (2 * n) (y / 2 ^ w / 2 ^ w))
    rw [two_w]
    omega
theorem pF_all {w c : Nat} (hw : 0 < w) : ∀ (n y : Nat), pAll w c (2 * n) y → pAll (2 * w) (2 * c) n (pF w n y) := by
  intro n
  induction n with
  | zero => intro y _; trivial
  | succ n ih =>
    intro y h
    obtain ⟨s1, s2⟩ := pF_step hw n y
    have h' : pAll w c (2 * n + 1 + 1) y := h
    obtain ⟨b1, b2, b3⟩ := h'
    rw [two_w] at b3
    refine ⟨?_, ?_⟩
    · rw [s1]; omega
    · rw [s2]; exact ih _ b3
theorem pAll_1 : ∀ (n y : Nat), pAll 1 1 n y := by
  intro n
  induction n with
  | zero => intro y; trivial
  | succ n ih => intro y; exact ⟨by have : y % 2 ^ 1 < 2 ^ 1 := Nat.mod_lt _ (by decide); omega, ih _⟩
/-- the third step adds without a carry -/
theorem pE_carry : ∀ (n z : Nat), pAll 4 7 (2 * n) z → (z / 16 ^ (2 * n)) % 16 ≤ 7 → pE 4 n (z + z / 16) = pF 4 n z := by
  intro n
  induction n with
  | zero => intro z _ _; rfl
  | succ n ih =>
    intro z h h2
    have h' : pAll 4 7 (2 * n + 1 + 1) z := h
    obtain ⟨b1, b2, b3⟩ := h'
    have p16 : (2 : Nat) ^ 4 = 16 := rfl
    have p256 : (2 : Nat) ^ (2 * 4) = 256 := rfl
    rw [p16] at b1 b2
    have e16 : z / 2 ^ 4 / 2 ^ 4 = z / 256 := by rw [p16, Nat.div_div_eq_div_mul]
    rw [e16] at b3
    have h3 : (z / 256) / 16 ^ (2 * n) = z / 16 ^ (2 * (n + 1)) := by
      rw [Nat.div_div_eq_div_mul, show 2 * (n + 1) = 2 + 2 * n by omega, Nat.pow_add]
    have b4 : z / 256 % 16 ≤ 7 := by
      cases n with
      | zero =>
        rw [← h3] at h2
        have : (16 : Nat) ^ (2 * 0) = 1 := rfl
        rw [this, Nat.div_one] at h2
        exact h2
      | succ n =>
        have b5 : pAll 4 7 (2 * n + 1 + 1) (z / 256) := b3
        exact b5.1
    show (z + z / 16) % 2 ^ 4 + 2 ^ (2 * 4) * pE 4 n ((z + z / 16) / 2 ^ (2 * 4)) = (z % 2 ^ 4 + z / 2 ^ 4 % 2 ^ 4) + 2 ^ (2 * 4) * pF 4 n (z / 2 ^ (2 * 4))
    rw [p16, p256]
    have e1 : (z + z / 16) % 16 = z % 16 + z / 16 % 16 := by omega
    have e2 : (z + z / 16) / 256 = z / 256 + z / 256 / 16 := by
      have k1 : z / 256 = z / 16 / 16 := by rw [Nat.div_div_eq_div_mul]
      rw [k1] at b4 ⊢
      omega
    rw [e1, e2, ih (z / 256) b3 (by rw [h3]; exact h2)]
/-- the last steps -/
theorem p_lastx {x0 x1 x2 x3 x4 x5 x6 x7 d d1 d2 d3 d4 d5 d6 d7 : Nat} (m0 : d = x0 + 256 * d1) (m1 : d1 = x1 + 256 * d2) (m2 : d2 = x2 + 256 * d3) (m3 : d3 = x3 + 256 * d4) (m4 : d4 = x4 + 256 * d5) (m5 : d5 = x5 + 256 * d6) (m6 : d6 = x6 + 256 * d7) (m7 : d7 = x7) (g0 : x0 ≤ 8) (g1 : x1 ≤ 8) (g2 : x2 ≤ 8) (g3 : x3 ≤ 8) (g4 : x4 ≤ 8) (g5 : x5 ≤ 8) (g6 : x6 ≤ 8) (g7 : x7 ≤ 8) : (d + d1 + (d + d1) / 65536 + (d + d1 + (d + d1) / 65536) / 4294967296) % 128 = x0 + (x1 + (x2 + (x3 + (x4 + (x5 + (x6 + (x7 + 0))))))) := by
  have u1 : (d + d1) / 65536 = d2 + d3 := by
    have e : d + d1 = (x0 + x1 + 256 * (x1 + x2)) + 65536 * (d2 + d3) := by omega
    rw [e, Nat.add_mul_div_left _ _ (by decide), Nat.div_eq_of_lt (by omega), Nat.zero_add]
  rw [u1]
  have u2 : (d + d1 + (d2 + d3)) / 4294967296 = d4 + d5 + d6 + d7 := by
    have e : d + d1 + (d2 + d3) = (x0 + x1 + x2 + x3 + 256 * (x1 + x2 + x3 + x4) + 65536 * (x2 + x3 + x4 + x5) + 16777216 * (x3 + x4 + x5 + x6)) + 4294967296 * (d4 + d5 + d6 + d7) := by omega
    rw [e, Nat.add_mul_div_left _ _ (by decide), Nat.div_eq_of_lt (by omega), Nat.zero_add]
  rw [u2]
  have e : d + d1 + (d2 + d3) + (d4 + d5 + d6 + d7) = (x0 + (x1 + (x2 + (x3 + (x4 + (x5 + (x6 + (x7 + 0)))))))) + 128 * (2 * (d1 + d2 + d3 + d4 + d5 + d6 + d7)) := by omega
  rw [e, Nat.add_mul_mod_self_left, Nat.mod_eq_of_lt (by omega)]
theorem p_last {d : Nat} (h : pAll 8 8 8 d) (hd : d < 2 ^ 64) : (d + d / 256 + (d + d / 256) / 65536 + (d + d / 256 + (d + d / 256) / 65536) / 4294967296) % 128 = pSum 8 8 d := by
  obtain ⟨h0, h1, h2, h3, h4, h5, h6, h7, -⟩ := h
  have m : ∀ n : Nat, n = n % 256 + 256 * (n / 256) := fun n => (Nat.mod_add_div n 256).symm
  have hz : d / 256 / 256 / 256 / 256 / 256 / 256 / 256 / 256 = 0 := by
    rw [Nat.div_div_eq_div_mul, Nat.div_div_eq_div_mul, Nat.div_div_eq_div_mul, Nat.div_div_eq_div_mul, Nat.div_div_eq_div_mul, Nat.div_div_eq_div_mul, Nat.div_div_eq_div_mul]
    exact Nat.div_eq_of_lt hd
  have m7 := m (d / 256 / 256 / 256 / 256 / 256 / 256 / 256)
  rw [hz, Nat.mul_zero, Nat.add_zero] at m7
  exact p_lastx (m _) (m _) (m _) (m _) (m _) (m _) (m _) m7 h0 h1 h2 h3 h4 h5 h6 h7
