/-! where men may go, as both sides find it: B is THE BOARD (-1: nothing; 2 KIND + SIDE) -/
def zOff (s : Nat) (df dr : Int) : Int := if 0 ≤ ((s % 6 : Nat) : Int) + df ∧ ((s % 6 : Nat) : Int) + df ≤ 5 ∧ 0 ≤ ((s / 6 : Nat) : Int) + dr ∧ ((s / 6 : Nat) : Int) + dr ≤ 5 then 6 * (((s / 6 : Nat) : Int) + dr) + (((s % 6 : Nat) : Int) + df) else -1
/-- whether one may go to the SQUARE o: 0 onto nothing or the other SIDE, 1 onto nothing, 2 just to TAKE -/
def zHit (B : Nat → Int) (md : Nat) (sd : Int) (o : Nat) : Bool := if B o = -1 then decide (md ≠ 2) else decide (md ≠ 1) && decide (B o % 2 ≠ sd)
def zRay (B : Nat → Int) (md : Nat) (sd df dr : Int) : Nat → Nat → Nat → Bool
  | 0, _, _ => false
  | k + 1, s, t => if zOff s df dr < 0 then false else (decide ((zOff s df dr).toNat = t) && zHit B md sd (zOff s df dr).toNat) || (decide (B (zOff s df dr).toNat = -1) && zRay B md sd df dr k (zOff s df dr).toNat t)
def zDirs (sort : Int) (sd : Int) : List (Int × Int) :=
  if sort = 0 then [(0, 1), (0, -1), (1, 0), (-1, 0)] else if sort = 1 then [(1, 1), (-1, 1), (1, -1), (-1, -1)] else if sort = 2 then [(0, 1 - 2 * sd)] else if sort = 3 then [(2, 1), (-2, 1), (2, -1), (-2, -1), (1, 2), (-1, 2), (1, -2), (-1, -2)] else [(1, 1 - 2 * sd), (-1, 1 - 2 * sd)]
def zMode (sort : Int) : Nat := if sort = 2 then 1 else if sort = 4 then 2 else 0
/-- a LINE of a KIND: sort 0 .. 4, so far -/
def zLn (B : Nat → Int) (sd sort : Int) (far s t : Nat) : Bool := (zDirs sort sd).any (fun d => zRay B (zMode sort) sd d.1 d.2 far s t)
/-- the first n LINES: L n = (sort, far) -/
def zLns (B : Nat → Int) (sd : Int) (L : Nat → Int × Nat) : Nat → Nat → Nat → Bool
  | 0, _, _ => false
  | n + 1, s, t => zLns B sd L n s t || zLn B sd (L n).1 (L n).2 s t
/-- from s to t: K k = (how many LINES, the LINES) -/
def zGo (B : Nat → Int) (K : Nat → Nat × (Nat → Int × Nat)) (sd : Int) (s t : Nat) : Bool := decide (0 ≤ B s) && (decide (B s % 2 = sd) && zLns B sd (K (B s / 2).toNat).2 (K (B s / 2).toNat).1 s t)
def zMv (B : Nat → Int) (K : Nat → Nat × (Nat → Int × Nat)) (sd : Int) (c : Nat) : Bool := zGo B K sd (c / 36) (c % 36)
/-! how many there are; the i-th -/
def zCnt (P : Nat → Bool) : Nat → Nat → Int
  | 0, _ => 0
  | f + 1, c => (if P c = true then 1 else 0) + zCnt P f (c + 1)
def zNth (P : Nat → Bool) : Nat → Nat → Int → Int
  | 0, _, _ => -1
  | f + 1, c, i => if P c = true then (if i = 0 then (c : Int) else zNth P f (c + 1) (i - 1)) else zNth P f (c + 1) i
theorem zCnt_nn {P : Nat → Bool} : ∀ (f c : Nat), 0 ≤ zCnt P f c ∧ zCnt P f c ≤ (f : Int) := by
  intro f
  induction f with
  | zero => intro c; exact ⟨Int.le_refl 0, Int.le_refl 0⟩
  | succ f ih =>
    intro c
    have := ih (c + 1)
    unfold zCnt
    split <;> omega
theorem zCnt_add {P : Nat → Bool} : ∀ (a b c : Nat), zCnt P (a + b) c = zCnt P a c + zCnt P b (c + a) := by
  intro a
  induction a with
  | zero =>
    intro b c
    rw [Nat.zero_add, Nat.add_zero]
    show _ = 0 + _
    omega
  | succ a ih =>
    intro b c
    rw [show a + 1 + b = (a + b) + 1 by omega]
    show (if P c = true then 1 else 0) + zCnt P (a + b) (c + 1) = (if P c = true then 1 else 0) + zCnt P a (c + 1) + zCnt P b (c + (a + 1))
    rw [ih, show c + 1 + a = c + (a + 1) by omega]
    omega
theorem zNth_add {P : Nat → Bool} : ∀ (a b c : Nat) (i : Int), 0 ≤ i → zNth P (a + b) c i = if i < zCnt P a c then zNth P a c i else zNth P b (c + a) (i - zCnt P a c) := by
  intro a
  induction a with
  | zero =>
    intro b c i hi
    rw [Nat.zero_add, Nat.add_zero, if_neg (by show ¬ i < 0; omega)]
    show _ = zNth P b c (i - 0)
    rw [Int.sub_zero]
  | succ a ih =>
    intro b c i hi
    have hn := zCnt_nn (P := P) a (c + 1)
    rw [show a + 1 + b = (a + b) + 1 by omega]
    show (if P c = true then (if i = 0 then (c : Int) else zNth P (a + b) (c + 1) (i - 1)) else zNth P (a + b) (c + 1) i) = if i < (if P c = true then 1 else 0) + zCnt P a (c + 1) then (if P c = true then (if i = 0 then (c : Int) else zNth P a (c + 1) (i - 1)) else zNth P a (c + 1) i) else zNth P b (c + (a + 1)) (i - ((if P c = true then 1 else 0) + zCnt P a (c + 1)))
    by_cases hp : P c = true
    · simp only [if_pos hp]
      by_cases h0 : i = 0
      · rw [if_pos h0, if_pos h0, if_pos (by omega)]
      · rw [if_neg h0, if_neg h0, ih b (c + 1) (i - 1) (by omega)]
        by_cases h1 : i - 1 < zCnt P a (c + 1)
        · rw [if_pos h1, if_pos (by omega)]
        · rw [if_neg h1, if_neg (by omega), show c + 1 + a = c + (a + 1) by omega, show i - 1 - zCnt P a (c + 1) = i - (1 + zCnt P a (c + 1)) by omega]
    · simp only [if_neg hp]
      rw [ih b (c + 1) i hi, Int.zero_add, show c + 1 + a = c + (a + 1) by omega]
/-- a block of codes is the SQUARES from one -/
theorem zCnt_sh {P R : Nat → Bool} : ∀ (f c e : Nat), (∀ k, k < f → P (c + k) = R (e + k)) → zCnt P f c = zCnt R f e := by
  intro f
  induction f with
  | zero => intro c e _; rfl
  | succ f ih =>
    intro c e h
    show (if P c = true then 1 else 0) + zCnt P f (c + 1) = (if R e = true then 1 else 0) + zCnt R f (e + 1)
    rw [show P c = R e from h 0 (by omega), ih (c + 1) (e + 1) (fun k hk => by have := h (k + 1) (by omega); rw [show c + 1 + k = c + (k + 1) by omega, show e + 1 + k = e + (k + 1) by omega]; exact this)]
theorem zNth_sh {P R : Nat → Bool} : ∀ (f c e : Nat) (i : Int), (∀ k, k < f → P (c + k) = R (e + k)) → 0 ≤ i → i < zCnt R f e → zNth P f c i = (c : Int) + (zNth R f e i - (e : Int)) := by
  intro f
  induction f with
  | zero =>
    intro c e i _ h0 h1
    have : i < 0 := h1
    omega
  | succ f ih =>
    intro c e i h h0 h1
    have hc : P c = R e := h 0 (by omega)
    have hr : ∀ k, k < f → P (c + 1 + k) = R (e + 1 + k) := fun k hk => by have := h (k + 1) (by omega); rw [show c + 1 + k = c + (k + 1) by omega, show e + 1 + k = e + (k + 1) by omega]; exact this
    have h1' : i < (if R e = true then 1 else 0) + zCnt R f (e + 1) := h1
    show (if P c = true then (if i = 0 then (c : Int) else zNth P f (c + 1) (i - 1)) else zNth P f (c + 1) i) = (c : Int) + ((if R e = true then (if i = 0 then (e : Int) else zNth R f (e + 1) (i - 1)) else zNth R f (e + 1) i) - (e : Int))
    rw [hc]
    by_cases hp : R e = true
    · rw [if_pos hp] at h1'
      rw [if_pos hp, if_pos hp]
      by_cases hi : i = 0
      · rw [if_pos hi, if_pos hi]; omega
      · rw [if_neg hi, if_neg hi, ih (c + 1) (e + 1) (i - 1) hr (by omega) (by omega)]
        omega
    · rw [if_neg hp] at h1'
      rw [if_neg hp, if_neg hp, ih (c + 1) (e + 1) i hr h0 (by omega)]
      omega
/-- none is there where none is counted -/
theorem zNth_no {P : Nat → Bool} : ∀ (f c : Nat) (i : Int), 0 ≤ i → zCnt P f c ≤ i → zNth P f c i = -1 := by
  intro f
  induction f with
  | zero => intro c i _ _; rfl
  | succ f ih =>
    intro c i h0 h1
    have h1' : (if P c = true then 1 else 0) + zCnt P f (c + 1) ≤ i := h1
    have hn := zCnt_nn (P := P) f (c + 1)
    show (if P c = true then (if i = 0 then (c : Int) else zNth P f (c + 1) (i - 1)) else zNth P f (c + 1) i) = -1
    by_cases hp : P c = true
    · rw [if_pos hp] at h1'
      rw [if_pos hp, if_neg (by omega), ih (c + 1) (i - 1) (by omega) (by omega)]
    · rw [if_neg hp] at h1'
      rw [if_neg hp, ih (c + 1) i h0 (by omega)]
