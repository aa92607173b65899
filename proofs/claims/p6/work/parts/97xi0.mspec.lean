/-! MEASURE's LINES on the bytes: where each thing ends, or is wrong -/
def zNn (c : Nat → Int) (n q : Nat) : Nat := zNx c n (zBe c n q)
/-- PART -/
def zPt (c : Nat → Int) (n q : Nat) : Nat × Bool := if zCod c n q < -4 then (q, false) else (zNn c n q, true)
/-- SUM, f tokens at most -/
def zSu (c : Nat → Int) (n : Nat) : Nat → Nat → Nat × Bool
  | 0, q => (q, false)
  | f + 1, q => if zCod c n q < -4 then (q, false) else if zCod c n (zNn c n q) = -1043 then zSu c n f (zNn c n (zNn c n q)) else (zNn c n q, true)
/-- behind a PART of a SUM -/
def zSt (c : Nat → Int) (n f b : Nat) : Nat × Bool := if zCod c n b = -1043 then zSu c n f (zNn c n b) else (b, true)
/-- TAG, or SUM < SUM, SUM > SUM -/
def zA1 (c : Nat → Int) (n F q : Nat) : Nat × Bool := if zCod c n q = -5 ∨ zCod c n q = -6 then (zNn c n q, true) else if (zSu c n F q).2 = true then (if zCod c n (zSu c n F q).1 = -1060 ∨ zCod c n (zSu c n F q).1 = -1062 then zSu c n F (zNn c n (zSu c n F q).1) else ((zSu c n F q).1, false)) else ((zSu c n F q).1, false)
/-- ATOMs with 'and', 'or' between -/
def zCoL (c : Nat → Int) (n : Nat) (A : Nat → Nat × Bool) : Nat → Nat → Nat × Bool
  | 0, b => (b, true)
  | f + 1, b => if zCod c n b = -8 ∨ zCod c n b = -9 then (if (A (zNn c n b)).2 = true then zCoL c n A f (A (zNn c n b)).1 else ((A (zNn c n b)).1, false)) else (b, true)
def zCo (c : Nat → Int) (n F : Nat) (A : Nat → Nat × Bool) (q : Nat) : Nat × Bool := if (A q).2 = true then zCoL c n A F (A q).1 else ((A q).1, false)
/-- the ) behind a C -/
def zPa (c : Nat → Int) (n : Nat) (X : Nat × Bool) : Nat × Bool := if X.2 = true then (if zCod c n X.1 = -1041 then (zNn c n X.1, true) else (X.1, false)) else (X.1, false)
/-- ATOM, so many levels left -/
def zAt (c : Nat → Int) (n F : Nat) : Nat → (Nat → Nat × Bool)
  | 0 => fun q => if zCod c n q = -7 ∨ zCod c n q = -1040 then (q, false) else zA1 c n F q
  | D + 1 => fun q => if zCod c n q = -7 then zAt c n F D (zNn c n q) else if zCod c n q = -1040 then zPa c n (zCo c n F (zAt c n F D) (zNn c n q)) else zA1 c n F q
/-- * FACT -/
def zMf (c : Nat → Int) (n q : Nat) : Nat × Bool := if zCod c n q = -1042 then (if -4 ≤ zCod c n (zNn c n q) ∧ zCod c n (zNn c n q) ≤ -1 then (zNn c n (zNn c n q), true) else (zNn c n q, false)) else (q, true)
/-- if C -/
def zMi (c : Nat → Int) (n F q : Nat) : Nat × Bool := if zCod c n q = -11 then zCo c n F (zAt c n F 6) (zNn c n q) else (q, true)
/-- LINE -/
def zMl (c : Nat → Int) (n F q : Nat) : Nat × Bool := if zCod c n q = -10 then (if 0 ≤ zCod c n (zNn c n q) then (if (zMf c n (zNn c n (zNn c n q))).2 = true then zMi c n F (zMf c n (zNn c n (zNn c n q))).1 else ((zMf c n (zNn c n (zNn c n q))).1, false)) else (zNn c n q, false)) else (q, false)
/-- LINES -/
def zMtF (c : Nat → Int) (n F : Nat) : Nat → Nat → Nat × Option Nat
  | 0, q => (q, none)
  | j + 1, q => if (zMl c n F q).2 = true then (if n ≤ (zMl c n F q).1 then ((zMl c n F q).1, some j) else if zCod c n (zMl c n F q).1 = -1059 then zMtF c n F j (zNn c n (zMl c n F q).1) else ((zMl c n F q).1, none)) else ((zMl c n F q).1, none)
/-- where MEASURE's text is wrong; or how many LINES were left -/
def zMt (c : Nat → Int) (n F : Nat) : Nat × Option Nat := if n ≤ zNx c n 0 then (zNx c n 0, some 10) else zMtF c n F 10 (zNx c n 0)
section
variable {c : Nat → Int} {n F f q b D : Nat} {A : Nat → Nat × Bool}
theorem zSu_s : zSu c n (f + 1) q = if zCod c n q < -4 then (q, false) else if zCod c n (zNn c n q) = -1043 then zSu c n f (zNn c n (zNn c n q)) else (zNn c n q, true) := rfl
theorem zSu_no (h : zCod c n q < -4) : zSu c n f q = (q, false) := by
  cases f with
  | zero => rfl
  | succ f => rw [zSu_s, if_pos h]
theorem zSu_st (h : ¬ zCod c n q < -4) : zSu c n (f + 1) q = zSt c n f (zNn c n q) := by
  rw [zSu_s, if_neg h]
  rfl
theorem zSt_y (h : zCod c n b = -1043) : zSt c n f b = zSu c n f (zNn c n b) := by unfold zSt; rw [if_pos h]
theorem zSt_n (h : ¬ zCod c n b = -1043) : zSt c n f b = (b, true) := by unfold zSt; rw [if_neg h]
theorem zPt_n (h : zCod c n q < -4) : zPt c n q = (q, false) := by unfold zPt; rw [if_pos h]
theorem zPt_y (h : ¬ zCod c n q < -4) : zPt c n q = (zNn c n q, true) := by unfold zPt; rw [if_neg h]
theorem zCoL_s : zCoL c n A (f + 1) b = if zCod c n b = -8 ∨ zCod c n b = -9 then (if (A (zNn c n b)).2 = true then zCoL c n A f (A (zNn c n b)).1 else ((A (zNn c n b)).1, false)) else (b, true) := rfl
theorem zCoL_end (h : ¬ (zCod c n b = -8 ∨ zCod c n b = -9)) : zCoL c n A f b = (b, true) := by
  cases f with
  | zero => rfl
  | succ f => rw [zCoL_s, if_neg h]
theorem zCoL_co (h : zCod c n b = -8 ∨ zCod c n b = -9) : zCoL c n A (f + 1) b = zCo c n f A (zNn c n b) := by rw [zCoL_s, if_pos h]; rfl
theorem zCo_y (h : (A q).2 = true) : zCo c n f A q = zCoL c n A f (A q).1 := by unfold zCo; rw [if_pos h]
theorem zCo_n (h : (A q).2 = false) : zCo c n f A q = ((A q).1, false) := by unfold zCo; rw [if_neg (by rw [h]; decide)]
theorem zAt_0 : zAt c n F 0 q = if zCod c n q = -7 ∨ zCod c n q = -1040 then (q, false) else zA1 c n F q := rfl
theorem zAt_s : zAt c n F (D + 1) q = if zCod c n q = -7 then zAt c n F D (zNn c n q) else if zCod c n q = -1040 then zPa c n (zCo c n F (zAt c n F D) (zNn c n q)) else zA1 c n F q := rfl
theorem zAt_a1 (h : ¬ zCod c n q = -7) (h2 : ¬ zCod c n q = -1040) : zAt c n F D q = zA1 c n F q := by
  cases D with
  | zero => rw [zAt_0, if_neg (by omega)]
  | succ D => rw [zAt_s, if_neg h, if_neg h2]
theorem zAt_d0 (h : zCod c n q = -7 ∨ zCod c n q = -1040) : zAt c n F 0 q = (q, false) := by rw [zAt_0, if_pos h]
theorem zAt_not (h : zCod c n q = -7) : zAt c n F (D + 1) q = zAt c n F D (zNn c n q) := by rw [zAt_s, if_pos h]
theorem zAt_par (h : zCod c n q = -1040) : zAt c n F (D + 1) q = zPa c n (zCo c n F (zAt c n F D) (zNn c n q)) := by rw [zAt_s, if_neg (by omega), if_pos h]
theorem zA1_t (h : zCod c n q = -5 ∨ zCod c n q = -6) : zA1 c n F q = (zNn c n q, true) := by unfold zA1; rw [if_pos h]
theorem zA1_n (h : ¬ (zCod c n q = -5 ∨ zCod c n q = -6)) (h2 : (zSu c n F q).2 = false) : zA1 c n F q = ((zSu c n F q).1, false) := by unfold zA1; rw [if_neg h, if_neg (by rw [h2]; decide)]
theorem zA1_c (h : ¬ (zCod c n q = -5 ∨ zCod c n q = -6)) (h2 : (zSu c n F q).2 = true) (h3 : zCod c n (zSu c n F q).1 = -1060 ∨ zCod c n (zSu c n F q).1 = -1062) : zA1 c n F q = zSu c n F (zNn c n (zSu c n F q).1) := by unfold zA1; rw [if_neg h, if_pos h2, if_pos h3]
theorem zA1_w (h : ¬ (zCod c n q = -5 ∨ zCod c n q = -6)) (h2 : (zSu c n F q).2 = true) (h3 : ¬ (zCod c n (zSu c n F q).1 = -1060 ∨ zCod c n (zSu c n F q).1 = -1062)) : zA1 c n F q = ((zSu c n F q).1, false) := by unfold zA1; rw [if_neg h, if_pos h2, if_neg h3]
theorem zPa_n {X : Nat × Bool} (h : X.2 = false) : zPa c n X = (X.1, false) := by unfold zPa; rw [if_neg (by rw [h]; decide)]
theorem zPa_y {X : Nat × Bool} (h : X.2 = true) (h2 : zCod c n X.1 = -1041) : zPa c n X = (zNn c n X.1, true) := by unfold zPa; rw [if_pos h, if_pos h2]
theorem zPa_w {X : Nat × Bool} (h : X.2 = true) (h2 : ¬ zCod c n X.1 = -1041) : zPa c n X = (X.1, false) := by unfold zPa; rw [if_pos h, if_neg h2]
theorem zMf_n (h : ¬ zCod c n q = -1042) : zMf c n q = (q, true) := by unfold zMf; rw [if_neg h]
theorem zMf_y (h : zCod c n q = -1042) (h2 : -4 ≤ zCod c n (zNn c n q) ∧ zCod c n (zNn c n q) ≤ -1) : zMf c n q = (zNn c n (zNn c n q), true) := by unfold zMf; rw [if_pos h, if_pos h2]
theorem zMf_w (h : zCod c n q = -1042) (h2 : ¬ (-4 ≤ zCod c n (zNn c n q) ∧ zCod c n (zNn c n q) ≤ -1)) : zMf c n q = (zNn c n q, false) := by unfold zMf; rw [if_pos h, if_neg h2]
theorem zMi_n (h : ¬ zCod c n q = -11) : zMi c n F q = (q, true) := by unfold zMi; rw [if_neg h]
theorem zMi_y (h : zCod c n q = -11) : zMi c n F q = zCo c n F (zAt c n F 6) (zNn c n q) := by unfold zMi; rw [if_pos h]
theorem zMl_a (h : ¬ zCod c n q = -10) : zMl c n F q = (q, false) := by unfold zMl; rw [if_neg h]
theorem zMl_b (h : zCod c n q = -10) (h2 : ¬ 0 ≤ zCod c n (zNn c n q)) : zMl c n F q = (zNn c n q, false) := by unfold zMl; rw [if_pos h, if_neg h2]
theorem zMl_c (h : zCod c n q = -10) (h2 : 0 ≤ zCod c n (zNn c n q)) (h3 : (zMf c n (zNn c n (zNn c n q))).2 = false) : zMl c n F q = ((zMf c n (zNn c n (zNn c n q))).1, false) := by unfold zMl; rw [if_pos h, if_pos h2, if_neg (by rw [h3]; decide)]
theorem zMl_d (h : zCod c n q = -10) (h2 : 0 ≤ zCod c n (zNn c n q)) (h3 : (zMf c n (zNn c n (zNn c n q))).2 = true) : zMl c n F q = zMi c n F (zMf c n (zNn c n (zNn c n q))).1 := by unfold zMl; rw [if_pos h, if_pos h2, if_pos h3]
theorem zMtF_z : zMtF c n F 0 q = (q, none) := rfl
theorem zMtF_s : zMtF c n F (f + 1) q = if (zMl c n F q).2 = true then (if n ≤ (zMl c n F q).1 then ((zMl c n F q).1, some f) else if zCod c n (zMl c n F q).1 = -1059 then zMtF c n F f (zNn c n (zMl c n F q).1) else ((zMl c n F q).1, none)) else ((zMl c n F q).1, none) := rfl
theorem zMtF_no (h : (zMl c n F q).2 = false) : zMtF c n F (f + 1) q = ((zMl c n F q).1, none) := by rw [zMtF_s, if_neg (by rw [h]; decide)]
theorem zMtF_yes (h : (zMl c n F q).2 = true) : zMtF c n F (f + 1) q = if n ≤ (zMl c n F q).1 then ((zMl c n F q).1, some f) else if zCod c n (zMl c n F q).1 = -1059 then zMtF c n F f (zNn c n (zMl c n F q).1) else ((zMl c n F q).1, none) := by rw [zMtF_s, if_pos h]
theorem zMtF_le : ∀ (N q j : Nat), (zMtF c n F N q).2 = some j → j ≤ N := by
  intro N
  induction N with
  | zero =>
    intro q j h
    rw [zMtF_z] at h
    cases h
  | succ N ih =>
    intro q j h
    rw [zMtF_s] at h
    split at h
    · split at h
      · have := Option.some.inj h
        omega
      · split at h
        · exact Nat.le_succ_of_le (ih _ _ h)
        · cases h
    · cases h
theorem zMt_le {j : Nat} (h : (zMt c n F).2 = some j) : j ≤ 10 := by
  unfold zMt at h
  split at h
  · have := Option.some.inj h
    omega
  · exact zMtF_le _ _ _ h
end
