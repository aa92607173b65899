/-! the table holds of the heap behind the constructors -/
def ckS : tS → Value → Bool
  | (0, lo, hi), .int x => iLe lo x.toInt && iLe x.toInt hi
  | (1, k, _), .ref r => decide (k = (r : Int))
  | (2, _, _), .long _ => true
  | _, _ => false
def ckSs : List tS → List Value → Bool
  | [], [] => true
  | s :: r, v :: u => ckS s v && ckSs r u
  | _, _ => false
def ckCells (sp : Nat → Int × Int) (f : Nat → Int32) : Nat → Bool
  | 0 => true
  | k + 1 => (iLe (sp k).1 (f k).toInt && iLe (f k).toInt (sp k).2) && ckCells sp f k
def ckE : tE → PE → Bool
  | .inl (t, n, sp), .inl (t', n', .inl f) => (Nat.beq t' t && Nat.beq n' n) && (!(Nat.beq t 1) && ckCells sp f n)
  | .inl (t, n, _), .inl (t', n', .inr _) => (Nat.beq t' t && Nat.beq n' n) && Nat.beq t 1
  | .inr (c, ss), .inr (c', vs) => Nat.beq c' c && ckSs ss vs
  | _, _ => false
def ckH : List tE → PH → Bool
  | [], _ => true
  | _ :: _, [] => false
  | t :: T, e :: es => ckE t e && ckH T es
theorem ckCells_ok {sp : Nat → Int × Int} {f : Nat → Int32} : ∀ {n : Nat}, ckCells sp f n = true → ∀ k, k < n → (sp k).1 ≤ (f k).toInt ∧ (f k).toInt ≤ (sp k).2
  | 0, _, k, hk => absurd hk (Nat.not_lt_zero k)
  | n + 1, h, k, hk => by
    simp only [ckCells, Bool.and_eq_true] at h
    rcases Nat.lt_or_ge k n with h1 | h1
    · exact ckCells_ok h.2 k h1
    · have : k = n := by omega
      subst this
      exact ⟨iLe_iff.mp h.1.1, iLe_iff.mp h.1.2⟩
theorem up_try2 : (match pUp O00 301 23 40 20000 (0, pEntry [.ref 7] 8, [], []) 0 0 with
  | some (σ, kc, ks) => ckH tT σ.2.2.2
  | none => false) = true := by decide +kernel
