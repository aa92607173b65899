/-! the table holds of the heap behind the constructors -/
def ckS : tS → Value → Bool
  | (0, lo, hi), .int x => iLe lo x.toInt && iLe x.toInt hi
  | (1, k, _), .ref r => decide (k = (r : Int))
  | (2, _, _), .long _ => true
  | _, _ => false
def ckSs : List tS → List Value → Bool
  | [], [] => true
  | s :: r, v :: u => ckS s v && ckSs r u
  | _, _ => false
def ckCells (sp : Nat → Int × Int) (f : Nat → Int32) : Nat → Bool
  | 0 => true
  | k + 1 => (iLe (sp k).1 (f k).toInt && iLe (f k).toInt (sp k).2) && ckCells sp f k
def ckE : tE → PE → Bool
  | .inl (t, n, sp), .inl (t', n', .inl f) => (Nat.beq t' t && Nat.beq n' n) && (!(Nat.beq t 1) && ckCells sp f n)
  | .inl (t, n, _), .inl (t', n', .inr _) => (Nat.beq t' t && Nat.beq n' n) && Nat.beq t 1
  | .inr (c, ss), .inr (c', vs) => Nat.beq c' c && ckSs ss vs
  | _, _ => false
def ckH : List tE → PH → Bool
  | [], _ => true
  | _ :: _, [] => false
  | t :: T, e :: es => ckE t e && ckH T es
theorem ckCells_ok {sp : Nat → Int × Int} {f : Nat → Int32} : ∀ {n : Nat}, ckCells sp f n = true → ∀ k, k < n → (sp k).1 ≤ (f k).toInt ∧ (f k).toInt ≤ (sp k).2
  | 0, _, k, hk => absurd hk (Nat.not_lt_zero k)
  | n + 1, h, k, hk => by
    simp only [ckCells, Bool.and_eq_true] at h
    rcases Nat.lt_or_ge k n with h1 | h1
    · exact ckCells_ok h.2 k h1
    · have : k = n := by omega
      subst this
      exact ⟨iLe_iff.mp h.1.1, iLe_iff.mp h.1.2⟩
theorem ckS_ok : ∀ {s : tS} {v : Value}, ckS s v = true → fOK s v := by
  intro s v h
  obtain ⟨k, lo, hi⟩ := s
  unfold ckS at h
  split at h
  · rename_i lo hi x hs
    cases hs
    simp only [Bool.and_eq_true] at h
    exact ⟨x, rfl, iLe_iff.mp h.1, iLe_iff.mp h.2⟩
  · rename_i k z r hs
    cases hs
    exact ⟨r, rfl, (of_decide_eq_true h).symm⟩
  · rename_i x y l hs
    cases hs
    exact ⟨l, rfl⟩
  · cases h
theorem ckSs_ok : ∀ {ss : List tS} {vs : List Value}, ckSs ss vs = true → fsOK ss vs
  | [], [], _ => trivial
  | s :: r, v :: u, h => by
    simp only [ckSs, Bool.and_eq_true] at h
    exact ⟨ckS_ok h.1, ckSs_ok h.2⟩
  | [], _ :: _, h => by cases h
  | _ :: _, [], h => by cases h
theorem ckE_ok : ∀ {t : tE} {e : PE}, ckE t e = true → eOK t e := by
  intro t e h
  rcases t with ⟨t, n, sp⟩ | ⟨c, ss⟩ <;> rcases e with ⟨t', n', f | f⟩ | ⟨c', vs⟩
  · simp only [ckE, Bool.and_eq_true, Nat.beq_eq, Bool.not_eq_true'] at h
    obtain ⟨⟨h1, h2⟩, h3, h4⟩ := h
    exact ⟨h1, h2, (fun h5 => by rw [h5] at h3; cases h3), ckCells_ok h4⟩
  · simp only [ckE, Bool.and_eq_true, Nat.beq_eq] at h
    exact ⟨h.1.1, h.1.2, h.2⟩
  · cases h
  · cases h
  · cases h
  · simp only [ckE, Bool.and_eq_true, Nat.beq_eq] at h
    exact ⟨h.1, ckSs_ok h.2⟩
theorem ckH_ok : ∀ {T : List tE} {es : PH}, ckH T es = true → hOK T es
  | [], _, _ => ⟨Nat.zero_le _, fun i t e ht _ => by cases ht⟩
  | _ :: _, [], h => by cases h
  | t :: T, e :: es, h => by
    simp only [ckH, Bool.and_eq_true] at h
    obtain ⟨h1, h2⟩ := ckH_ok h.2
    refine ⟨Nat.succ_le_succ h1, fun i t' e' ht he => ?_⟩
    cases i with
    | zero => cases ht; cases he; exact ckE_ok h.1
    | succ i => exact h2 i t' e' ht he
def ckV : Option Value → Option Value → Bool
  | some (.ref a), some (.ref b) => Nat.beq a b
  | some (.int a), some (.int b) => decide (a = b)
  | none, none => true
  | _, _ => false
theorem ckV_ok : ∀ {a b : Option Value}, ckV a b = true → a = b := by
  intro a b h
  unfold ckV at h
  split at h
  · rw [Nat.beq_eq] at h; rw [h]
  · rw [of_decide_eq_true h]
  · rfl
  · cases h
def ckL : PL → PL → Bool
  | [], [] => true
  | a :: r, b :: u => ckV a b && ckL r u
  | _, _ => false
theorem ckL_ok : ∀ {a b : PL}, ckL a b = true → a = b
  | [], [], _ => rfl
  | a :: r, b :: u, h => by
    simp only [ckL, Bool.and_eq_true] at h
    rw [ckV_ok h.1, ckL_ok h.2]
  | [], _ :: _, h => by cases h
  | _ :: _, [], h => by cases h
def startL : PL := [some (.ref 7), some (.ref 64), some (.ref 143), some (.ref 171), some (.int 0), none, none, none]
def ckStart (es : PH) : Bool := decide ((gA es 80 443).toInt = 0) && (decide ((gA es 81 443).toInt = 0) && (decide ((gI es 79 3).toInt = 0) && (List.range 36).all (fun s => decide ((gA es 80 (13 + s)).toInt = -1))))
theorem ckStart_ok {es : PH} (hT : hOK tT es) (h : ckStart es = true) : gInv es := by
  simp only [ckStart, Bool.and_eq_true, decide_eq_true_eq, List.all_eq_true, List.mem_range] at h
  obtain ⟨h1, h2, h3, h4⟩ := h
  exact ⟨hT.1, fun n _ hn => by omega, fun n _ hn => by omega, fun _ s hs => h4 s hs, Or.inl h3⟩
def startF (es : PH) : Prop := (∀ x, x < 400 → gA es 2 x = 0) ∧ (∀ x, x < 400 → gA es 82 x = 0) ∧ gI es 1 1 = 0 ∧ gI es 79 5 = 0 ∧ gI es 0 9 = 0 ∧ gI es 79 3 = 0 ∧ gI es 7 0 = 0 ∧ gA es 80 0 = 0 ∧ (∀ x, x < 5 → gA es 9 x = 0) ∧ (∀ x, x < 5 → gA es 80 (50 + 14 * x) = 0) ∧ (∀ x, x < 36 → gA es 11 x = 0) ∧ (∀ x, x < 36 → gA es 80 (13 + x) = (-1)) ∧ gI es 7 5 = 0 ∧ gA es 80 1 = 0
def ckStartF (es : PH) : Bool := (List.range 400).all (fun x => decide (gA es 2 x = 0)) && ((List.range 400).all (fun x => decide (gA es 82 x = 0)) && (decide (gI es 1 1 = 0) && (decide (gI es 79 5 = 0) && (decide (gI es 0 9 = 0) && (decide (gI es 79 3 = 0) && (decide (gI es 7 0 = 0) && (decide (gA es 80 0 = 0) && ((List.range 5).all (fun x => decide (gA es 9 x = 0)) && ((List.range 5).all (fun x => decide (gA es 80 (50 + 14 * x) = 0)) && ((List.range 36).all (fun x => decide (gA es 11 x = 0)) && ((List.range 36).all (fun x => decide (gA es 80 (13 + x) = (-1))) && (decide (gI es 7 5 = 0) && (decide (gA es 80 1 = 0))))))))))))))
def ckUp : Bool := match pUp O00 301 23 60 20000 (0, pEntry [.ref 7] 8, [], []) 0 0 with
  | some ((pc, L, st, es), kc, ks) => (Nat.beq pc 23 && (ckL L startL && st.isEmpty)) && ((ckH tT es && (ckStart es && ckStartF es)) && (Nat.ble kc 1000 && Nat.ble ks 100000))
  | none => false
theorem ckUp_ok : ckUp = true := by decide +kernel
theorem start_is : ∃ es kc ks, pUp O00 301 23 60 20000 (0, pEntry [.ref 7] 8, [], []) 0 0 = some ((23, startL, [], es), kc, ks) ∧ hOK tT es ∧ gInv es ∧ startF es ∧ kc ≤ 1000 ∧ ks ≤ 100000 := by
  have h := ckUp_ok
  unfold ckUp at h
  cases hp : pUp O00 301 23 60 20000 (0, pEntry [.ref 7] 8, [], []) 0 0 with
  | none => rw [hp] at h; cases h
  | some t =>
    obtain ⟨⟨pc, L, st, es⟩, kc, ks⟩ := t
    rw [hp] at h
    simp only [Bool.and_eq_true, Nat.beq_eq, Nat.ble_eq, List.isEmpty_iff] at h
    obtain ⟨⟨h1, h2, h3⟩, ⟨h4, h5, h8⟩, h6, h7⟩ := h
    have hT := ckH_ok h4
    have hS : startF es := by
      simp only [ckStartF, Bool.and_eq_true, decide_eq_true_eq, List.all_eq_true, List.mem_range] at h8
      exact h8
    exact ⟨es, kc, ks, by rw [h1, ckL_ok h2, h3], hT, ckStart_ok hT h5, hS, h6, h7⟩
theorem O00_le (xs : Nat → Int32) (n : Nat) : pLe O00 (pO0 xs n) := by
  intro k w h
  unfold O00 at h
  by_cases hk : k = 7
  · rw [if_pos hk] at h; cases h
  · rw [if_neg hk] at h
    unfold pO0 at h ⊢
    rw [if_neg hk] at h ⊢
    exact h
/-- the law, from its start to its loop -/
theorem law_start {xs : Nat → Int32} {n : Nat} {Q : pRes → Prop} (K : ∀ es kc ks, hOK tT es → gInv es → startF es → kc ≤ 1000 → ks ≤ 100000 → aW (pO0 xs n) 61 301 kc ks Q (23, startL, [], es)) : aW (pO0 xs n) 61 301 0 0 Q (0, pEntry [.ref 7] 8, [], []) := by
  obtain ⟨es, kc, ks, h1, h2, h3, h6, h4, h5⟩ := start_is
  exact aW_up (O00_le xs n) (K es kc ks h2 h3 h6 h4 h5) _ _ _ _ h1
