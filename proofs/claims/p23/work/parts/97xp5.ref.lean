/-! the reference's search at PRICE 0, pure: a path is paid for by nothing while its MOVES keep the NOTES -/
def fit0 (W wo : Nat → Int32) (bd : Nat → Int) (c b n : Nat) : Prop := tkd W b n (bd (c / 36)) ≠ 0 ∧ tfr W b n c ≠ 0 ∧ ntW W b n 2 = (c : Int) % 36 % 6 ∧ ntW W b n 3 = trk wo b (bd (c / 36)) c
theorem fitC0_0 {kd fr fi ra f2 r2 : Int} : fitC0 ((0 : Nat) : Int) kd fr fi ra f2 r2 ↔ (kd ≠ 0 ∧ fr ≠ 0 ∧ fi = f2 ∧ ra = r2) := by
  unfold fitC0
  constructor
  · intro h; omega
  · intro h; exact Or.inl ⟨by omega, h⟩
theorem trF_st {po : Nat → Int32} {kd fr fi ra f2 r2 be : Int} {m s : Nat} : trF po kd fr fi ra f2 r2 (m + 1) s be = if (0 < s ∧ (po s).toInt = 0) ∨ fitI (s : Int) kd fr fi ra f2 r2 = 0 then trF po kd fr fi ra f2 r2 m (s + 1) be else trF po kd fr fi ra f2 r2 m (s + 1) (min be (if s = 0 then 0 else (po s).toInt)) := by rw [trF]
theorem trF_free {po : Nat → Int32} {kd fr fi ra f2 r2 : Int} (hp : ∀ i, i < 8 → (po i).toInt = 0) : ∀ (m s : Nat) (be : Int), 0 < s → s + m ≤ 8 → trF po kd fr fi ra f2 r2 m s be = be := by
  intro m
  induction m with
  | zero => intro s be h1 h2; rw [trF]
  | succ m ih =>
    intro s be h1 h2
    rw [trF_st, if_pos (Or.inl ⟨h1, hp s (by omega)⟩)]
    exact ih (s + 1) be (by omega) (by omega)
theorem fitF_yes {W wo po : Nat → Int32} {bd : Nat → Int} {c b n : Nat} (hp : ∀ i, i < 8 → (po i).toInt = 0) (h : fit0 W wo bd c b n) : fitF W wo po bd c b n = 0 := by
  have h1 := fitC0_0.mpr h
  have h2 : ¬ ((0 < 0 ∧ (po 0).toInt = 0) ∨ fitI ((0 : Nat) : Int) (tkd W b n (bd (c / 36))) (tfr W b n c) (ntW W b n 2) (ntW W b n 3) ((c : Int) % 36 % 6) (trk wo b (bd (c / 36)) c) = 0) := by
    rintro (⟨h3, -⟩ | h3)
    · omega
    · unfold fitI at h3
      rw [if_pos h1] at h3
      omega
  have h4 : fitF W wo po bd c b n = trF po (tkd W b n (bd (c / 36))) (tfr W b n c) (ntW W b n 2) (ntW W b n 3) ((c : Int) % 36 % 6) (trk wo b (bd (c / 36)) c) (5 + 1) 0 1000 := rfl
  rw [h4, trF_st, if_neg h2, if_pos rfl, trF_free hp 5 (0 + 1) _ (by omega) (by omega)]
  omega
theorem fitF_no {W wo po : Nat → Int32} {bd : Nat → Int} {c b n : Nat} (hp : ∀ i, i < 8 → (po i).toInt = 0) (h : ¬ fit0 W wo bd c b n) : fitF W wo po bd c b n = 1000 := by
  have h1 : ¬ fitC0 ((0 : Nat) : Int) (tkd W b n (bd (c / 36))) (tfr W b n c) (ntW W b n 2) (ntW W b n 3) ((c : Int) % 36 % 6) (trk wo b (bd (c / 36)) c) := fun h2 => h (fitC0_0.mp h2)
  have h2 : (0 < 0 ∧ (po 0).toInt = 0) ∨ fitI ((0 : Nat) : Int) (tkd W b n (bd (c / 36))) (tfr W b n c) (ntW W b n 2) (ntW W b n 3) ((c : Int) % 36 % 6) (trk wo b (bd (c / 36)) c) = 0 := by
    right
    unfold fitI
    rw [if_neg h1]
  have h4 : fitF W wo po bd c b n = trF po (tkd W b n (bd (c / 36))) (tfr W b n c) (ntW W b n 2) (ntW W b n 3) ((c : Int) % 36 % 6) (trk wo b (bd (c / 36)) c) (5 + 1) 0 1000 := rfl
  rw [h4, trF_st, if_pos h2, trF_free hp 5 (0 + 1) _ (by omega) (by omega)]
theorem tw_0 {W po : Nat → Int32} {b n : Nat} (hp : ∀ i, i < 8 → (po i).toInt = 0) : twI W po b n = 0 := by
  unfold twI
  rw [if_neg]
  intro h
  have h1 := h.2.1
  have h2 := hp 7 (by omega)
  omega
theorem lo_0 {po : Nat → Int32} {m : Nat} {p : Int} (hp : ∀ i, i < 8 → (po i).toInt = 0) : loV po m p = 1000 := by
  unfold loV
  by_cases h : m = 0
  · rw [if_pos h]
  · rw [if_neg h, if_pos (hp 6 (by omega))]
theorem row_00 {W po : Nat → Int32} {b n : Nat} {pv ft : Nat → Int} (hp : ∀ i, i < 8 → (po i).toInt = 0) : rowF W po b 0 pv ft n = if n = 0 then 0 else 1000 := by
  cases n with
  | zero => rw [rowF, if_pos rfl, if_pos rfl]
  | succ n =>
    rw [rowF, lo_0 hp, if_pos (tw_0 hp), if_pos (rfl : (0 : Nat) = 0), if_neg (by omega)]
    omega
theorem row_s0 {W po : Nat → Int32} {b m : Nat} {pv ft : Nat → Int} (hp : ∀ i, i < 8 → (po i).toInt = 0) (hm : m ≠ 0) : rowF W po b m pv ft 0 = 1000 := by
  rw [rowF, if_neg hm, lo_0 hp]
  omega
theorem row_ss {W po : Nat → Int32} {b m n : Nat} {pv ft : Nat → Int} (hp : ∀ i, i < 8 → (po i).toInt = 0) (hm : m ≠ 0) : rowF W po b m pv ft (n + 1) = min 1000 (pv n + ft n) := by
  rw [rowF, if_neg hm, lo_0 hp, if_pos (tw_0 hp)]
  omega
def frEk (E : Ev) (bk : Nat) : Prop := (∀ i, i < 8 → (E.po i).toInt = 0) ∧ E.fz ≠ 0 ∧ bk < cW E.W ∧ ∀ b, b < cW E.W → (E.ak b ↔ b = bk)
/-- the first k MOVES keep the first k NOTES -/
def allF (E : Ev) (bk : Nat) (P : Nat → Nat) (k : Nat) : Prop := ∀ i, i < k → fit0 E.W E.wo (bdF E.W P i) (P i) bk i
theorem sum_0 {E : Ev} {bk : Nat} {P : Nat → Nat} (hF : frEk E bk) : ∀ k n, (n = k → allF E bk P k → sumF E P bk k n = 0) ∧ (¬ (n = k ∧ allF E bk P k) → sumF E P bk k n = 1000) := by
  have hp := hF.1
  intro k
  induction k with
  | zero =>
    intro n
    rw [sumF, row_00 hp]
    refine ⟨fun h _ => by rw [if_pos h], fun h => ?_⟩
    rw [if_neg (fun h0 => h ⟨h0, fun i hi => absurd hi (by omega)⟩)]
  | succ k ih =>
    intro n
    rw [sumF]
    cases n with
    | zero => exact ⟨fun h => absurd h (by omega), fun _ => row_s0 hp (by omega)⟩
    | succ n =>
      obtain ⟨i1, i2⟩ := ih n
      rw [row_ss hp (by omega)]
      refine ⟨fun h ha => ?_, fun h => ?_⟩
      · have hn : n = k := by omega
        have h1 := i1 hn (fun i hi => ha i (by omega))
        have h2 := ha k (by omega)
        rw [← hn] at h2
        rw [h1, fitF_yes hp (by rw [← hn]; exact h2)]
        omega
      · by_cases hc : n = k ∧ allF E bk P k
        · have h1 := i1 hc.1 hc.2
          have h2 : ¬ fit0 E.W E.wo (bdF E.W P k) (P k) bk n := fun h3 => h ⟨by omega, fun i hi => by
            by_cases hik : i = k
            · rw [hik]; rw [hc.1] at h3; exact h3
            · exact hc.2 i (by omega)⟩
          rw [h1, fitF_no hp h2]
          omega
        · have h1 := i2 hc
          have h3 : 0 ≤ fitF E.W E.wo E.po (bdF E.W P k) (P k) bk n := fitF_nn (E := E) (fun i hi => by rw [hp i hi]; exact Int.le_refl _)
          rw [h1]
          omega
theorem acc_one {ak : Nat → Prop} {f : Nat → Int} {bk N : Nat} (h : ∀ b, b < N → (ak b ↔ b = bk)) : ∀ n, n ≤ N → accF ak f n = if bk < n then f bk else 0 := by
  intro n
  induction n with
  | zero => intro _; rw [accF, if_neg (by omega)]
  | succ n ih =>
    intro hnN
    rw [accF, ih (by omega)]
    by_cases hn : n = bk
    · rw [if_neg (by omega), if_pos ((h n (by omega)).mpr hn), if_pos (by omega), hn]
      omega
    · rw [if_neg (fun h1 => hn ((h n (by omega)).mp h1))]
      by_cases h2 : bk < n
      · rw [if_pos h2, if_pos (by omega)]; omega
      · rw [if_neg h2, if_neg (by omega)]; omega
theorem so_0 {E : Ev} {bk : Nat} {P : Nat → Nat} {k : Nat} (hF : frEk E bk) : soF E P k ≤ 0 ↔ (k ≤ nW E.W bk ∧ allF E bk P k) := by
  obtain ⟨hp, -, hbk, hak⟩ := id hF
  unfold soF
  rw [acc_one hak _ (Nat.le_refl _), if_pos hbk]
  have hs := sum_0 (P := P) hF k
  constructor
  · intro h
    by_cases hc : k ≤ nW E.W bk ∧ allF E bk P k
    · exact hc
    · exfalso
      have h1 : (1000 : Int) ≤ lstF (sumF E P bk k) (nW E.W bk + 1) := le_lst (Int.le_refl _) _ (fun n hn => by
        rw [(hs n).2 (fun h2 => hc ⟨by omega, h2.2⟩)]
        exact Int.le_refl _)
      omega
  · intro h
    have h1 := lst_le (r := sumF E P bk k) (nW E.W bk + 1) k (by omega)
    rw [(hs k).1 rfl h.2] at h1
    exact h1
/-! the board along a path -/
theorem bdF_36 {W : Nat → Int32} {P : Nat → Nat} : ∀ k i, 36 ≤ i → bdF W P k i = 0 := by
  intro k
  cases k with
  | zero => intro i hi; show (if i < 36 then _ else _) = _; rw [if_neg (by omega)]
  | succ k => intro i hi; show (if i < 36 then _ else _) = _; rw [if_neg (by omega)]
theorem bdF_s {W : Nat → Int32} {P : Nat → Nat} {k : Nat} (hP : P k < 1296) : bdF W P (k + 1) = zBd (bdF W P k) (P k) := by
  funext i
  show (if i < 36 then mkF (bdF W P k) (P k) i else 0) = _
  by_cases h : i < 36
  · rw [if_pos h]; rfl
  · rw [if_neg h]
    unfold zBd
    rw [if_neg (by omega), if_neg (by omega), bdF_36 k i (by omega)]
theorem bdF_r {W : Nat → Int32} {P : Nat → Nat} (h0 : rwB (bdF W P 0)) : ∀ k, (∀ i, i < k → P i < 1296) → rwB (bdF W P k) := by
  intro k
  induction k with
  | zero => intro _; exact h0
  | succ k ih =>
    intro h
    rw [bdF_s (h k (by omega))]
    exact zBd_r (ih (fun i hi => h i (by omega)))
/-! a MOVE that the reference goes along is one of the pure search -/
section
variable {E : Ev} {bk : Nat} {K : Nat → Nat × (Nat → Int × Nat)} {nt : Nat → Nat → Int} {wy : Int}
/-- what the question says of the table -/
def ntE (E : Ev) (bk : Nat) (nt : Nat → Nat → Int) (wy : Int) : Prop := (E.wo bk).toInt = wy ∧ ∀ n, n < nW E.W bk → (∀ q, q < 4 → ntW E.W bk n q = nt n q) ∧ -1 ≤ nt n 1
theorem can_is {B : Nat → Int} {k c : Nat} {W : Nat → Int32} (hK : kdR K W) (hB : rwB B) (hc : c < 1296) : canF W B k c ≠ 0 ↔ zMv B K ((k : Int) % 2) c = true := by
  unfold canF
  rw [finds_is hK hB hc]
  by_cases h : zMv B K ((k : Int) % 2) c = true
  · rw [if_pos h]
    exact ⟨fun _ => h, fun _ => by decide⟩
  · rw [if_neg h]
    exact ⟨fun h1 => absurd rfl h1, fun h1 => absurd h1 h⟩
theorem fit_is {B : Nat → Int} {k c : Nat} (hN : ntE E bk nt wy) (hB : rwB B) (hk : k < nW E.W bk) (hc : c < 1296) (hz : zMv B K ((k : Int) % 2) c = true) : fit0 E.W E.wo B c bk k ↔ zFt nt wy k B c = true := by
  obtain ⟨h1, h2⟩ := hN
  obtain ⟨h3, h4⟩ := h2 k hk
  have g0 := h3 0 (by omega)
  have g1 := h3 1 (by omega)
  have g2 := h3 2 (by omega)
  have g3 := h3 3 (by omega)
  have hz1 : 0 ≤ B (c / 36) ∧ B (c / 36) % 2 = (k : Int) % 2 := by
    have h := hz
    unfold zMv zGo at h
    rw [Bool.and_eq_true, Bool.and_eq_true, decide_eq_true_iff, decide_eq_true_iff] at h
    exact ⟨h.1, h.2.1⟩
  obtain ⟨m0, m1⟩ := hz1
  have m9 := (hB (c / 36)).2
  have hsd := sdI_m m0 m9
  have hdv : (B (c / 36)).tdiv 2 = B (c / 36) / 2 := Int.tdiv_eq_ediv_of_nonneg m0
  unfold fit0 zFt tkd tfr trk
  rw [g0, g1, g2, g3, h1, hsd, hdv]
  rw [Bool.and_eq_true, Bool.and_eq_true, Bool.and_eq_true, decide_eq_true_iff, decide_eq_true_iff, decide_eq_true_iff, decide_eq_true_iff]
  have c1 : ((c : Int) / 36 % 6) = ((c / 36 % 6 : Nat) : Int) := by omega
  have c2 : ((c : Int) % 36 % 6) = ((c % 36 % 6 : Nat) : Int) := by omega
  have c3 : ((c : Int) % 36 / 6) = ((c % 36 / 6 : Nat) : Int) := by omega
  rw [c1, c2, c3]
  have e0 : (if nt k 0 = B (c / 36) / 2 then (1 : Int) else 0) ≠ 0 ↔ nt k 0 = B (c / 36) / 2 := by
    by_cases h : nt k 0 = B (c / 36) / 2
    · rw [if_pos h]; exact ⟨fun _ => h, fun _ => by decide⟩
    · rw [if_neg h]; exact ⟨fun h' => absurd rfl h', fun h' => absurd h' h⟩
  have e1 : (if nt k 1 < 0 ∨ nt k 1 = ((c / 36 % 6 : Nat) : Int) then (1 : Int) else 0) ≠ 0 ↔ (nt k 1 = -1 ∨ nt k 1 = ((c / 36 % 6 : Nat) : Int)) := by
    by_cases h : nt k 1 < 0 ∨ nt k 1 = ((c / 36 % 6 : Nat) : Int)
    · rw [if_pos h]; exact ⟨fun _ => by omega, fun _ => by decide⟩
    · rw [if_neg h]; exact ⟨fun h' => absurd rfl h', fun h' => absurd h' (by omega)⟩
  have e3 : (if wy = 1 ∧ B (c / 36) % 2 = 1 then 5 - ((c % 36 / 6 : Nat) : Int) else ((c % 36 / 6 : Nat) : Int)) = (if wy = 1 ∧ k % 2 = 1 then 5 - ((c % 36 / 6 : Nat) : Int) else ((c % 36 / 6 : Nat) : Int)) := by
    by_cases h : wy = 1 ∧ k % 2 = 1
    · rw [if_pos h, if_pos ⟨h.1, by omega⟩]
    · rw [if_neg h, if_neg (fun h' => h ⟨h'.1, by omega⟩)]
  rw [e0, e1, e3]
/-- the next MOVE, seen from a path that keeps its NOTES -/
theorem kid_is {P : Nat → Nat} {k c : Nat} (hF : frEk E bk) (hN : ntE E bk nt wy) (hK : kdR K E.W) (hB : rwB (bdF E.W P k)) (ha : allF E bk P k) (hP : P k = c) (hc : c < 1296) : (caE E P k c ≠ 0 ∧ soF E P (k + 1) ≤ 0) ↔ zKid K nt wy (nW E.W bk) k (bdF E.W P k) c = true := by
  unfold caE
  rw [can_is hK hB hc, so_0 hF]
  unfold zKid
  rw [Bool.and_eq_true, Bool.and_eq_true, decide_eq_true_iff]
  constructor
  · rintro ⟨h1, h2, h3⟩
    have h4 := h3 k (by omega)
    rw [hP] at h4
    exact ⟨by omega, h1, (fit_is hN hB (by omega) hc h1).mp h4⟩
  · rintro ⟨h1, h2, h3⟩
    refine ⟨h2, by omega, fun i hi => ?_⟩
    by_cases hik : i = k
    · rw [hik, hP]
      exact (fit_is hN hB h1 hc h2).mpr h3
    · exact ha i (by omega)
end
