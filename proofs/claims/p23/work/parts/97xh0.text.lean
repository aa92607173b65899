/-! TEXTS, as both sides read them: bytes, runs, tokens, the LINES of a KIND -/
/-- a byte as the class holds it -/
def zU8 (x : Int) : Int := if x < 0 then x + 256 else x
def zSp (x : Int) : Bool := decide (x = 32)
def zLe (x : Int) : Bool := decide (97 ≤ x) && decide (x ≤ 122)
def zDi (x : Int) : Bool := decide (48 ≤ x) && decide (x ≤ 57)
theorem zSp_iff {x : Int} : zSp x = true ↔ x = 32 := decide_eq_true_iff
theorem zLe_iff {x : Int} : zLe x = true ↔ 97 ≤ x ∧ x ≤ 122 := by unfold zLe; rw [Bool.and_eq_true, decide_eq_true_iff, decide_eq_true_iff]
theorem zDi_iff {x : Int} : zDi x = true ↔ 48 ≤ x ∧ x ≤ 57 := by unfold zDi; rw [Bool.and_eq_true, decide_eq_true_iff, decide_eq_true_iff]
theorem zSp_no {x : Int} : zSp x = false ↔ ¬ x = 32 := by rw [← Bool.not_eq_true, zSp_iff]
theorem zLe_no {x : Int} : zLe x = false ↔ ¬ (97 ≤ x ∧ x ≤ 122) := by rw [← Bool.not_eq_true, zLe_iff]
theorem zDi_no {x : Int} : zDi x = false ↔ ¬ (48 ≤ x ∧ x ≤ 57) := by rw [← Bool.not_eq_true, zDi_iff]
theorem zU8_eq {x y : Int} (h : -128 ≤ x) (h1 : x ≤ 127) (h0 : 0 ≤ y) (h2 : y ≤ 127) : zU8 x = y ↔ x = y := by
  unfold zU8
  split <;> omega
theorem zU8_in {x lo hi : Int} (h : -128 ≤ x) (h1 : x ≤ 127) (h0 : 0 ≤ lo) (h2 : hi ≤ 127) : (lo ≤ zU8 x ∧ zU8 x ≤ hi) ↔ (lo ≤ x ∧ x ≤ hi) := by
  unfold zU8
  split <;> omega
theorem zU8_bd {x : Int} (h : -128 ≤ x) (h1 : x ≤ 127) : 0 ≤ zU8 x ∧ zU8 x ≤ 255 := by
  unfold zU8
  split <;> omega
/-- behind the bytes that are so, from p on -/
def zRnF (c : Nat → Int) (n : Nat) (P : Int → Bool) : Nat → Nat → Nat
  | 0, p => p
  | k + 1, p => bif Nat.blt p n && P (c p) then zRnF c n P k (p + 1) else p
theorem zRnF_s {c : Nat → Int} {n : Nat} {P : Int → Bool} {k p : Nat} : zRnF c n P (k + 1) p = bif Nat.blt p n && P (c p) then zRnF c n P k (p + 1) else p := rfl
def zRn (c : Nat → Int) (n : Nat) (P : Int → Bool) (p : Nat) : Nat := zRnF c n P (n - p) p
section
variable {c : Nat → Int} {n p : Nat} {P : Int → Bool}
theorem zRn_stop (h : p < n → P (c p) = false) : zRn c n P p = p := by
  unfold zRn
  cases hk : n - p with
  | zero => rfl
  | succ k =>
    have hp : p < n := by omega
    rw [zRnF_s, h hp, Bool.and_false, cond_false]
theorem zRn_go (h : p < n) (h2 : P (c p) = true) : zRn c n P p = zRn c n P (p + 1) := by
  have hk : n - p = (n - (p + 1)) + 1 := by omega
  have hb : Nat.blt p n = true := by rw [Nat.blt_eq]; exact h
  unfold zRn
  rw [hk]
  rw [zRnF_s, hb, h2, Bool.and_true, cond_true]
theorem zRnF_ge : ∀ (k p : Nat), p ≤ zRnF c n P k p
  | 0, p => Nat.le_refl _
  | k + 1, p => by
    rw [zRnF_s]
    cases Nat.blt p n && P (c p) with
    | true => exact Nat.le_trans (Nat.le_succ p) (zRnF_ge k (p + 1))
    | false => exact Nat.le_refl _
theorem zRnF_le : ∀ (k p : Nat), p ≤ n → zRnF c n P k p ≤ n
  | 0, p, h => h
  | k + 1, p, h => by
    rw [zRnF_s]
    cases hb : Nat.blt p n && P (c p) with
    | true =>
      rw [Bool.and_eq_true, Nat.blt_eq] at hb
      exact zRnF_le k (p + 1) hb.1
    | false => exact h
theorem zRn_ge : p ≤ zRn c n P p := zRnF_ge _ _
theorem zRn_le (h : p ≤ n) : zRn c n P p ≤ n := zRnF_le _ _ h
/-- where a run ends, it can't go on -/
theorem zRnF_end : ∀ (k p : Nat), n ≤ p + k → zRnF c n P k p < n → P (c (zRnF c n P k p)) = false
  | 0, p, h, h2 => by
    have h3 : p < n := h2
    omega
  | k + 1, p, h, h2 => by
    rw [zRnF_s] at h2 ⊢
    cases hb : Nat.blt p n && P (c p) with
    | true =>
      rw [hb] at h2
      exact zRnF_end k (p + 1) (by omega) h2
    | false =>
      rw [hb] at h2
      have h3 : p < n := h2
      have h4 : Nat.blt p n = true := by rw [Nat.blt_eq]; exact h3
      rw [h4, Bool.true_and] at hb
      exact hb
theorem zRn_end (h : zRn c n P p < n) : P (c (zRn c n P p)) = false := zRnF_end _ _ (by omega) h
/-- in a run all bytes are so -/
theorem zRnF_all : ∀ (k p i : Nat), p ≤ i → i < zRnF c n P k p → P (c i) = true
  | 0, p, i, h, h2 => by
    have h3 : i < p := h2
    omega
  | k + 1, p, i, h, h2 => by
    rw [zRnF_s] at h2
    cases hb : Nat.blt p n && P (c p) with
    | true =>
      rw [hb] at h2
      rw [Bool.and_eq_true] at hb
      by_cases hi : i = p
      · rw [hi]; exact hb.2
      · exact zRnF_all k (p + 1) i (by omega) h2
    | false =>
      rw [hb] at h2
      have h3 : i < p := h2
      omega
theorem zRn_all {i : Nat} (h : p ≤ i) (h2 : i < zRn c n P p) : P (c i) = true := zRnF_all _ _ i h h2
end
/-- the words of both sorts of texts, in the class's order -/
def zWds : List (List Nat) := [[116, 111, 111, 107], [118, 97, 108, 117, 101], [110, 117, 109, 98, 101, 114], [109, 101, 110], [116, 97, 107, 101, 115], [115, 97, 102, 101], [110, 111, 116], [97, 110, 100], [111, 114], [97, 100, 100], [105, 102], [115, 116, 114, 97, 105, 103, 104, 116], [115, 108, 97, 110, 116], [97, 104, 101, 97, 100], [108, 101, 97, 112], [98, 105, 116, 101]]
def zSgA (c : Nat → Int) : Nat → List Nat → Bool
  | _, [] => true
  | p, x :: r => decide (c p = (x : Int)) && zSgA c (p + 1) r
theorem zSgA_cons {c : Nat → Int} {p x : Nat} {r : List Nat} : zSgA c p (x :: r) = (decide (c p = (x : Int)) && zSgA c (p + 1) r) := rfl
/-- from p to e stands the word -/
def zSgE (c : Nat → Int) (p e : Nat) (w : List Nat) : Bool := Nat.beq (p + w.length) e && zSgA c p w
theorem zSgA_iff {c : Nat → Int} : ∀ {w : List Nat} {p : Nat}, zSgA c p w = true ↔ ∀ (k x : Nat), w[k]? = some x → c (p + k) = (x : Int)
  | [], p => ⟨fun _ k x h => by simp at h, fun _ => rfl⟩
  | y :: r, p => by
    rw [zSgA_cons, Bool.and_eq_true, decide_eq_true_iff, zSgA_iff]
    constructor
    · intro h k x hx
      cases k with
      | zero => simp only [List.getElem?_cons_zero, Option.some.injEq] at hx; rw [← hx]; exact h.1
      | succ k =>
        simp only [List.getElem?_cons_succ] at hx
        have h2 := h.2 k x hx
        rw [show p + (k + 1) = p + 1 + k by omega]
        exact h2
    · intro h
      refine ⟨h 0 y rfl, fun k x hx => ?_⟩
      have h2 := h (k + 1) x hx
      rw [show p + 1 + k = p + (k + 1) by omega]
      exact h2
theorem zSgE_iff {c : Nat → Int} {p e : Nat} {w : List Nat} : zSgE c p e w = true ↔ p + w.length = e ∧ ∀ (k x : Nat), w[k]? = some x → c (p + k) = (x : Int) := by
  unfold zSgE
  rw [Bool.and_eq_true, Nat.beq_eq, zSgA_iff]
theorem zSgE_inj {c : Nat → Int} {p e : Nat} {w w' : List Nat} (h : zSgE c p e w = true) (h' : zSgE c p e w' = true) : w = w' := by
  rw [zSgE_iff] at h h'
  apply List.ext_getElem?
  intro k
  cases hw : w[k]? with
  | none =>
    rw [List.getElem?_eq_none_iff] at hw
    exact (List.getElem?_eq_none_iff.mpr (by omega)).symm
  | some x =>
    have hk := (List.getElem?_eq_some_iff.mp hw).1
    obtain ⟨y, hy⟩ : ∃ y, w'[k]? = some y := ⟨_, List.getElem?_eq_getElem (by omega)⟩
    have h1 := h.2 k x hw
    have h2 := h'.2 k y hy
    rw [h1] at h2
    have h3 : x = y := by omega
    rw [hy, h3]
def zWcF (c : Nat → Int) (p e : Nat) : List (List Nat) → Int → Int
  | [], _ => -3000
  | w :: r, t => bif zSgE c p e w then t else zWcF c p e r (t - 1)
theorem zWcF_cons {c : Nat → Int} {p e : Nat} {w : List Nat} {r : List (List Nat)} {t : Int} : zWcF c p e (w :: r) t = bif zSgE c p e w then t else zWcF c p e r (t - 1) := rfl
def zWcod (c : Nat → Int) (p e : Nat) : Int := zWcF c p e zWds (-1)
theorem zWcF_bd {c : Nat → Int} {p e : Nat} : ∀ (l : List (List Nat)) (t : Int), zWcF c p e l t = -3000 ∨ (t - l.length < zWcF c p e l t ∧ zWcF c p e l t ≤ t)
  | [], t => Or.inl rfl
  | w :: r, t => by
    rw [zWcF_cons]
    simp only [List.length_cons]
    cases zSgE c p e w with
    | true => right; simp only [cond_true]; omega
    | false =>
      simp only [cond_false]
      rcases zWcF_bd r (t - 1) with h | h
      · left; exact h
      · right; omega
theorem zWcod_bd {c : Nat → Int} {p e : Nat} : zWcod c p e = -3000 ∨ (-16 ≤ zWcod c p e ∧ zWcod c p e ≤ -1) := by
  rcases zWcF_bd (c := c) (p := p) (e := e) zWds (-1) with h | ⟨h1, h2⟩
  · exact Or.inl h
  · right
    have hl : (zWds.length : Int) = 16 := rfl
    rw [hl] at h1
    unfold zWcod
    omega
theorem zWcF_at {c : Nat → Int} {p e : Nat} : ∀ (l : List (List Nat)) (t : Int) (i : Nat) (w : List Nat), l.Nodup → -1000 ≤ t - l.length → l[i]? = some w → (zWcF c p e l t = t - i ↔ zSgE c p e w = true)
  | [], t, i, w, _, _, h => by simp at h
  | v :: r, t, i, w, hn, ht, h => by
    rw [zWcF_cons]
    simp only [List.length_cons] at ht
    rw [List.nodup_cons] at hn
    cases i with
    | zero =>
      simp only [List.getElem?_cons_zero, Option.some.injEq] at h
      subst h
      cases hb : zSgE c p e v with
      | true => simp only [cond_true]; exact ⟨fun _ => by trivial, fun _ => by omega⟩
      | false =>
        simp only [cond_false]
        refine ⟨fun h2 => ?_, fun h2 => by cases h2⟩
        rcases zWcF_bd (c := c) (p := p) (e := e) r (t - 1) with h3 | h3 <;> omega
    | succ i =>
      simp only [List.getElem?_cons_succ] at h
      cases hb : zSgE c p e v with
      | true =>
        simp only [cond_true]
        refine ⟨fun h2 => by omega, fun h2 => ?_⟩
        have := zSgE_inj hb h2
        subst this
        exact absurd (List.mem_of_getElem? h) hn.1
      | false =>
        simp only [cond_false]
        rw [← zWcF_at r (t - 1) i w hn.2 (by omega) h]
        constructor <;> intro h2 <;> omega
theorem zWcod_at {c : Nat → Int} {p e i : Nat} {w : List Nat} (h : zWds[i]? = some w) : zWcod c p e = -1 - i ↔ zSgE c p e w = true := zWcF_at zWds (-1) i w (by decide) (by decide) h
/-- how the class finds a word: letter by letter through all words -/
def zWF (c : Nat → Int) (b e : Nat) : List Nat → Nat → Int → Int
  | [], _, _ => -3000
  | x :: r, i, w => if x = 32 then (if i = e then w else zWF c b e r b (w - 1)) else zWF c b e r (if i < e ∧ c i = (x : Int) then i + 1 else e + 1) w
theorem zWF_cons {c : Nat → Int} {b e x i : Nat} {r : List Nat} {w : Int} : zWF c b e (x :: r) i w = if x = 32 then (if i = e then w else zWF c b e r b (w - 1)) else zWF c b e r (if i < e ∧ c i = (x : Int) then i + 1 else e + 1) w := rfl
theorem zWF_word {c : Nat → Int} {b e : Nat} {r : List Nat} {t : Int} : ∀ (w : List Nat) (i : Nat), (∀ x ∈ w, ¬ x = 32) → zWF c b e (w ++ 32 :: r) i t = bif zSgE c i e w then t else zWF c b e r b (t - 1)
  | [], i, _ => by
    rw [List.nil_append, zWF_cons, if_pos rfl]
    by_cases h : i = e
    · have h2 : zSgE c i e [] = true := zSgE_iff.mpr ⟨h, fun k x hx => by simp at hx⟩
      rw [if_pos h, h2, cond_true]
    · have h2 : zSgE c i e [] = false := by
        rw [← Bool.not_eq_true]
        intro h3
        exact h (zSgE_iff.mp h3).1
      rw [if_neg h, h2, cond_false]
  | y :: w, i, hw => by
    rw [List.cons_append, zWF_cons, if_neg (hw y List.mem_cons_self), zWF_word w _ (fun x hx => hw x (List.mem_cons_of_mem _ hx))]
    have he : zSgE c (if i < e ∧ c i = (y : Int) then i + 1 else e + 1) e w = zSgE c i e (y :: w) := by
      rw [Bool.eq_iff_iff, zSgE_iff, zSgE_iff]
      simp only [List.length_cons]
      constructor
      · intro ⟨h1, h2⟩
        split at h1
        · rename_i hc
          rw [if_pos hc] at h2
          refine ⟨by omega, fun k x hx => ?_⟩
          cases k with
          | zero => simp only [List.getElem?_cons_zero, Option.some.injEq] at hx; rw [← hx]; exact hc.2
          | succ k =>
            simp only [List.getElem?_cons_succ] at hx
            rw [show i + (k + 1) = i + 1 + k by omega]
            exact h2 k x hx
        · omega
      · intro ⟨h1, h2⟩
        have h3 := h2 0 y rfl
        have hc : i < e ∧ c i = (y : Int) := ⟨by omega, h3⟩
        rw [if_pos hc]
        refine ⟨by omega, fun k x hx => ?_⟩
        rw [show i + 1 + k = i + (k + 1) by omega]
        exact h2 (k + 1) x hx
    rw [he]
theorem zWF_all {c : Nat → Int} {b e : Nat} : ∀ (l : List (List Nat)) (t : Int), (∀ w ∈ l, ∀ x ∈ w, ¬ x = 32) → zWF c b e (l.flatMap (fun w => w ++ [32])) b t = zWcF c b e l t
  | [], t, _ => rfl
  | w :: l, t, h => by
    rw [List.flatMap_cons, List.append_assoc]
    show zWF c b e (w ++ 32 :: l.flatMap (fun w => w ++ [32])) b t = _
    rw [zWF_word w b (h w List.mem_cons_self), zWF_all l (t - 1) (fun v hv => h v (List.mem_cons_of_mem _ hv))]
    rfl
def zTx0 : List Nat := zWds.flatMap (fun w => w ++ [32])
theorem zWF_ok {c : Nat → Int} {b e : Nat} : zWF c b e zTx0 b (-1) = zWcod c b e := zWF_all zWds (-1) (by decide)
/-- the number that k digits from p on spell, behind v -/
def zDvl (c : Nat → Int) : Nat → Nat → Int → Int
  | 0, _, v => v
  | k + 1, p, v => zDvl c k (p + 1) (10 * v + c p - 48)
theorem zDvl_snoc {c : Nat → Int} : ∀ (k p : Nat) (v : Int), zDvl c (k + 1) p v = 10 * zDvl c k p v + c (p + k) - 48
  | 0, p, v => rfl
  | k + 1, p, v => by
    show zDvl c (k + 1) (p + 1) (10 * v + c p - 48) = 10 * zDvl c k (p + 1) (10 * v + c p - 48) + c (p + (k + 1)) - 48
    rw [zDvl_snoc k (p + 1), show p + 1 + k = p + (k + 1) by omega]
theorem zDvl_bd {c : Nat → Int} {p k : Nat} (hk : k ≤ 3) (h : ∀ i, p ≤ i → i < p + k → zDi (c i) = true) : 0 ≤ zDvl c k p 0 ∧ (k = 0 → zDvl c k p 0 = 0) ∧ (k = 1 → zDvl c k p 0 ≤ 9) ∧ (k = 2 → zDvl c k p 0 ≤ 99) ∧ zDvl c k p 0 ≤ 999 := by
  have g : ∀ i, p ≤ i → i < p + k → 48 ≤ c i ∧ c i ≤ 57 := fun i h1 h2 => zDi_iff.mp (h i h1 h2)
  obtain rfl | rfl | rfl | rfl : k = 0 ∨ k = 1 ∨ k = 2 ∨ k = 3 := by omega
  · have e : zDvl c 0 p 0 = 0 := rfl
    rw [e]
    exact ⟨by omega, fun _ => rfl, fun h2 => by omega, fun h2 => by omega, by omega⟩
  · have g0 := g p (by omega) (by omega)
    have e : zDvl c 1 p 0 = 10 * 0 + c p - 48 := rfl
    rw [e]
    exact ⟨by omega, fun h2 => by omega, fun _ => by omega, fun h2 => by omega, by omega⟩
  · have g0 := g p (by omega) (by omega)
    have g1 := g (p + 1) (by omega) (by omega)
    have e : zDvl c 2 p 0 = 10 * (10 * 0 + c p - 48) + c (p + 1) - 48 := rfl
    rw [e]
    exact ⟨by omega, fun h2 => by omega, fun h2 => by omega, fun _ => by omega, by omega⟩
  · have g0 := g p (by omega) (by omega)
    have g1 := g (p + 1) (by omega) (by omega)
    have g2 := g (p + 1 + 1) (by omega) (by omega)
    have e : zDvl c 3 p 0 = 10 * (10 * (10 * 0 + c p - 48) + c (p + 1) - 48) + c (p + 1 + 1) - 48 := rfl
    rw [e]
    exact ⟨by omega, fun h2 => by omega, fun h2 => by omega, fun h2 => by omega, by omega⟩
def zNcod (c : Nat → Int) (p e : Nat) : Int := if 3 < e - p then -3000 else zDvl c (e - p) p 0
/-- where the token that begins at q ends, what it is, where the next begins -/
def zBe (c : Nat → Int) (n q : Nat) : Nat := if zLe (c q) = true then zRn c n zLe q else if zDi (c q) = true then zRn c n zDi q else q + 1
def zCod (c : Nat → Int) (n q : Nat) : Int := if n ≤ q then -2000 else if zLe (c q) = true then zWcod c q (zRn c n zLe q) else if zDi (c q) = true then zNcod c q (zRn c n zDi q) else -1000 - zU8 (c q)
def zNx (c : Nat → Int) (n p : Nat) : Nat := zRn c n zSp p
/-- where the k-th token begins -/
def zPs (c : Nat → Int) (n : Nat) : Nat → Nat
  | 0 => zNx c n 0
  | k + 1 => zNx c n (zBe c n (zPs c n k))
section
variable {c : Nat → Int} {n p q : Nat}
theorem zBe_gt (h : q < n) : q < zBe c n q := by
  unfold zBe
  split
  · rename_i h1
    rw [zRn_go h h1]
    exact Nat.lt_of_lt_of_le (Nat.lt_succ_self q) zRn_ge
  · split
    · rename_i h2
      rw [zRn_go h h2]
      exact Nat.lt_of_lt_of_le (Nat.lt_succ_self q) zRn_ge
    · omega
theorem zBe_le (h : q < n) : zBe c n q ≤ n := by
  unfold zBe
  split
  · exact zRn_le (Nat.le_of_lt h)
  · split
    · exact zRn_le (Nat.le_of_lt h)
    · omega
theorem zNx_le (h : p ≤ n) : zNx c n p ≤ n := zRn_le h
theorem zNx_ge : p ≤ zNx c n p := zRn_ge
theorem zNx_end (h : zNx c n p < n) : ¬ c (zNx c n p) = 32 := zSp_no.mp (zRn_end h)
theorem zNx_nx : zNx c n (zNx c n p) = zNx c n p := zRn_stop (fun h2 => zRn_end h2)
theorem zPs_nx {k : Nat} : zNx c n (zPs c n k) = zPs c n k := by
  cases k with
  | zero => exact zNx_nx
  | succ k => exact zNx_nx
theorem zPs_le : ∀ {k : Nat}, (∀ j, j < k → zPs c n j < n) → zPs c n k ≤ n
  | 0, _ => zNx_le (Nat.zero_le n)
  | k + 1, h => zNx_le (zBe_le (h k (Nat.lt_succ_self k)))
theorem zCod_end (h : n ≤ q) : zCod c n q = -2000 := by unfold zCod; rw [if_pos h]
theorem zCod_le (h : q < n) (h1 : zLe (c q) = true) : zCod c n q = zWcod c q (zRn c n zLe q) := by unfold zCod; rw [if_neg (by omega), if_pos h1]
theorem zCod_di (h : q < n) (h1 : ¬ zLe (c q) = true) (h2 : zDi (c q) = true) : zCod c n q = zNcod c q (zRn c n zDi q) := by unfold zCod; rw [if_neg (by omega), if_neg h1, if_pos h2]
theorem zCod_si (h : q < n) (h1 : ¬ zLe (c q) = true) (h2 : ¬ zDi (c q) = true) : zCod c n q = -1000 - zU8 (c q) := by unfold zCod; rw [if_neg (by omega), if_neg h1, if_neg h2]
theorem zLe_di {x : Int} (h : zDi x = true) : ¬ zLe x = true := by
  rw [zDi_iff] at h
  rw [zLe_iff]
  omega
theorem zNcod_bd (h : q < n) (h2 : zDi (c q) = true) : zNcod c q (zRn c n zDi q) = -3000 ∨ (0 ≤ zNcod c q (zRn c n zDi q) ∧ zNcod c q (zRn c n zDi q) ≤ 999) := by
  have hge : q ≤ zRn c n zDi q := zRn_ge
  unfold zNcod
  split
  · exact Or.inl rfl
  · have hb := zDvl_bd (c := c) (p := q) (k := zRn c n zDi q - q) (by omega) (fun i h3 h4 => zRn_all (n := n) h3 (by omega))
    exact Or.inr ⟨hb.1, hb.2.2.2.2⟩
/-- a token below none is a word, a sign, the end, or nothing at all -/
theorem zCod_cases (hc : ∀ k, k < n → -128 ≤ c k ∧ c k ≤ 127) : (q < n ∧ zLe (c q) = true ∧ (zCod c n q = -3000 ∨ (-16 ≤ zCod c n q ∧ zCod c n q ≤ -1))) ∨ (q < n ∧ zDi (c q) = true ∧ (zCod c n q = -3000 ∨ (0 ≤ zCod c n q ∧ zCod c n q ≤ 999))) ∨ (q < n ∧ ¬ zLe (c q) = true ∧ ¬ zDi (c q) = true ∧ -1255 ≤ zCod c n q ∧ zCod c n q ≤ -1000) ∨ (n ≤ q ∧ zCod c n q = -2000) := by
  by_cases h : q < n
  · by_cases h1 : zLe (c q) = true
    · left
      rw [zCod_le h h1]
      exact ⟨h, h1, zWcod_bd⟩
    · by_cases h2 : zDi (c q) = true
      · right; left
        rw [zCod_di h h1 h2]
        exact ⟨h, h2, zNcod_bd h h2⟩
      · right; right; left
        rw [zCod_si h h1 h2]
        obtain ⟨a1, a2⟩ := hc q h
        obtain ⟨b1, b2⟩ := zU8_bd a1 a2
        exact ⟨h, h1, h2, by omega, by omega⟩
  · right; right; right
    exact ⟨by omega, zCod_end (by omega)⟩
/-- a word, by the letters that stand at q -/
theorem zCod_word (hc : ∀ k, k < n → -128 ≤ c k ∧ c k ≤ 127) {i : Nat} {w : List Nat} (hw : zWds[i]? = some w) (h0 : q ≤ n) : zCod c n q = -1 - i ↔ zSgE c q (zRn c n zLe q) w = true := by
  have hi : i < 16 := (List.getElem?_eq_some_iff.mp hw).1
  have hlen : 0 < w.length := (show ∀ v ∈ zWds, 0 < v.length by decide) w (List.mem_of_getElem? hw)
  rcases zCod_cases (q := q) hc with ⟨h, h1, -⟩ | ⟨h, h1, h2⟩ | ⟨h, h1, h2, h3, h4⟩ | ⟨h, h1⟩
  · rw [zCod_le h h1]
    exact zWcod_at hw
  · have e : zRn c n zLe q = q := zRn_stop (fun _ => Bool.eq_false_iff.mpr (zLe_di h1))
    rw [e, zSgE_iff]
    constructor <;> intro h3 <;> omega
  · have e : zRn c n zLe q = q := zRn_stop (fun _ => Bool.eq_false_iff.mpr h1)
    rw [e, zSgE_iff]
    constructor <;> intro h5 <;> omega
  · have e : zRn c n zLe q = q := zRn_stop (fun h2 => by omega)
    rw [e, zSgE_iff]
    constructor <;> intro h5 <;> omega
/-- a NUMBER, by the digits that stand at q -/
theorem zCod_num (hc : ∀ k, k < n → -128 ≤ c k ∧ c k ≤ 127) (h0 : q ≤ n) : 0 ≤ zCod c n q ↔ (¬ zRn c n zDi q = q ∧ zRn c n zDi q - q ≤ 3) := by
  rcases zCod_cases (q := q) hc with ⟨h, h1, h2⟩ | ⟨h, h1, h2⟩ | ⟨h, h1, h2, h3, h4⟩ | ⟨h, h1⟩
  · have e : zRn c n zDi q = q := zRn_stop (fun _ => Bool.eq_false_iff.mpr (fun h3 => zLe_di h3 h1))
    rw [e]
    constructor <;> intro h3 <;> omega
  · have hg : q < zRn c n zDi q := by
      rw [zRn_go h h1]
      exact Nat.lt_of_lt_of_le (Nat.lt_succ_self q) zRn_ge
    rw [zCod_di h (zLe_di h1) h1]
    unfold zNcod
    split
    · rename_i h5
      constructor <;> intro h6 <;> omega
    · rename_i h5
      have hb := (zDvl_bd (c := c) (p := q) (k := zRn c n zDi q - q) (by omega) (fun i h3 h4 => zRn_all (n := n) h3 (by omega))).1
      constructor
      · intro _; omega
      · intro _; omega
  · have e : zRn c n zDi q = q := zRn_stop (fun _ => Bool.eq_false_iff.mpr h2)
    rw [e]
    constructor <;> intro h5 <;> omega
  · have e : zRn c n zDi q = q := zRn_stop (fun h2 => by omega)
    rw [e]
    constructor <;> intro h5 <;> omega
theorem zCod_val (hc : ∀ k, k < n → -128 ≤ c k ∧ c k ≤ 127) (h0 : 0 ≤ zCod c n q) : q < n ∧ zDi (c q) = true ∧ zCod c n q = zDvl c (zRn c n zDi q - q) q 0 ∧ zBe c n q = zRn c n zDi q := by
  rcases zCod_cases (q := q) hc with ⟨h, h1, h2⟩ | ⟨h, h1, h2⟩ | ⟨h, h1, h2, h3, h4⟩ | ⟨h, h1⟩
  · omega
  · refine ⟨h, h1, ?_, ?_⟩
    · rw [zCod_di h (zLe_di h1) h1] at h0 ⊢
      unfold zNcod at h0 ⊢
      split at h0
      · omega
      · rename_i h5
        rw [if_neg h5]
    · unfold zBe
      rw [if_neg (zLe_di h1), if_pos h1]
  · omega
  · omega
theorem zCod_sign (hc : ∀ k, k < n → -128 ≤ c k ∧ c k ≤ 127) {x : Int} (hx : 33 ≤ x ∧ x ≤ 47 ∨ 58 ≤ x ∧ x ≤ 96) : zCod c n q = -1000 - x ↔ (q < n ∧ c q = x) := by
  rcases zCod_cases (q := q) hc with ⟨h, h1, h2⟩ | ⟨h, h1, h2⟩ | ⟨h, h1, h2, h3, h4⟩ | ⟨h, h1⟩
  · rw [zLe_iff] at h1
    constructor <;> intro h5 <;> omega
  · rw [zDi_iff] at h1
    constructor <;> intro h5 <;> omega
  · rw [zCod_si h h1 h2]
    obtain ⟨a1, a2⟩ := hc q h
    have := zU8_eq a1 a2 (y := x) (by omega) (by omega)
    constructor
    · intro h5; exact ⟨h, this.mp (by omega)⟩
    · intro h5; have := this.mpr h5.2; omega
  · constructor <;> intro h5 <;> omega
/-- a word's or a sign's end -/
theorem zBe_word (hc : ∀ k, k < n → -128 ≤ c k ∧ c k ≤ 127) (h : -16 ≤ zCod c n q) (h2 : zCod c n q ≤ -1) : q < n ∧ zBe c n q = zRn c n zLe q := by
  rcases zCod_cases (q := q) hc with ⟨h3, h1, -⟩ | ⟨h3, h1, h4⟩ | ⟨h3, h1, h4, h5, h6⟩ | ⟨h3, h1⟩
  · refine ⟨h3, ?_⟩
    unfold zBe
    rw [if_pos h1]
  · omega
  · omega
  · omega
theorem zBe_sign (hc : ∀ k, k < n → -128 ≤ c k ∧ c k ≤ 127) (h : -1255 ≤ zCod c n q) (h2 : zCod c n q ≤ -1000) : q < n ∧ zBe c n q = q + 1 := by
  rcases zCod_cases (q := q) hc with ⟨h3, h1, h4⟩ | ⟨h3, h1, h4⟩ | ⟨h3, h1, h4, h5, h6⟩ | ⟨h3, h1⟩
  · omega
  · omega
  · refine ⟨h3, ?_⟩
    unfold zBe
    rw [if_neg h1, if_neg h4]
  · omega
end
/-! a KIND's LINE, its LINES: the token where the next begins, or where it is wrong -/
def zKl (c : Nat → Int) (n q : Nat) : Nat × Option (Int × Int) :=
  if -16 ≤ zCod c n q ∧ zCod c n q ≤ -12 then
    (if -14 ≤ zCod c n q then
      (if 1 ≤ zCod c n (zNx c n (zBe c n q)) ∧ zCod c n (zNx c n (zBe c n q)) ≤ 5 then (zNx c n (zBe c n (zNx c n (zBe c n q))), some (zCod c n q, zCod c n (zNx c n (zBe c n q))))
      else (zNx c n (zBe c n q), none))
    else (zNx c n (zBe c n q), some (zCod c n q, 1)))
  else (q, none)
def zKtF (c : Nat → Int) (n : Nat) : Nat → Nat → Nat × Option Nat
  | 0, q => (q, none)
  | j + 1, q => match zKl c n q with
    | (b, none) => (b, none)
    | (b, some _) => if n ≤ b then (b, some j) else if zCod c n b = -1059 then zKtF c n j (zNx c n (zBe c n b)) else (b, none)
/-- where a KIND's text is wrong; or how many LINES were left -/
def zKt (c : Nat → Int) (n : Nat) : Nat × Option Nat := if n ≤ zNx c n 0 then (zNx c n 0, some 6) else zKtF c n 6 (zNx c n 0)
