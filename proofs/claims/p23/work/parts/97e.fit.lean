/-! frames with bounds that are not numbers -/
def mHq : List aMod → Nat → Nat → Nat → Prop
  | [], _, _, _ => (0 : Nat) = 1
  | (q, l, lo, hi) :: r, p, k, i => (q = p ∧ l = k ∧ lo ≤ i ∧ i < hi) ∨ mHq r p k i
theorem mHq_in : ∀ {M : List aMod} {p k i : Nat}, mIn M p k i = true ↔ mHq M p k i
  | [], p, k, i => by unfold mIn mHq; simp
  | (q, l, lo, hi) :: r, p, k, i => by
    have ih := mHq_in (M := r) (p := p) (k := k) (i := i)
    unfold mHq
    rw [← ih]
    unfold mIn
    simp only [List.any_cons, Bool.or_eq_true, Bool.and_eq_true, beq_iff_eq, Nat.ble_eq, Nat.blt_eq]
theorem mIn_yes {M : List aMod} {p k i : Nat} (h : mHq M p k i) : mIn M p k i = true := mHq_in.mpr h
theorem mIn_no {M : List aMod} {p k i : Nat} (h : ¬ mHq M p k i) : mIn M p k i = false := by
  rw [← Bool.not_eq_true]; exact fun hh => h (mHq_in.mp hh)
/-- every piece of the one within the other -/
def mAl : List aMod → List aMod → Prop
  | [], _ => (0 : Nat) = 0
  | (q, l, lo, hi) :: r, M => (∀ i, lo ≤ i → i < hi → mHq M q l i) ∧ mAl r M
theorem mAl_has {M : List aMod} {p k i : Nat} : ∀ {A : List aMod}, mAl A M → mHq A p k i → mHq M p k i
  | [], _, h => absurd h (by unfold mHq; omega)
  | (q, l, lo, hi) :: r, ha, h => by
    unfold mHq at h
    rcases h with ⟨rfl, rfl, h1, h2⟩ | h
    · exact ha.1 i h1 h2
    · exact mAl_has ha.2 h
theorem fr_wk {Ma Mb : List aMod} (h : mAl Ma Mb) {a b : PH} (hf : fr Ma a b) : fr Mb a b := by
  have hi : ∀ {p k i : Nat}, mIn Mb p k i = false → mIn Ma p k i = false := by
    intro p k i hb
    refine mIn_no (fun ha => ?_)
    have := mIn_yes (mAl_has h ha)
    rw [hb] at this; cases this
  refine ⟨hf.1, fun p e he => ?_⟩
  obtain ⟨e', h1, h2⟩ := hf.2 p e he
  refine ⟨e', h1, ?_⟩
  rcases e with ⟨t, n, g | g⟩ | ⟨k, vs⟩ <;> rcases e' with ⟨t', n', g' | g'⟩ | ⟨k', vs'⟩ <;> (try exact h2.elim)
  · exact ⟨h2.1, h2.2.1, fun i hx => h2.2.2 i (hi hx)⟩
  · exact ⟨h2.1, h2.2.1, fun i hx => h2.2.2 i (hi hx)⟩
  · exact ⟨h2.1, h2.2.1, fun i hx => h2.2.2 i (hi hx)⟩
theorem fr_row {M : List aMod} {es es' : PH} (h : fr M es es') (hs : sh es) {p t n : Nat} {sp : Nat → Int × Int} (hp : tT[p]? = some (.inl (t, n, sp))) (ht : t ≠ 1) (hm : ∀ k, ¬ mHq M p 0 k) : gA es' p = gA es p := funext (fun k => fr_gA h hs hp ht (mIn_no (hm k)))
theorem fr_at {M : List aMod} {es es' : PH} (h : fr M es es') (hs : sh es) {p t n : Nat} {sp : Nat → Int × Int} (hp : tT[p]? = some (.inl (t, n, sp))) (ht : t ≠ 1) {k : Nat} (hm : ¬ mHq M p 0 k) : gA es' p k = gA es p k := fr_gA h hs hp ht (mIn_no hm)
theorem fr_fld {M : List aMod} {es es' : PH} (h : fr M es es') (hs : sh es) {p c b : Nat} {ss : List tS} (hp : tT[p]? = some (.inr (c, ss))) (hm : ¬ mHq M p (b + 2) 0) : gI es' p b = gI es p b := fr_gI h hs hp (mIn_no hm)
theorem fr_gJ {M : List aMod} {es es' : PH} (h : fr M es es') (hs : sh es) {p n k : Nat} {sp : Nat → Int × Int} (hp : tT[p]? = some (.inl (1, n, sp))) (hm : ¬ mHq M p 0 k) : gJ es' p k = gJ es p k := by
  obtain ⟨e', h1, h2⟩ := h.2 p _ (sh_arrL hs hp)
  rcases e' with ⟨t', n', f | f⟩ | ⟨c, vs⟩
  · exact h2.elim
  · have h3 := h2.2.2 k (mIn_no hm)
    conv => lhs; unfold gJ
    rw [h1]
    exact h3
  · exact h2.elim
/-! THE SEARCH: what fits, what is twice, the ways into a sum, as functions -/
def ntW (W : Nat → Int32) (b n k : Nat) : Int := (W (119 + 98 * b + 2 + 4 * n + k)).toInt
def nW (W : Nat → Int32) (b : Nat) : Nat := (W (119 + 98 * b + 1)).toInt.toNat
def fitC0 (s kd fr fi ra f2 r2 : Int) : Prop := (s = 0 ∧ kd ≠ 0 ∧ fr ≠ 0 ∧ fi = f2 ∧ ra = r2) ∨ (s = 1 ∧ kd = 0 ∧ fr ≠ 0 ∧ fi = f2 ∧ ra = r2) ∨ (s = 2 ∧ kd ≠ 0 ∧ fr ≠ 0 ∧ (fi - f2 = 1 ∨ fi - f2 = -1) ∧ ra = r2) ∨ (s = 3 ∧ kd ≠ 0 ∧ fr ≠ 0 ∧ fi = f2 ∧ (ra - r2 = 1 ∨ ra - r2 = -1)) ∨ (s = 4 ∧ kd ≠ 0 ∧ fr ≠ 0 ∧ fi = f2 ∧ ra ≠ r2 ∧ 5 - ra = r2) ∨ (5 ≤ s ∧ kd ≠ 0 ∧ fr = 0 ∧ fi = f2 ∧ ra = r2)
noncomputable def fitI (s kd fr fi ra f2 r2 : Int) : Int := @ite Int (fitC0 s kd fr fi ra f2 r2) (Classical.propDecidable _) 1 0
def fitP (s kd fr fi ra f2 r2 : Int) (_ : PH) (v : Int) : Prop := v = fitI s kd fr fi ra f2 r2 ∧ 0 ≤ v ∧ v ≤ 1
def twC (W po : Nat → Int32) (b n : Nat) : Prop := 0 < n ∧ 0 < (po 7).toInt ∧ ∀ j, j < 4 → ntW W b n j = ntW W b (n - 1) j
noncomputable def twI (W po : Nat → Int32) (b n : Nat) : Int := @ite Int (twC W po b n) (Classical.propDecidable _) 1 0
def twP (b n : Int) (es : PH) (v : Int) : Prop := v = twI (gA es 80) (gA es 90) b.toNat n.toNat ∧ 0 ≤ v ∧ v ≤ 1
def mvI (es : PH) (m n b : Nat) : Int := if m = 0 then 1000 else if n = 0 then 1000 else (gA es 94 (25 * (31 * b + (m - 1)) + (n - 1))).toInt + (gA es 92 (72 * (m - 1) + 24 * b + (n - 1))).toInt
def loI (es : PH) (m n b : Nat) : Int := if m = 0 then 1000 else if (gA es 90 6).toInt = 0 then 1000 else (gA es 94 (25 * (31 * b + (m - 1)) + n)).toInt + (gA es 90 6).toInt
noncomputable def ttI (es : PH) (m n b : Nat) : Int := if n = 0 then 1000 else if twI (gA es 80) (gA es 90) b (n - 1) = 0 then 1000 else (gA es 94 (25 * (31 * b + m) + (n - 1))).toInt + (gA es 90 7).toInt
def mvP (m n b : Int) (es : PH) (v : Int) : Prop := v = mvI es m.toNat n.toNat b.toNat ∧ 0 ≤ v ∧ v ≤ 2000
def loP (m n b : Int) (es : PH) (v : Int) : Prop := v = loI es m.toNat n.toNat b.toNat ∧ 0 ≤ v ∧ v ≤ 2000
def ttP (m n b : Int) (es : PH) (v : Int) : Prop := v = ttI es m.toNat n.toNat b.toNat ∧ 0 ≤ v ∧ v ≤ 2000
/-- asked -/
def akI (a b : Int) : Int := (zI (zI a >>> (zI b &&& 31)).toInt &&& zI 1).toInt
def askP (b : Int) (es : PH) (v : Int) : Prop := v = (if akI (gI es 79 18).toInt b = 1 then 1 else 0) ∧ 0 ≤ v ∧ v ≤ 1
section
variable {O : pOut} {d kc ks : Nat} {Q : pRes → Prop} {es : PH}
theorem fits_spec {s kd fr fi ra f2 r2 : Int} (hs : sh es) (h1 : 0 ≤ s ∧ s ≤ 5) (h2 : 0 ≤ kd ∧ kd ≤ 1) (h3 : 0 ≤ fr ∧ fr ≤ 1) (h4 : -20 ≤ fi ∧ fi ≤ 20) (h5 : -20 ≤ ra ∧ ra ≤ 20) (h6 : -20 ≤ f2 ∧ f2 ≤ 20) (h7 : -20 ≤ r2 ∧ r2 ≤ 20) (K : ∀ v, fitP s kd fr fi ra f2 r2 es v → Q (.inl (some (.int (zI v))), es, kc, ks)) :
    aW O (d + 1) 255 kc ks Q (0, [some (.int (zI s)), some (.int (zI kd)), some (.int (zI fr)), some (.int (zI fi)), some (.int (zI ra)), some (.int (zI f2)), some (.int (zI r2)), none, none], [], es) := by
  have k0 : ¬ fitC0 s kd fr fi ra f2 r2 → Q (.inl (some (.int (zI 0))), es, kc, ks) := fun h => K 0 ⟨by unfold fitI; rw [if_neg h], by omega, by omega⟩
  have k1 : fitC0 s kd fr fi ra f2 r2 → Q (.inl (some (.int (zI 1))), es, kc, ks) := fun h => K 1 ⟨by unfold fitI; rw [if_pos h], by omega, by omega⟩
  have go : ∀ ef er : Int, (ef = 1 ∧ fi = f2) ∨ (ef = 0 ∧ fi ≠ f2) → (er = 1 ∧ ra = r2) ∨ (er = 0 ∧ ra ≠ r2) → aW O (d + 1) 255 kc ks Q (27, [some (.int (zI s)), some (.int (zI kd)), some (.int (zI fr)), some (.int (zI fi)), some (.int (zI ra)), some (.int (zI f2)), some (.int (zI r2)), some (.int (zI ef)), some (.int (zI er))], [], es) := by
    intro ef er he hr
    unfold fitC0 at k0 k1
    refine s_fits27 (d := d) hs h1 h2 h3 h4 h5 h6 h7 (by omega) (by omega) (by intros; exact k0 (by omega)) (by intros; exact k0 (by omega)) (by intros; exact k0 (by omega)) (by intros; exact k0 (by omega)) (by intros; exact k1 (Or.inl ⟨by omega, by omega, by omega, by omega, by omega⟩)) (by intros; exact k0 (by omega)) (by intros; exact k0 (by omega)) (by intros; exact k0 (by omega)) (by intros; exact k0 (by omega)) (by intros; exact k1 (Or.inr (Or.inl ⟨by omega, by omega, by omega, by omega, by omega⟩))) (by intros; exact k0 (by omega)) (by intros; exact k0 (by omega)) (by intros; exact k0 (by omega)) (by intros; exact k0 (by omega)) (by intros; exact k1 (Or.inr (Or.inr (Or.inl ⟨by omega, by omega, by omega, by omega, by omega⟩)))) (by intros; exact k0 (by omega)) (by intros; exact k0 (by omega)) (by intros; exact k0 (by omega)) (by intros; exact k0 (by omega)) (by intros; exact k1 (Or.inr (Or.inr (Or.inr (Or.inl ⟨by omega, by omega, by omega, by omega, by omega⟩))))) (by intros; exact k0 (by omega)) (by intros; exact k0 (by omega)) (by intros; exact k0 (by omega)) (by intros; exact k0 (by omega)) (by intros; exact k0 (by omega)) (by intros; exact k1 (Or.inr (Or.inr (Or.inr (Or.inr (Or.inl ⟨by omega, by omega, by omega, by omega, by omega, by omega⟩)))))) (by intros; exact k0 (by omega)) (by intros; exact k0 (by omega)) (by intros; exact k0 (by omega)) (by intros; exact k0 (by omega)) (by intros; exact k1 (Or.inr (Or.inr (Or.inr (Or.inr (Or.inr (⟨by omega, by omega, by omega, by omega, by omega⟩)))))))
  refine s_fits0 (d := d + 1) hs h1 h2 h3 h4 h5 h6 h7 ?_ ?_ ?_ ?_ <;> intros <;> exact go _ _ (by omega) (by omega)
theorem twI_1 {b n : Nat} (h : twC (gA es 80) (gA es 90) b n) : twP b n es 1 := ⟨by unfold twI; rw [Int.toNat_natCast, Int.toNat_natCast, if_pos h], by omega, by omega⟩
theorem twI_0 {b n : Nat} (h : ¬ twC (gA es 80) (gA es 90) b n) : twP b n es 0 := ⟨by unfold twI; rw [Int.toNat_natCast, Int.toNat_natCast, if_neg h], by omega, by omega⟩
theorem tw_loop {b n : Nat} (hb : (0 : Int) ≤ b ∧ (b : Int) ≤ 2) (hn : (0 : Int) ≤ n ∧ (n : Int) ≤ 23) (hT : hOK tT es) (K : ∀ v, twP b n es v → Q (.inl (some (.int (zI v))), es, kc, ks)) : ∀ (m k : Nat) (f : Int), k + m = 4 → (f = 1 ∧ 0 < n ∧ 0 < (gA es 90 7).toInt ∧ ∀ j, j < k → ntW (gA es 80) b n j = ntW (gA es 80) b (n - 1) j) ∨ (f = 0 ∧ ¬ twC (gA es 80) (gA es 90) b n) →
    aW O (d + 2) 242 kc ks Q (23, [some (.ref 143), some (.int (zI b)), some (.int (zI n)), some (.int (zI f)), some (.int (zI (k : Int)))], [], es) := by
  intro m
  induction m with
  | zero =>
    intro k f hk hc
    have hk4 : k = 4 := by omega
    subst hk4
    refine s_tw23 (sh_of hT) hb hn (by rcases hc with h | h <;> omega) ⟨by omega, by omega⟩ (by rcases hc with h | h <;> omega) hT (fun _ => ?_) (fun h => absurd (by omega) h) (fun h => absurd (by omega) h) (fun h => absurd (by omega) h)
    rcases hc with ⟨rfl, h1, h2, h3⟩ | ⟨rfl, h1⟩
    · exact K 1 (twI_1 ⟨h1, h2, h3⟩)
    · exact K 0 (twI_0 h1)
  | succ m ih =>
    intro k f hk hc
    have e1 : ((k + 1 : Nat) : Int) = (k : Int) + 1 := by omega
    have e3 : 0 < n → ((119 + (98 * (b : Int))) + ((2 + (4 * ((n : Int) - 1))) + (k : Int))).toNat = 119 + 98 * b + 2 + 4 * (n - 1) + k := by omega
    have e2 : ((119 + (98 * (b : Int))) + ((2 + (4 * (n : Int))) + (k : Int))).toNat = 119 + 98 * b + 2 + 4 * n + k := by omega
    refine s_tw23 (sh_of hT) hb hn (by rcases hc with h | h <;> omega) ⟨by omega, by omega⟩ (by rcases hc with h | h <;> omega) hT (fun h => absurd h (by omega)) (fun _ hf => ?_) (fun _ hf v3 h3 v4 h4 hne => ?_) (fun _ hf v3 h3 v4 h4 hne => ?_)
    · rcases hc with ⟨rfl, -⟩ | ⟨rfl, h1⟩
      · omega
      · exact K 0 (twI_0 h1)
    · rcases hc with ⟨-, h1, h2, h5⟩ | ⟨h0, -⟩
      · rw [e2] at h3
        rw [e3 h1] at h4
        have := ih (k + 1) 0 (by omega) (Or.inr ⟨rfl, fun hh => by
          have h9 := hh.2.2 k (by omega)
          unfold ntW at h9
          exact hne (by rw [h3, h4, h9])⟩)
        rw [e1] at this
        exact this
      · exact absurd h0 hf
    · rcases hc with ⟨-, h1, h2, h5⟩ | ⟨h0, -⟩
      · rw [e2] at h3
        rw [e3 h1] at h4
        have := ih (k + 1) 1 (by omega) (Or.inl ⟨rfl, h1, h2, fun j hj => by
          rcases Nat.lt_or_ge j k with h6 | h6
          · exact h5 j h6
          · have hjk : j = k := by omega
            subst hjk
            unfold ntW
            rw [← h3, ← h4]
            omega⟩)
        rw [e1] at this
        exact this
      · exact absurd h0 hf
theorem tw_spec {b n : Int} (hs : sh es) (hb : 0 ≤ b ∧ b ≤ 2) (hn : 0 ≤ n ∧ n ≤ 23) (hT : hOK tT es) (K : ∀ v, twP b n es v → Q (.inl (some (.int (zI v))), es, kc, ks)) :
    aW O (d + 2) 242 kc ks Q (0, [some (.ref 143), some (.int (zI b)), some (.int (zI n)), none, none], [], es) := by
  obtain ⟨b, rfl⟩ := Int.eq_ofNat_of_zero_le hb.1
  obtain ⟨n, rfl⟩ := Int.eq_ofNat_of_zero_le hn.1
  refine s_tw0 hs hb hn hT (fun h => ?_) (fun h v hv h2 => ?_) (fun h v hv h2 => ?_)
  · exact tw_loop hb hn hT K 4 0 0 (by omega) (Or.inr ⟨rfl, fun hh => by have := hh.1; omega⟩)
  · exact tw_loop hb hn hT K 4 0 0 (by omega) (Or.inr ⟨rfl, fun hh => by
      have := hh.2.1
      have e : v = (gA es 90 7).toInt := hv
      omega⟩)
  · exact tw_loop hb hn hT K 4 0 1 (by omega) (Or.inl ⟨rfl, by omega, by
      have e : v = (gA es 90 7).toInt := hv
      omega, fun j hj => absurd hj (by omega)⟩)
theorem sum_bd (hT : hOK tT es) {i : Nat} (hi : i < 2325) : 0 ≤ (gA es 94 i).toInt ∧ (gA es 94 i).toInt ≤ 1000 := gA_bd hT (p := 94) (t := 0) (n := 2325) rfl hi (by decide)
theorem fit_bd (hT : hOK tT es) {i : Nat} (hi : i < 2232) : 0 ≤ (gA es 92 i).toInt ∧ (gA es 92 i).toInt ≤ 1000 := gA_bd hT (p := 92) (t := 0) (n := 2232) rfl hi (by decide)
theorem pr_bd (hT : hOK tT es) {i : Nat} (hi : i < 8) : 0 ≤ (gA es 90 i).toInt ∧ (gA es 90 i).toInt ≤ 9 := gA_bd hT (p := 90) (t := 0) (n := 8) rfl hi (by decide)
theorem mv_spec {m n b : Int} (hs : sh es) (hm : 0 ≤ m ∧ m ≤ 30) (hn : 0 ≤ n ∧ n ≤ 24) (hb : 0 ≤ b ∧ b ≤ 2) (hT : hOK tT es) (K : ∀ v, mvP m n b es v → Q (.inl (some (.int (zI v))), es, kc, ks)) :
    aW O (d + 1) 237 kc ks Q (0, [some (.ref 143), some (.int (zI m)), some (.int (zI n)), some (.int (zI b))], [], es) := by
  refine s_ofMove hs hb hm hn hT (fun h => K 1000 ⟨by unfold mvI; rw [if_pos (by omega)], by omega, by omega⟩) (fun h1 h2 v3 e3 v4 e4 => ?_) (fun h1 h2 => K 1000 ⟨by unfold mvI; rw [if_neg (by omega), if_pos (by omega)], by omega, by omega⟩)
  have i1 : ((25 * ((31 * b) + (m - 1))) + (n - 1)).toNat = 25 * (31 * b.toNat + (m.toNat - 1)) + (n.toNat - 1) := by omega
  have i2 : ((((3 * (m - 1)) + b) * 24) + (n - 1)).toNat = 72 * (m.toNat - 1) + 24 * b.toNat + (n.toNat - 1) := by omega
  rw [i1] at e3
  rw [i2] at e4
  have g1 := sum_bd hT (i := 25 * (31 * b.toNat + (m.toNat - 1)) + (n.toNat - 1)) (by omega)
  have g2 := fit_bd hT (i := 72 * (m.toNat - 1) + 24 * b.toNat + (n.toNat - 1)) (by omega)
  rw [← e3] at g1
  rw [← e4] at g2
  exact K _ ⟨by unfold mvI; rw [if_neg (by omega), if_neg (by omega), e3, e4], by omega, by omega⟩
theorem lo_spec {m n b : Int} (hs : sh es) (hm : 0 ≤ m ∧ m ≤ 30) (hn : 0 ≤ n ∧ n ≤ 24) (hb : 0 ≤ b ∧ b ≤ 2) (hT : hOK tT es) (K : ∀ v, loP m n b es v → Q (.inl (some (.int (zI v))), es, kc, ks)) :
    aW O (d + 1) 240 kc ks Q (0, [some (.ref 143), some (.int (zI m)), some (.int (zI n)), some (.int (zI b))], [], es) := by
  refine s_ofLost hs hb hm hn hT (fun h => K 1000 ⟨by unfold loI; rw [if_pos (by omega)], by omega, by omega⟩) (fun h1 v2 e2 h2 v3 e3 v4 e4 => ?_) (fun h1 v2 e2 h2 => K 1000 ⟨?_, by omega, by omega⟩)
  · have i1 : ((25 * ((31 * b) + (m - 1))) + n).toNat = 25 * (31 * b.toNat + (m.toNat - 1)) + n.toNat := by omega
    rw [i1] at e3
    have e2' : v2 = (gA es 90 6).toInt := e2
    have e4' : v4 = (gA es 90 6).toInt := e4
    have g1 := sum_bd hT (i := 25 * (31 * b.toNat + (m.toNat - 1)) + n.toNat) (by omega)
    have g2 := pr_bd hT (i := 6) (by omega)
    rw [← e3] at g1
    rw [← e4'] at g2
    exact K _ ⟨by unfold loI; rw [if_neg (by omega), if_neg (by omega), e3, e4'], by omega, by omega⟩
  · have e2' : v2 = (gA es 90 6).toInt := e2
    unfold loI; rw [if_neg (by omega), if_pos (by omega)]
theorem ask_spec {b : Int} (hs : sh es) (hb : 0 ≤ b ∧ b ≤ 2) (K : ∀ v, askP b es v → Q (.inl (some (.int (zI v))), es, kc, ks)) :
    aW O d 235 kc ks Q (0, [some (.ref 143), some (.int (zI b))], [], es) := by
  refine s_asked hs hb (fun v1 e1 v2 e2 v3 e3 h => K 0 ⟨?_, by omega, by omega⟩) (fun v1 e1 v2 e2 v3 e3 h => K 1 ⟨?_, by omega, by omega⟩)
  · unfold akI; rw [← e1, ← e2, ← e3, if_neg (by omega)]
  · unfold akI; rw [← e1, ← e2, ← e3, if_pos (by omega)]
end
