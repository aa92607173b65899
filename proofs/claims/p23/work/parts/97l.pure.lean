/-! THE SEARCH, pure: boards, sums, prices along a path -/
def Ev : Type := (Nat → Int32) × (Nat → Int32) × (Nat → Int32) × (Nat → Prop) × Int
def Ev.W (E : Ev) : Nat → Int32 := E.1
def Ev.wo (E : Ev) : Nat → Int32 := E.2.1
def Ev.po (E : Ev) : Nat → Int32 := E.2.2.1
def Ev.ak (E : Ev) : Nat → Prop := E.2.2.2.1
def Ev.fz (E : Ev) : Int := E.2.2.2.2
def evE (es : PH) : Ev := (gA es 80, gA es 89, gA es 90, akB es, (gI es 79 30).toInt)
def bdF (W : Nat → Int32) (P : Nat → Nat) : Nat → Nat → Int
  | 0 => fun i => if i < 36 then (W (13 + i)).toInt else 0
  | k + 1 => fun i => if i < 36 then mkF (bdF W P k) (P k) i else 0
noncomputable def sumF (E : Ev) (P : Nat → Nat) (b : Nat) : Nat → Nat → Int
  | 0 => rowF E.W E.po b 0 (fun _ => 0) (fun _ => 0)
  | k + 1 => rowF E.W E.po b (k + 1) (sumF E P b k) (fun n => fitF E.W E.wo E.po (bdF E.W P k) (P k) b n)
noncomputable def soF (E : Ev) (P : Nat → Nat) (k : Nat) : Int := accF E.ak (fun b => lstF (sumF E P b k) (nW E.W b + 1)) (cW E.W)
noncomputable def whF (E : Ev) (P : Nat → Nat) (k : Nat) : Int := accF E.ak (fun b => sumF E P b k (nW E.W b)) (cW E.W)
def goE (E : Ev) (P : Nat → Nat) (k : Nat) : Prop := goD E.W E.fz (bdF E.W P k) k
def caE (E : Ev) (P : Nat → Nat) (k : Nat) : Nat → Int32 := canF E.W (bdF E.W P k) k
def rchE (E : Ev) (P : Nat → Nat) (L : Nat) : Prop := ∀ k, k < L → P k < 1296 ∧ caE E P k (P k) ≠ 0 ∧ goE E P k
def metE (E : Ev) (pr : Int) (P : Nat → Nat) (L : Nat) : Prop := whF E P L ≤ pr ∧ ¬ barD E.W E.fz (bdF E.W P L) L ∧ lenD E.W E.fz L
theorem bdF_congr {W : Nat → Int32} {P P' : Nat → Nat} : ∀ k, (∀ i, i < k → P i = P' i) → bdF W P k = bdF W P' k
  | 0, _ => rfl
  | k + 1, h => by rw [bdF, bdF, bdF_congr k (fun i hi => h i (by omega)), h k (by omega)]
theorem sumF_congr {E : Ev} {P P' : Nat → Nat} {b : Nat} : ∀ k, (∀ i, i < k → P i = P' i) → sumF E P b k = sumF E P' b k
  | 0, _ => rfl
  | k + 1, h => by rw [sumF, sumF, sumF_congr k (fun i hi => h i (by omega)), bdF_congr k (fun i hi => h i (by omega)), h k (by omega)]
theorem soF_congr {E : Ev} {P P' : Nat → Nat} {k : Nat} (h : ∀ i, i < k → P i = P' i) : soF E P k = soF E P' k := by
  unfold soF
  exact accF_congr _ (fun _ _ => Iff.rfl) (fun b _ _ => by rw [sumF_congr k h])
theorem whF_congr {E : Ev} {P P' : Nat → Nat} {k : Nat} (h : ∀ i, i < k → P i = P' i) : whF E P k = whF E P' k := by
  unfold whF
  exact accF_congr _ (fun _ _ => Iff.rfl) (fun b _ _ => by rw [sumF_congr k h])
theorem goE_congr {E : Ev} {P P' : Nat → Nat} {k : Nat} (h : ∀ i, i < k → P i = P' i) : goE E P k ↔ goE E P' k := by
  unfold goE; rw [bdF_congr k h]
theorem caE_congr {E : Ev} {P P' : Nat → Nat} {k : Nat} (h : ∀ i, i < k → P i = P' i) : caE E P k = caE E P' k := by
  unfold caE; rw [bdF_congr k h]
theorem rchE_congr {E : Ev} {P P' : Nat → Nat} {L : Nat} (h : ∀ i, i < L → P i = P' i) (hr : rchE E P L) : rchE E P' L := by
  intro k hk
  obtain ⟨h1, h2, h3⟩ := hr k hk
  have h4 : ∀ i, i < k → P i = P' i := fun i hi => h i (by omega)
  rw [← h k hk, ← caE_congr h4]
  exact ⟨h1, h2, (goE_congr h4).mp h3⟩
theorem metE_congr {E : Ev} {pr : Int} {P P' : Nat → Nat} {L : Nat} (h : ∀ i, i < L → P i = P' i) (hm : metE E pr P L) : metE E pr P' L := by
  obtain ⟨h1, h2, h3⟩ := hm
  exact ⟨by rw [← whF_congr h]; exact h1, by rw [← bdF_congr L h]; exact h2, h3⟩
/-! what is paid never falls -/
def evOK (E : Ev) : Prop := ∀ i, i < 8 → 0 ≤ (E.po i).toInt
theorem lst_le {r : Nat → Int} : ∀ n, ∀ k, k < n → lstF r n ≤ r k
  | 0, k, hk => absurd hk (by omega)
  | n + 1, k, hk => by
    rw [lstF]
    by_cases h : k = n
    · subst h; omega
    · have := lst_le (r := r) n k (by omega)
      omega
theorem lst_1000 {r : Nat → Int} : ∀ n, lstF r n ≤ 1000
  | 0 => by rw [lstF]; omega
  | n + 1 => by have := lst_1000 (r := r) n; rw [lstF]; omega
theorem le_lst {r : Nat → Int} {x : Int} (h0 : x ≤ 1000) : ∀ n, (∀ k, k < n → x ≤ r k) → x ≤ lstF r n
  | 0, _ => by rw [lstF]; exact h0
  | n + 1, h => by
    have := le_lst h0 n (fun k hk => h k (by omega))
    have := h n (by omega)
    rw [lstF]; omega
theorem fitF_nn {E : Ev} (hE : evOK E) {bd : Nat → Int} {c b n : Nat} : 0 ≤ fitF E.W E.wo E.po bd c b n := by
  unfold fitF
  exact (trF_bd hE 6 0 1000 (by omega) (by omega) (by omega)).1
theorem rowF_ge {W po : Nat → Int32} {b m N : Nat} {pv ft : Nat → Int} {x : Int} (hpo : ∀ i, i < 8 → 0 ≤ (po i).toInt) (hx : x ≤ 1000) (hm : m ≠ 0) (h1 : ∀ n, n ≤ N → x ≤ pv n) (h2 : ∀ n, 0 ≤ ft n) : ∀ n, n ≤ N → x ≤ rowF W po b m pv ft n
  | 0, hn => by
    have := h1 0 hn
    have h6 := hpo 6 (by omega)
    rw [rowF, if_neg hm]
    unfold loV
    rw [if_neg hm]
    split <;> omega
  | n + 1, hn => by
    have ih := rowF_ge (b := b) hpo hx hm h1 h2 n (by omega) (W := W)
    have g1 := h1 n (by omega)
    have g2 := h1 (n + 1) hn
    have g3 := h2 n
    have h6 := hpo 6 (by omega)
    have h7 := hpo 7 (by omega)
    rw [rowF, if_neg hm]
    unfold loV
    rw [if_neg hm]
    split <;> split <;> omega
theorem accF_le {ak : Nat → Prop} {f f' : Nat → Int} : ∀ n, (∀ b, b < n → f b ≤ f' b) → accF ak f n ≤ accF ak f' n
  | 0, _ => Int.le_refl _
  | n + 1, h => by
    have := accF_le (ak := ak) n (fun b hb => h b (by omega))
    have := h n (by omega)
    rw [accF, accF]
    split <;> omega
theorem so_step {E : Ev} (hE : evOK E) {P : Nat → Nat} {k : Nat} : soF E P k ≤ soF E P (k + 1) := by
  unfold soF
  refine accF_le _ (fun b hb => le_lst (lst_1000 _) _ (fun n hn => ?_))
  rw [sumF]
  exact rowF_ge hE (lst_1000 _) (by omega) (N := nW E.W b) (fun i hi => lst_le _ i (by omega)) (fun i => fitF_nn hE) n (by omega)
theorem so_mono {E : Ev} (hE : evOK E) {P : Nat → Nat} {k : Nat} : ∀ j, soF E P k ≤ soF E P (k + j)
  | 0 => Int.le_refl _
  | j + 1 => Int.le_trans (so_mono hE j) (by rw [← Nat.add_assoc]; exact so_step hE)
theorem so_wh {E : Ev} {P : Nat → Nat} {k : Nat} : soF E P k ≤ whF E P k := by
  unfold soF whF
  exact accF_le _ (fun b hb => lst_le _ _ (by omega))
theorem so_le_wh {E : Ev} (hE : evOK E) {P : Nat → Nat} {k L : Nat} (h : k ≤ L) : soF E P k ≤ whF E P L := by
  obtain ⟨j, rfl⟩ := Nat.exists_eq_add_of_le h
  exact Int.le_trans (so_mono hE j) so_wh
theorem evOK_of {es : PH} (hT : hOK tT es) : evOK (evE es) := fun i hi => (pr_bd hT hi).1
theorem evE_fr {M : List aMod} {es es' : PH} (h : fr M es es') (hs : sh es) (h1 : ∀ k, ¬ mHq M 80 0 k) (h2 : ∀ k, ¬ mHq M 89 0 k) (h3 : ∀ k, ¬ mHq M 90 0 k) (h4 : ¬ mHq M 79 20 0) (h5 : ¬ mHq M 79 32 0) : evE es' = evE es := by
  unfold evE akB
  rw [fr_row h hs (p := 80) (t := 0) (n := 2125) (sp := tS80) rfl (by decide) h1, fr_row h hs (p := 89) (t := 0) (n := 3) rfl (by decide) h2, fr_row h hs (p := 90) (t := 0) (n := 8) rfl (by decide) h3, fr_fld h hs (p := 79) (b := 30) rfl h5, fr_fld h hs (p := 79) (b := 18) rfl h4]
