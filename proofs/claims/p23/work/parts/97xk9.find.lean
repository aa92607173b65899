/-! the reference's rows of what can be done say where men may go -/
theorem offI_z {s : Nat} {f r : Int} : offI (s : Int) f r = zOff s f r := by
  unfold offI zOff
  rw [show ((s % 6 : Nat) : Int) = (s : Int) % 6 by omega, show ((s / 6 : Nat) : Int) = (s : Int) / 6 by omega]
  by_cases a1 : (s : Int) % 6 + f < 0
  · rw [if_pos a1, if_neg (by omega)]
  · rw [if_neg a1]
    by_cases a2 : 5 < (s : Int) % 6 + f
    · rw [if_pos a2, if_neg (by omega)]
    · rw [if_neg a2]
      by_cases a3 : (s : Int) / 6 + r < 0
      · rw [if_pos a3, if_neg (by omega)]
      · rw [if_neg a3]
        by_cases a4 : 5 < (s : Int) / 6 + r
        · rw [if_pos a4, if_neg (by omega)]
        · rw [if_neg a4, if_pos (by omega)]
theorem sdI_10 : ∀ m : Nat, m < 10 → sdI (m : Int) = (m : Int) % 2 := by decide +kernel
theorem sdI_m {m : Int} (h0 : 0 ≤ m) (h1 : m ≤ 9) : sdI m = m % 2 := by
  have := sdI_10 m.toNat (by omega)
  rw [Int.toNat_of_nonneg h0] at this
  exact this
/-- a row of THE BOARD -/
def rwB (row : Nat → Int) : Prop := ∀ i, -1 ≤ row i ∧ row i ≤ 9
/-- what stands in a row that had C: 1 where P says so -/
def stW (P : Nat → Bool) (C C' : Nat → Int32) : Prop := ∀ c, C' c = if P c = true then zI 1 else C c
theorem stW_0 {C : Nat → Int32} {P : Nat → Bool} (h : ∀ c, P c = false) : stW P C C := fun c => by rw [h c]; rfl
theorem stW_tr {P R T : Nat → Bool} {C C' C'' : Nat → Int32} (h1 : stW P C C') (h2 : stW R C' C'') (h : ∀ c, T c = (P c || R c)) : stW T C C'' := fun c => by
  rw [h2 c, h1 c, h c]
  cases P c <;> cases R c <;> rfl
theorem stW_c {P R : Nat → Bool} {C C' : Nat → Int32} (h1 : stW P C C') (h : ∀ c, R c = P c) : stW R C C' := fun c => by rw [h1 c, h c]
theorem stW_u {C : Nat → Int32} {P : Nat → Bool} {k : Nat} (h : ∀ c, P c = decide (c = k)) : stW P C (upd C k (zI 1)) := fun c => by
  rw [h c]
  unfold upd
  by_cases hc : c = k
  · rw [if_pos hc, if_pos (by rw [decide_eq_true hc])]
  · rw [if_neg hc, if_neg (by rw [decide_eq_false hc]; decide)]
/-- from fm, as T says -/
def fmP (fm : Nat) (T : Nat → Bool) (c : Nat) : Bool := decide (c / 36 = fm) && T (c % 36)
theorem fmP_one {fm o : Nat} {T : Nat → Bool} (ho : o < 36) (hT : ∀ t, T t = decide (o = t)) (c : Nat) : fmP fm T c = decide (c = 36 * fm + o) := by
  unfold fmP
  rw [hT]
  by_cases h : c = 36 * fm + o
  · rw [decide_eq_true h, decide_eq_true (by omega), decide_eq_true (by omega)]; rfl
  · rw [decide_eq_false h]
    by_cases h1 : c / 36 = fm
    · rw [decide_eq_false (p := o = c % 36) (by omega), Bool.and_false]
    · rw [decide_eq_false h1, Bool.false_and]
theorem fmP_no {fm : Nat} {T : Nat → Bool} (hT : ∀ t, T t = false) (c : Nat) : fmP fm T c = false := by
  unfold fmP
  rw [hT, Bool.and_false]
theorem fmP_or {fm : Nat} {T U V : Nat → Bool} (h : ∀ t, V t = (T t || U t)) (c : Nat) : fmP fm V c = (fmP fm T c || fmP fm U c) := by
  unfold fmP
  rw [h]
  cases decide (c / 36 = fm) <;> rfl
section
variable {row : Nat → Int} {fm : Nat} {f r : Int}
theorem alg_st (hB : rwB row) {em : Int} {md : Nat} (hm : (em = 0 ∧ md = 0) ∨ (em = 1 ∧ md = 1)) (hfm : fm < 36) (h0 : 0 ≤ row fm) : ∀ (n s : Nat) (C : Nat → Int32), s < 36 → stW (fmP fm (zRay row md (row fm % 2) f r n s)) C (algF row (fm : Int) f r em n (s : Int) C) := by
  intro n
  induction n with
  | zero => intro s C hs; exact stW_0 (fmP_no (fun _ => rfl))
  | succ n ih =>
    intro s C hs
    have h36 := zOff_36 (s := s) (df := f) (dr := r)
    show stW _ C (if offI (s : Int) f r < 0 then C else if row (offI (s : Int) f r).toNat < 0 then algF row (fm : Int) f r em n (offI (s : Int) f r) (upd C (36 * (fm : Int) + offI (s : Int) f r).toNat (zI 1)) else
      if em ≠ 0 then C else if sdI (row (offI (s : Int) f r).toNat) = sdI (row ((fm : Int)).toNat) then C else upd C (36 * (fm : Int) + offI (s : Int) f r).toNat (zI 1))
    rw [offI_z, Int.toNat_natCast]
    by_cases c1 : zOff s f r < 0
    · rw [if_pos c1]
      exact stW_0 (fmP_no (fun t => by rw [zRay_s, if_pos c1]))
    · rw [if_neg c1]
      obtain ⟨o, ho⟩ : ∃ o : Nat, zOff s f r = (o : Int) := ⟨(zOff s f r).toNat, by omega⟩
      have hr : ∀ t, zRay row md (row fm % 2) f r (n + 1) s t = ((decide (o = t) && zHit row md (row fm % 2) o) || (decide (row o = -1) && zRay row md (row fm % 2) f r n o t)) := fun t => by
        rw [zRay_s, if_neg c1, ho, Int.toNat_natCast]
      rw [ho, Int.toNat_natCast, show (36 * (fm : Int) + (o : Int)).toNat = 36 * fm + o by omega]
      have hbo := hB o
      have hbf := hB fm
      by_cases c2 : row o < 0
      · rw [if_pos c2]
        have e1 : row o = -1 := by omega
        refine stW_tr (stW_u (fmP_one (T := fun t => decide (o = t)) (by omega) (fun _ => rfl))) (ih o _ (by omega)) (fmP_or (fun t => ?_))
        rw [hr t, e1]
        unfold zHit
        rw [if_pos e1, decide_eq_true (p := md ≠ 2) (by omega), Bool.and_true, decide_eq_true (p := (-1 : Int) = -1) rfl, Bool.true_and]
      · rw [if_neg c2]
        have e1 : row o ≠ -1 := by omega
        have hr2 : ∀ t, zRay row md (row fm % 2) f r (n + 1) s t = (decide (o = t) && (decide (md ≠ 1) && decide (row o % 2 ≠ row fm % 2))) := fun t => by
          rw [hr t, decide_eq_false e1, Bool.false_and, Bool.or_false]
          unfold zHit
          rw [if_neg e1]
        by_cases c3 : em ≠ 0
        · rw [if_pos c3]
          exact stW_0 (fmP_no (fun t => by rw [hr2 t, decide_eq_false (p := md ≠ 1) (by omega), Bool.false_and, Bool.and_false]))
        · rw [if_neg c3, sdI_m (by omega) hbo.2, sdI_m h0 hbf.2]
          by_cases c4 : row o % 2 = row fm % 2
          · rw [if_pos c4]
            exact stW_0 (fmP_no (fun t => by rw [hr2 t, decide_eq_false (p := row o % 2 ≠ row fm % 2) (fun h => h c4), Bool.and_false, Bool.and_false]))
          · rw [if_neg c4]
            exact stW_u (fmP_one (by omega) (fun t => by rw [hr2 t, decide_eq_true (p := md ≠ 1) (by omega), decide_eq_true (p := row o % 2 ≠ row fm % 2) c4, Bool.true_and, Bool.and_true]))
theorem al1_st (hB : rwB row) (hfm : fm < 36) (h0 : 0 ≤ row fm) (C : Nat → Int32) : stW (fmP fm (zRay row 0 (row fm % 2) f r 1 fm)) C (al1 row (fm : Int) f r C) := alg_st hB (Or.inl ⟨rfl, rfl⟩) hfm h0 1 fm C hfm
theorem bi_st {ah : Int} (hB : rwB row) (hfm : fm < 36) (h0 : 0 ≤ row fm) (C : Nat → Int32) : stW (fmP fm (zRay row 2 (row fm % 2) f ah 1 fm)) C (biS row (fm : Int) ah f C) := by
  have h36 := zOff_36 (s := fm) (df := f) (dr := ah)
  unfold biS
  rw [offI_z]
  by_cases c1 : zOff fm f ah < 0
  · rw [if_pos c1]
    exact stW_0 (fmP_no (fun t => by rw [zRay_s, if_pos c1]))
  · rw [if_neg c1]
    obtain ⟨o, ho⟩ : ∃ o : Nat, zOff fm f ah = (o : Int) := ⟨(zOff fm f ah).toNat, by omega⟩
    have hbo := hB o
    have hz : ∀ md t, zRay row md (row fm % 2) f ah 1 fm t = (decide (o = t) && zHit row md (row fm % 2) o) := fun md t => by
      rw [zRay_s, if_neg c1, ho, Int.toNat_natCast]
      show (_ || (decide (row o = -1) && false)) = _
      rw [Bool.and_false, Bool.or_false]
    rw [ho, Int.toNat_natCast]
    by_cases c2 : row o < 0
    · rw [if_pos c2]
      refine stW_0 (fmP_no (fun t => ?_))
      rw [hz 2 t]
      unfold zHit
      rw [if_pos (show row o = -1 by omega), decide_eq_false (p := (2 : Nat) ≠ 2) (fun h => h rfl), Bool.and_false]
    · rw [if_neg c2]
      refine stW_c (al1_st hB hfm h0 C) (fun c => ?_)
      unfold fmP
      rw [hz 2, hz 0]
      unfold zHit
      rw [if_neg (show ¬ row o = -1 by omega), if_neg (show ¬ row o = -1 by omega), decide_eq_true (p := (2 : Nat) ≠ 1) (by decide), decide_eq_true (p := (0 : Nat) ≠ 1) (by decide)]
theorem zLn_any {sd so : Int} {far t : Nat} {l : List (Int × Int)} {md : Nat} (h1 : zDirs so sd = l) (h2 : zMode so = md) : zLn row sd so far fm t = l.any (fun d => zRay row md sd d.1 d.2 far fm t) := by
  unfold zLn
  rw [h1, h2]
theorem or4 (a b c e : Bool) : (a || (b || (c || e))) = (((e || b) || c) || a) := by cases a <;> cases b <;> cases c <;> cases e <;> rfl
theorem line_st {ah so mo : Int} (hB : rwB row) (hfm : fm < 36) (h0 : 0 ≤ row fm) (hs : 0 ≤ so ∧ so ≤ 4) (ha : ah = 1 - 2 * (row fm % 2)) {far : Nat} (hf : far = if so = 3 ∨ so = 4 then 1 else mo.toNat) (C : Nat → Int32) : stW (fmP fm (zLn row (row fm % 2) so far fm)) C (lineF row (fm : Int) ah so mo C) := by
  have A : ∀ (g q : Int) (C : Nat → Int32), stW (fmP fm (zRay row 0 (row fm % 2) g q mo.toNat fm)) C (alN row (fm : Int) g q 0 mo C) := fun g q C => alg_st hB (Or.inl ⟨rfl, rfl⟩) hfm h0 mo.toNat fm C hfm
  unfold lineF
  by_cases c2 : so ≠ 2
  · rw [if_pos c2]
    by_cases c3 : so ≠ 3
    · rw [if_pos c3]
      by_cases c4 : so ≠ 4
      · rw [if_pos c4]
        rw [if_neg (by omega)] at hf
        subst hf
        by_cases c0 : so ≠ 0
        · rw [if_pos c0, if_neg (show ¬ so ≠ 1 by omega)]
          have q1 := stW_tr (A (-1) (-1) C) (A (-1) 1 _) (fun c => rfl)
          have q2 := stW_tr q1 (A 1 (-1) _) (fun c => rfl)
          refine stW_tr q2 (A 1 1 _) (fun c => ?_)
          unfold fmP
          rw [zLn_any (l := [(1, 1), (-1, 1), (1, -1), (-1, -1)]) (md := 0) (by unfold zDirs; rw [if_neg c0, if_pos (by omega)]) (by unfold zMode; rw [if_neg c2, if_neg c4])]
          simp only [List.any_cons, List.any_nil, Bool.or_false]
          cases decide (c / 36 = fm)
          · rfl
          · exact or4 _ _ _ _
        · rw [if_neg c0]
          have q1 := stW_tr (A (-1) 0 C) (A 0 (-1) _) (fun c => rfl)
          have q2 := stW_tr q1 (A 1 0 _) (fun c => rfl)
          refine stW_tr q2 (A 0 1 _) (fun c => ?_)
          unfold fmP
          rw [zLn_any (l := [(0, 1), (0, -1), (1, 0), (-1, 0)]) (md := 0) (by unfold zDirs; rw [if_pos (by omega)]) (by unfold zMode; rw [if_neg c2, if_neg c4])]
          simp only [List.any_cons, List.any_nil, Bool.or_false]
          cases decide (c / 36 = fm)
          · rfl
          · exact or4 _ _ _ _
      · rw [if_neg c4]
        rw [if_pos (by omega)] at hf
        subst hf
        refine stW_tr (bi_st hB hfm h0 C) (bi_st hB hfm h0 _) (fun c => ?_)
        unfold fmP
        rw [zLn_any (l := [(1, ah), (-1, ah)]) (md := 2) (by unfold zDirs; rw [if_neg (by omega), if_neg (by omega), if_neg c2, if_neg c3, ha]) (by unfold zMode; rw [if_neg c2, if_pos (by omega)])]
        simp only [List.any_cons, List.any_nil, Bool.or_false]
        cases decide (c / 36 = fm)
        · rfl
        · exact Bool.or_comm _ _
    · rw [if_neg c3]
      rw [if_pos (by omega)] at hf
      subst hf
      have B1 : ∀ (g q : Int) (C : Nat → Int32), stW (fmP fm (zRay row 0 (row fm % 2) g q 1 fm)) C (al1 row (fm : Int) g q C) := fun g q C => al1_st hB hfm h0 C
      unfold leF
      have q1 := stW_tr (B1 (-2) (-1) C) (B1 (-2) 1 _) (fun c => rfl)
      have q2 := stW_tr q1 (B1 (-1) (-2) _) (fun c => rfl)
      have q3 := stW_tr q2 (B1 (-1) 2 _) (fun c => rfl)
      have q4 := stW_tr q3 (B1 1 (-2) _) (fun c => rfl)
      have q5 := stW_tr q4 (B1 1 2 _) (fun c => rfl)
      have q6 := stW_tr q5 (B1 2 (-1) _) (fun c => rfl)
      refine stW_tr q6 (B1 2 1 _) (fun c => ?_)
      unfold fmP
      rw [zLn_any (l := [(2, 1), (-2, 1), (2, -1), (-2, -1), (1, 2), (-1, 2), (1, -2), (-1, -2)]) (md := 0) (by unfold zDirs; rw [if_neg (by omega), if_neg (by omega), if_neg c2, if_pos (by omega)]) (by unfold zMode; rw [if_neg c2, if_neg (by omega)])]
      simp only [List.any_cons, List.any_nil, Bool.or_false]
      cases decide (c / 36 = fm)
      · rfl
      · simp only [Bool.true_and]
        ac_rfl
  · rw [if_neg c2]
    rw [if_neg (by omega)] at hf
    subst hf
    refine stW_c (alg_st (f := 0) (r := ah) (em := 1) (md := 1) hB (Or.inr ⟨rfl, rfl⟩) hfm h0 mo.toNat fm C hfm) (fun c => ?_)
    unfold fmP
    rw [zLn_any (l := [(0, ah)]) (md := 1) (by unfold zDirs; rw [if_neg (by omega), if_neg (by omega), if_pos (by omega), ha]) (by unfold zMode; rw [if_pos (by omega)])]
    simp only [List.any_cons, List.any_nil, Bool.or_false]
/-- the KINDs as the reference keeps them in WORLD: leaps and bites are one step -/
def kdR (K : Nat → Nat × (Nat → Int × Nat)) (W : Nat → Int32) : Prop := ∀ k, k < 5 → (W (49 + 14 * k + 1)).toInt = ((K k).1 : Int) ∧ (K k).1 ≤ 6 ∧ ∀ n, n < (K k).1 → (W (49 + 14 * k + 2 + 2 * n)).toInt = ((K k).2 n).1 ∧ (0 ≤ ((K k).2 n).1 ∧ ((K k).2 n).1 ≤ 4) ∧ ((K k).2 n).2 = if ((K k).2 n).1 = 3 ∨ ((K k).2 n).1 = 4 then 1 else (W (49 + 14 * k + 3 + 2 * n)).toInt.toNat
theorem lines_st {W : Nat → Int32} {K : Nat → Nat × (Nat → Int × Nat)} {k : Nat} {ah : Int} (hK : kdR K W) (hk : k < 5) (hB : rwB row) (hfm : fm < 36) (h0 : 0 ≤ row fm) (ha : ah = 1 - 2 * (row fm % 2)) : ∀ (m n : Nat) (C0 C : Nat → Int32), n + m = (K k).1 → stW (fmP fm (zLns row (row fm % 2) (K k).2 n fm)) C0 C → stW (fmP fm (zLns row (row fm % 2) (K k).2 (K k).1 fm)) C0 (linesF W row (fm : Int) ah (49 + 14 * k) m n C) := by
  intro m
  induction m with
  | zero =>
    intro n C0 C hn h
    rw [Nat.add_zero] at hn
    rw [← hn]
    exact h
  | succ m ih =>
    intro n C0 C hn h
    obtain ⟨k1, k2, k3⟩ := hK k hk
    obtain ⟨e1, e2, e3⟩ := k3 n (by omega)
    refine ih (n + 1) C0 _ (by omega) (stW_tr h (line_st (far := ((K k).2 n).2) hB hfm h0 (by rw [e1]; exact e2) ha (by rw [e1]; exact e3) C) (fmP_or (fun t => ?_)))
    rw [e1]
    rfl
theorem go_st {W : Nat → Int32} {K : Nat → Nat × (Nat → Int × Nat)} (hK : kdR K W) (hB : rwB row) (hfm : fm < 36) (h0 : 0 ≤ row fm) (C : Nat → Int32) : stW (fmP fm (zGo row K (row fm % 2) fm)) C (goF W row (fm : Int) C) := by
  have hb := hB fm
  have hk : (row fm / 2).toNat < 5 := by omega
  obtain ⟨k1, k2, k3⟩ := hK _ hk
  unfold goF
  rw [Int.toNat_natCast, show (49 + 14 * (row fm / 2)).toNat = 49 + 14 * (row fm / 2).toNat by omega, k1, Int.toNat_natCast, sdI_m h0 hb.2]
  have ha : (if row fm % 2 ≠ 0 then (-1 : Int) else 1) = 1 - 2 * (row fm % 2) := by
    split <;> omega
  refine stW_c (lines_st hK hk hB hfm h0 ha (K (row fm / 2).toNat).1 0 C C (by omega) (stW_0 (fmP_no (fun _ => rfl)))) (fun c => ?_)
  unfold fmP zGo
  rw [decide_eq_true h0, decide_eq_true (p := row fm % 2 = row fm % 2) rfl, Bool.true_and, Bool.true_and]
theorem fd_st {W : Nat → Int32} {K : Nat → Nat × (Nat → Int × Nat)} {sd : Int} (hK : kdR K W) (hB : rwB row) (hfm : fm < 36) (C : Nat → Int32) : stW (fmP fm (zGo row K sd fm)) C (fdS W row sd fm C) := by
  have hb := hB fm
  unfold fdS
  by_cases c1 : row fm < 0
  · rw [if_pos c1]
    refine stW_0 (fmP_no (fun t => ?_))
    unfold zGo
    rw [decide_eq_false (p := 0 ≤ row fm) (by omega), Bool.false_and]
  · rw [if_neg c1, sdI_m (by omega) hb.2]
    by_cases c2 : row fm % 2 = sd
    · rw [if_neg (fun h => h c2)]
      subst c2
      exact go_st hK hB hfm (by omega) C
    · rw [if_pos c2]
      refine stW_0 (fmP_no (fun t => ?_))
      unfold zGo
      rw [decide_eq_false (p := row fm % 2 = sd) c2, Bool.false_and, Bool.and_false]
end
theorem find_st {W : Nat → Int32} {row : Nat → Int} {K : Nat → Nat × (Nat → Int × Nat)} {sd : Int} (hK : kdR K W) (hB : rwB row) : ∀ (m s : Nat) (C0 C : Nat → Int32), s + m = 36 → stW (fun c => decide (c / 36 < s) && zMv row K sd c) C0 C → stW (fun c => decide (c / 36 < 36) && zMv row K sd c) C0 (findF W row sd m s C) := by
  intro m
  induction m with
  | zero =>
    intro s C0 C hs h
    rw [Nat.add_zero] at hs
    subst hs
    exact h
  | succ m ih =>
    intro s C0 C hs h
    refine ih (s + 1) C0 _ (by omega) (stW_tr h (fd_st (fm := s) hK hB (by omega) C) (fun c => ?_))
    show (decide (c / 36 < s + 1) && zMv row K sd c) = ((decide (c / 36 < s) && zMv row K sd c) || fmP s (zGo row K sd s) c)
    unfold fmP zMv
    by_cases e : c / 36 = s
    · rw [e]
      cases zGo row K sd s (c % 36) <;> simp
    · rw [decide_eq_false (p := c / 36 = s) e, Bool.false_and, Bool.or_false]
      by_cases e2 : c / 36 < s
      · rw [decide_eq_true e2, decide_eq_true (p := c / 36 < s + 1) (by omega)]
      · rw [decide_eq_false e2, decide_eq_false (p := c / 36 < s + 1) (by omega)]
/-- what finds leaves in a row -/
theorem finds_is {W : Nat → Int32} {row : Nat → Int} {K : Nat → Nat × (Nat → Int × Nat)} {sd : Int} (hK : kdR K W) (hB : rwB row) {c : Nat} (hc : c < 1296) : findF W row sd 36 0 (fun _ => 0) c = if zMv row K sd c = true then zI 1 else 0 := by
  have h0 : stW (fun c => decide (c / 36 < 0) && zMv row K sd c) (fun _ => (0 : Int32)) (fun _ => 0) := stW_0 (fun c => by
    show (decide (c / 36 < 0) && zMv row K sd c) = false
    rw [decide_eq_false (p := c / 36 < 0) (by omega), Bool.false_and])
  have h : findF W row sd 36 0 (fun _ => 0) c = if (decide (c / 36 < 36) && zMv row K sd c) = true then zI 1 else 0 := find_st (sd := sd) hK hB 36 0 (fun _ => 0) (fun _ => 0) (by omega) h0 c
  rw [h, decide_eq_true (p := c / 36 < 36) (by omega), Bool.true_and]
