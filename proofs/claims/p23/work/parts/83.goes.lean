/-! goes -/
def alN (row : Nat → Int) (fm f r em mo : Int) (C : Nat → Int32) : Nat → Int32 := algF row fm f r em mo.toNat fm C
def lineF (row : Nat → Int) (fm ah so mo : Int) (C : Nat → Int32) : Nat → Int32 :=
  if so ≠ 2 then if so ≠ 3 then if so ≠ 4 then if so ≠ 0 then if so ≠ 1 then C
    else alN row fm 1 1 0 mo (alN row fm 1 (-1) 0 mo (alN row fm (-1) 1 0 mo (alN row fm (-1) (-1) 0 mo C)))
    else alN row fm 0 1 0 mo (alN row fm 1 0 0 mo (alN row fm 0 (-1) 0 mo (alN row fm (-1) 0 0 mo C)))
    else biS row fm ah 1 (biS row fm ah (-1) C)
    else leF row fm C
    else alN row fm 0 ah 1 mo C
def linesF (W : Nat → Int32) (row : Nat → Int) (fm ah : Int) (k : Nat) : Nat → Nat → (Nat → Int32) → Nat → Int32
  | 0, _, C => C
  | m + 1, n, C => linesF W row fm ah k m (n + 1) (lineF row fm ah (W (k + 2 + 2 * n)).toInt (W (k + 3 + 2 * n)).toInt C)
def goF (W : Nat → Int32) (row : Nat → Int) (fm : Int) (C : Nat → Int32) : Nat → Int32 :=
  linesF W row fm (if sdI (row fm.toNat) ≠ 0 then -1 else 1) (49 + 14 * (row fm.toNat / 2)).toNat (W ((49 + 14 * (row fm.toNat / 2)).toNat + 1)).toInt.toNat 0 C
def goesP (dp fm : Int) (es es' : PH) : Prop := canP dp.toNat (goF (gA es 80) (brow es dp.toNat) fm (crow es dp.toNat)) es es'
theorem tS80_kn : ∀ q, q < 5 → tS80 (49 + 14 * q + 1) = (0, 6) := by decide +kernel
section
variable {O : pOut} {d kc ks : Nat} {Q : pRes → Prop} {dp fm ah mn k : Int} {es : PH}
theorem goes_loop (hd : 0 ≤ dp ∧ dp ≤ 30) (hf : 0 ≤ fm ∧ fm ≤ 35) (h1 : -1 ≤ ah ∧ ah ≤ 1) (h2 : 49 ≤ k ∧ k ≤ 105) (hs : sh es) (h4 : 0 ≤ (gA es 80 (k.toNat + 1)).toInt ∧ (gA es 80 (k.toNat + 1)).toInt ≤ 6) :
    ∀ (m n : Nat) (es1 : PH) (g : Nat → Int32) (x7 x8 x9 x10 : Option Value), n + m = (gA es 80 (k.toNat + 1)).toInt.toNat → canP dp.toNat g es es1 →
      (∀ es', canP dp.toNat (linesF (gA es 80) (brow es dp.toNat) fm ah k.toNat m n g) es es' → Q (.inl none, es', kc, ks)) →
      aW O (d + 4) 221 kc ks Q (35, [some (.ref 143), some (.int (zI dp)), some (.int (zI fm)), some (.int (zI mn)), some (.int (zI ah)), some (.int (zI k)), some (.int (zI (n : Int))), x7, x8, x9, x10], [], es1) := by
  intro m
  induction m with
  | zero =>
    intro n es1 g x7 x8 x9 x10 hn hp K
    have hW := canP_world hs hp
    have e1 : (k + 1).toNat = k.toNat + 1 := by omega
    refine s_goes35 (n := (n : Int)) hp.1 hd hf h1 h2 ⟨by omega, by omega⟩ (by rw [hW, e1]; exact h4.2) (fun v1 hv hv1 => K es1 hp) ?_ ?_ ?_ ?_ ?_ ?_
    all_goals
      intro v1 hv hv1
      rw [hW, e1] at hv
      exact absurd hv1 (by omega)
  | succ m ih =>
    intro n es1 g x7 x8 x9 x10 hn hp K
    have hW := canP_world hs hp
    have e1 : (k + 1).toNat = k.toNat + 1 := by omega
    have e2 : ((k + 2) + (2 * (n : Int))).toNat = k.toNat + 2 + 2 * n := by omega
    have e3 : ((k + 3) + (2 * (n : Int))).toNat = k.toNat + 3 + 2 * n := by omega
    have go : ∀ (so mo : Int) (es2 : PH) (y7 y8 y9 y10 : Option Value), so = (gA es 80 (k.toNat + 2 + 2 * n)).toInt → mo = (gA es 80 (k.toNat + 3 + 2 * n)).toInt → canP dp.toNat (lineF (brow es dp.toNat) fm ah so mo g) es es2 →
        aW O (d + 4) 221 kc ks Q (35, [some (.ref 143), some (.int (zI dp)), some (.int (zI fm)), some (.int (zI mn)), some (.int (zI ah)), some (.int (zI k)), some (.int (zI ((n : Int) + 1))), y7, y8, y9, y10], [], es2) := by
      intro so mo es2 y7 y8 y9 y10 hso hmo hp2
      subst hso hmo
      exact ih (n + 1) es2 _ y7 y8 y9 y10 (by omega) hp2 (fun es' hp' => K es' hp')
    refine s_goes35 (n := (n : Int)) hp.1 hd hf h1 h2 ⟨by omega, by omega⟩ (by rw [hW, e1]; exact h4.2) ?_ ?_ ?_ ?_ ?_ ?_ ?_
    · intro v1 hv hv1
      rw [hW, e1] at hv
      exact absurd hv1 (by omega)
    · intro v1 hv hv1 v3 hv3 v4 hv4 c2 c3 c4 c0 c1
      rw [hW, e2] at hv3
      rw [hW, e3] at hv4
      refine go v3 v4 es1 _ _ _ _ hv3 hv4 ?_
      unfold lineF
      rw [if_pos c2, if_pos c3, if_pos c4, if_pos c0, if_pos c1]
      exact hp
    · intro v1 hv hv1 v3 hv3 v4 hv4 c2 c3 c4 c0 c1 es10 p10 es11 p11 es12 p12 es13 p13
      rw [hW, e2] at hv3
      rw [hW, e3] at hv4
      refine go v3 v4 es13 _ _ _ _ hv3 hv4 ?_
      unfold lineF
      rw [if_pos c2, if_pos c3, if_pos c4, if_pos c0, if_neg c1]
      have q1 := canP_next (F := fun row C => alN row fm (-1) (-1) 0 v4 C) hs hp p10
      have q2 := canP_next (F := fun row C => alN row fm (-1) 1 0 v4 C) hs q1 p11
      have q3 := canP_next (F := fun row C => alN row fm 1 (-1) 0 v4 C) hs q2 p12
      exact canP_next (F := fun row C => alN row fm 1 1 0 v4 C) hs q3 p13
    · intro v1 hv hv1 v3 hv3 v4 hv4 c2 c3 c4 c0 es10 p10 es11 p11 es12 p12 es13 p13
      rw [hW, e2] at hv3
      rw [hW, e3] at hv4
      refine go v3 v4 es13 _ _ _ _ hv3 hv4 ?_
      unfold lineF
      rw [if_pos c2, if_pos c3, if_pos c4, if_neg c0]
      have q1 := canP_next (F := fun row C => alN row fm (-1) 0 0 v4 C) hs hp p10
      have q2 := canP_next (F := fun row C => alN row fm 0 (-1) 0 v4 C) hs q1 p11
      have q3 := canP_next (F := fun row C => alN row fm 1 0 0 v4 C) hs q2 p12
      exact canP_next (F := fun row C => alN row fm 0 1 0 v4 C) hs q3 p13
    · intro v1 hv hv1 v3 hv3 v4 hv4 c2 c3 c4 es10 p10
      rw [hW, e2] at hv3
      rw [hW, e3] at hv4
      refine go v3 v4 es10 _ _ _ _ hv3 hv4 ?_
      unfold lineF
      rw [if_pos c2, if_pos c3, if_neg c4]
      exact canP_next (F := fun row C => biS row fm ah 1 (biS row fm ah (-1) C)) hs hp p10
    · intro v1 hv hv1 v3 hv3 v4 hv4 c2 c3 es10 p10
      rw [hW, e2] at hv3
      rw [hW, e3] at hv4
      refine go v3 v4 es10 _ _ _ _ hv3 hv4 ?_
      unfold lineF
      rw [if_pos c2, if_neg c3]
      exact canP_next (F := fun row C => leF row fm C) hs hp p10
    · intro v1 hv hv1 v3 hv3 v4 hv4 c2 es10 p10
      rw [hW, e2] at hv3
      rw [hW, e3] at hv4
      refine go v3 v4 es10 _ _ _ _ hv3 hv4 ?_
      unfold lineF
      rw [if_neg c2]
      exact canP_next (F := fun row C => alN row fm 0 ah 1 v4 C) hs hp p10
theorem goes_spec (hs : sh es) (hd : 0 ≤ dp ∧ dp ≤ 30) (hf : 0 ≤ fm ∧ fm ≤ 35) (hT : hOK tT es) (h9 : 0 ≤ (gA es 87 ((36 * dp) + fm).toNat).toInt) (K : ∀ es', goesP dp fm es es' → Q (.inl none, es', kc, ks)) :
    aW O (d + 4) 221 kc ks Q (0, [some (.ref 143), some (.int (zI dp)), some (.int (zI fm)), none, none, none, none, none, none, none, none], [], es) := by
  have hb := gA_bd hT (p := 87) (t := 0) (n := 1116) (k := ((36 * dp) + fm).toNat) rfl (by omega) (by decide)
  have hb2 : (gA es 87 ((36 * dp) + fm).toNat).toInt ≤ 9 := hb.2
  have hrow := brow_at (es := es) (D := dp.toNat) hd.1 rfl hf.1 hf.2
  obtain ⟨v, hv⟩ : ∃ z : Int, z = (gA es 87 ((36 * dp) + fm).toNat).toInt := ⟨_, rfl⟩
  rw [← hv] at hb2 h9 hrow
  have hkn : (49 + 14 * (v / 2)).toNat + 1 = 49 + 14 * (v / 2).toNat + 1 := by omega
  have hw := gA_bd hT (p := 80) (t := 0) (n := 2125) (sp := tS80) (k := 49 + 14 * (v / 2).toNat + 1) rfl (by omega) (by decide)
  rw [tS80_kn _ (by omega)] at hw
  rw [← hkn] at hw
  refine s_goes0 (d := d + 3) hs hd hf hT (by rw [← hv]; exact h9) (fun v1 hv1 v2 hv2 hn => ?_) (fun v1 hv1 v2 hv2 hn => ?_)
  · rw [← hv] at hv1
    subst hv1
    refine goes_loop (d := d) (es := es) (k := 49 + 14 * (v1 / 2)) (ah := -1) hd hf (by omega) (by omega) hs hw _ 0 es (crow es dp.toNat) none none none none (Nat.zero_add _) (canP_refl hs) (fun es' hp => K es' ?_)
    unfold goesP goF
    rw [← hrow, if_pos (show sdI v1 ≠ 0 by unfold sdI; rw [← hv2]; exact hn)]
    exact hp
  · rw [← hv] at hv1
    subst hv1
    refine goes_loop (d := d) (es := es) (k := 49 + 14 * (v1 / 2)) (ah := 1) hd hf (by omega) (by omega) hs hw _ 0 es (crow es dp.toNat) none none none none (Nat.zero_add _) (canP_refl hs) (fun es' hp => K es' ?_)
    unfold goesP goF
    rw [← hrow, if_neg (show ¬ sdI v1 ≠ 0 by unfold sdI; rw [← hv2]; exact hn)]
    exact hp
end
