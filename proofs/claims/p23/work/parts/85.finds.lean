/-! finds, begins, makes, manyAt of an empty row -/
def fdS (W : Nat → Int32) (row : Nat → Int) (sd : Int) (s : Nat) (C : Nat → Int32) : Nat → Int32 := if row s < 0 then C else if sdI (row s) ≠ sd then C else goF W row (s : Int) C
def findF (W : Nat → Int32) (row : Nat → Int) (sd : Int) : Nat → Nat → (Nat → Int32) → Nat → Int32
  | 0, _, C => C
  | m + 1, s, C => findF W row sd m (s + 1) (fdS W row sd s C)
def findsP (dp sd : Int) (es es' : PH) : Prop := canP dp.toNat (findF (gA es 80) (brow es dp.toNat) sd 36 0 (fun _ => 0)) es es'
section
variable {O : pOut} {d kc ks : Nat} {Q : pRes → Prop} {dp sd : Int} {es : PH}
theorem finds_loop2 (hd : 0 ≤ dp ∧ dp ≤ 30) (h1 : 0 ≤ sd ∧ sd ≤ 1) (hs : sh es) (hT : hOK tT es) :
    ∀ (m s : Nat) (es1 : PH) (g : Nat → Int32), s + m = 36 → canP dp.toNat g es es1 →
      (∀ es', canP dp.toNat (findF (gA es 80) (brow es dp.toNat) sd m s g) es es' → Q (.inl none, es', kc, ks)) →
      aW O (d + 5) 218 kc ks Q (30, [some (.ref 143), some (.int (zI dp)), some (.int (zI sd)), some (.int (zI (s : Int)))], [], es1) := by
  intro m
  induction m with
  | zero =>
    intro s es1 g hn hp K
    refine s_finds30 (s := (s : Int)) hp.1 hd h1 ⟨by omega, by omega⟩ (hp.2.1 hT) (fun _ => K es1 hp) ?_ ?_ ?_ <;> (intro h; omega)
  | succ m ih =>
    intro s es1 g hn hp K
    have hrow : (gA es1 87 ((36 * dp) + (s : Int)).toNat).toInt = brow es dp.toNat s := by
      rw [brow_at (es := es1) (D := dp.toNat) hd.1 rfl (by omega) (by omega), canP_brow hs hp, Int.toNat_natCast]
    refine s_finds30 (s := (s : Int)) hp.1 hd h1 ⟨by omega, by omega⟩ (hp.2.1 hT) (fun h => by omega) (fun _ v2 hv2 hn2 => ?_) (fun _ v2 hv2 hn2 v4 hv4 v5 hv5 hn5 => ?_) (fun _ v2 hv2 hn2 v4 hv4 v5 hv5 hn5 es7 p7 => ?_)
    · rw [hrow] at hv2
      refine ih (s + 1) es1 g (by omega) hp (fun es' hp' => K es' ?_)
      have e1 : fdS (gA es 80) (brow es dp.toNat) sd s g = g := by unfold fdS; rw [← hv2, if_pos hn2]
      rw [findF, e1]
      exact hp'
    · rw [hrow] at hv2 hv4
      refine ih (s + 1) es1 g (by omega) hp (fun es' hp' => K es' ?_)
      have e1 : fdS (gA es 80) (brow es dp.toNat) sd s g = g := by
        unfold fdS
        rw [← hv2, if_neg hn2, if_pos (by unfold sdI; rw [hv2, ← hv4, ← hv5]; exact hn5)]
      rw [findF, e1]
      exact hp'
    · rw [hrow] at hv2 hv4
      have hp7 := canP_next (F := fun row C => goF (gA es 80) row (s : Int) C) hs hp (by rw [← canP_world hs hp]; exact p7)
      refine ih (s + 1) es7 _ (by omega) hp7 (fun es' hp' => K es' ?_)
      have e1 : fdS (gA es 80) (brow es dp.toNat) sd s g = goF (gA es 80) (brow es dp.toNat) (s : Int) g := by
        unfold fdS
        rw [← hv2, if_neg hn2, if_neg (by unfold sdI; rw [hv2, ← hv4, ← hv5]; exact hn5)]
      rw [findF, e1]
      exact hp'
/-- the row is cleared -/
theorem finds_loop1 (hd : 0 ≤ dp ∧ dp ≤ 30) (hs : sh es) :
    ∀ (m : Nat) (c : Int) (es1 : PH), c + m = 1296 → 0 ≤ c → sh es1 → (hOK tT es → hOK tT es1) → fr [(88, 0, 1296 * dp.toNat, 1296 * (dp.toNat + 1))] es es1 → (∀ i : Nat, (i : Int) < c → gA es1 88 (1296 * dp.toNat + i) = 0) →
      (∀ es', canP dp.toNat (fun _ => 0) es es' → aW O d 218 kc ks Q (30, [some (.ref 143), some (.int (zI dp)), some (.int (zI sd)), some (.int (zI 0))], [], es')) →
      aW O d 218 kc ks Q (2, [some (.ref 143), some (.int (zI dp)), some (.int (zI sd)), some (.int (zI c))], [], es1) := by
  intro m
  induction m with
  | zero =>
    intro c es1 hc h0 hs1 hT1 hf1 hz K
    refine s_finds2 hs1 hd ⟨h0, by omega⟩ (fun _ => K es1 ⟨hs1, hT1, hf1, ?_⟩) (fun h => by omega)
    funext i
    unfold crow
    split
    · exact hz i (by omega)
    · rfl
  | succ m ih =>
    intro c es1 hc h0 hs1 hT1 hf1 hz K
    refine s_finds2 hs1 hd ⟨h0, by omega⟩ (fun h => by omega) (fun _ es2 he2 => ?_)
    have e1 : ((1296 * dp) + c).toNat = 1296 * dp.toNat + c.toNat := by omega
    rw [e1] at he2
    refine ih (c + 1) es2 (by omega) (by omega) (by rw [he2]; exact sh_sA hs1) (fun h => ?_) ?_ (fun i hi => ?_) K
    · rw [he2]
      exact hOK_sA (hT1 h) (p := 88) (t := 3) (n := 40176) rfl (fun _ => by rw [zI_toInt (by unfold i32 iLO iHI; omega)]; exact ⟨by show (0 : Int) ≤ 0; omega, by show (0 : Int) ≤ 1; omega⟩)
    · rw [he2]
      exact fr_trans hf1 (fr_sA (mIn_of (lo := 1296 * dp.toNat) (hi := 1296 * (dp.toNat + 1)) List.mem_cons_self (by omega) (by omega)))
    · rw [he2, gA_sA hs1 (p := 88) (t := 3) (n := 40176) rfl (by decide)]
      unfold upd
      split
      · rfl
      · exact hz i (by omega)
theorem finds_spec (hs : sh es) (hd : 0 ≤ dp ∧ dp ≤ 30) (h1 : 0 ≤ sd ∧ sd ≤ 1) (hT : hOK tT es) (K : ∀ es', findsP dp sd es es' → Q (.inl none, es', kc, ks)) :
    aW O (d + 5) 218 kc ks Q (0, [some (.ref 143), some (.int (zI dp)), some (.int (zI sd)), none], [], es) := by
  refine s_finds0 (d := d + 5) hs hd ?_
  refine finds_loop1 (es := es) hd hs 1296 0 es (by omega) (by omega) hs (fun h => h) (fr_refl _ _) (fun i hi => by omega) (fun es1 hp => ?_)
  exact finds_loop2 (es := es) hd h1 hs hT 36 0 es1 _ rfl hp (fun es' hp' => K es' hp')
/-- without a man there is no move -/
theorem findF_none {W : Nat → Int32} {row : Nat → Int} (h : ∀ s, s < 36 → row s < 0) : ∀ (m s : Nat) (C : Nat → Int32), s + m ≤ 36 → findF W row sd m s C = C
  | 0, _, _, _ => rfl
  | m + 1, s, C, hm => by
    have e1 : fdS W row sd s C = C := by unfold fdS; rw [if_pos (h s (by omega))]
    rw [findF, e1]
    exact findF_none h m (s + 1) C (by omega)
theorem many_zero (hd : 0 ≤ dp ∧ dp ≤ 30) (hs : sh es) (hz : crow es dp.toNat = fun _ => 0) (K : Q (.inl (some (.int (zI 0))), es, kc, ks)) :
    ∀ (m : Nat) (c : Int), c + m = 1296 → 0 ≤ c → aW O d 227 kc ks Q (4, [some (.ref 143), some (.int (zI dp)), some (.int (zI 0)), some (.int (zI c))], [], es) := by
  intro m
  induction m with
  | zero =>
    intro c hc h0
    exact s_many4 (n := 0) hs hd ⟨h0, by omega⟩ ⟨by omega, by omega⟩ (fun _ => K) (fun h => by omega) (fun h => by omega)
  | succ m ih =>
    intro c hc h0
    have hv0 : (gA es 88 ((1296 * dp) + c).toNat).toInt = 0 := by
      have h1 := congrFun hz c.toNat
      unfold crow at h1
      rw [if_pos (by omega)] at h1
      rw [show ((1296 * dp) + c).toNat = 1296 * dp.toNat + c.toNat by omega, h1]
      rfl
    refine s_many4 (n := 0) hs hd ⟨h0, by omega⟩ ⟨by omega, by omega⟩ (fun h => by omega) (fun _ v hv hn => ?_) (fun _ v hv hn => ?_)
    · exact ih (c + 1) (by omega) (by omega)
    · exact absurd (hv.trans hv0) hn
theorem many_zero_spec (hd : 0 ≤ dp ∧ dp ≤ 30) (hs : sh es) (hz : crow es dp.toNat = fun _ => 0) (K : Q (.inl (some (.int (zI 0))), es, kc, ks)) :
    aW O d 227 kc ks Q (0, [some (.ref 143), some (.int (zI dp)), none, none], [], es) :=
  s_many0 hs hd (many_zero hd hs hz K 1296 0 (by omega) (by omega))
/-- begins -/
def beginsP (es es' : PH) : Prop := sh es' ∧ (hOK tT es → hOK tT es') ∧ fr [(87, 0, 0, 36)] es es' ∧ ∀ i, i < 36 → gA es' 87 i = gA es 80 (13 + i)
theorem begins_loop (hs : sh es) : ∀ (m : Nat) (k : Int) (es1 : PH), k + m = 36 → 0 ≤ k → sh es1 → (hOK tT es → hOK tT es1) → fr [(87, 0, 0, 36)] es es1 → (∀ i : Nat, (i : Int) < k → gA es1 87 i = gA es 80 (13 + i)) →
    (∀ es', beginsP es es' → Q (.inl none, es', kc, ks)) → aW O d 217 kc ks Q (2, [some (.ref 143), some (.int (zI k))], [], es1) := by
  intro m
  induction m with
  | zero =>
    intro k es1 hk h0 hs1 hT1 hf1 hz K
    exact s_begins2 hs1 ⟨h0, by omega⟩ (fun _ => K es1 ⟨hs1, hT1, hf1, fun i hi => hz i (by omega)⟩) (fun h => by omega)
  | succ m ih =>
    intro k es1 hk h0 hs1 hT1 hf1 hz K
    refine s_begins2 hs1 ⟨h0, by omega⟩ (fun h => by omega) (fun _ v hv es3 he3 => ?_)
    have e1 : (13 + k).toNat = 13 + k.toNat := by omega
    have hW : gA es1 80 = gA es 80 := by
      funext i
      rw [fr_gA hf1 hs (p := 80) (t := 0) (n := 2125) (sp := tS80) rfl (by decide)]
      unfold mIn; simp
    have hzv : zI v = gA es 80 (13 + k.toNat) := by rw [hv, zI_id, hW, e1]
    rw [hzv] at he3
    refine ih (k + 1) es3 (by omega) (by omega) (by rw [he3]; exact sh_sA hs1) (fun h => ?_) ?_ (fun i hi => ?_) K
    · have hb := gA_bd h (p := 80) (t := 0) (n := 2125) (sp := tS80) (k := 13 + k.toNat) rfl (by omega) (by decide)
      rw [tS80_start _ (by omega)] at hb
      rw [he3]
      exact hOK_sA (hT1 h) (p := 87) (t := 0) (n := 1116) rfl (fun _ => hb)
    · rw [he3]
      exact fr_trans hf1 (fr_sA (mIn_of (lo := 0) (hi := 36) List.mem_cons_self (by omega) (by omega)))
    · rw [he3, gA_sA hs1 (p := 87) (t := 0) (n := 1116) rfl (by decide)]
      unfold upd
      split
      · rename_i hik; rw [hik]
      · exact hz i (by omega)
theorem begins_spec (hs : sh es) (K : ∀ es', beginsP es es' → Q (.inl none, es', kc, ks)) : aW O d 217 kc ks Q (0, [some (.ref 143), none], [], es) :=
  s_begins0 hs (begins_loop hs 36 0 es (by omega) (by omega) hs (fun h => h) (fr_refl _ _) (fun i hi => by omega) K)
/-- makes -/
def mkF (row : Nat → Int) (cd : Nat) : Nat → Int := fun s => if s = cd / 36 then -1 else if s = cd % 36 then row (cd / 36) else row s
def makesP (dp cd : Int) (es es' : PH) : Prop := sh es' ∧ (hOK tT es → hOK tT es') ∧ fr [(87, 0, 36 * (dp.toNat + 1), 36 * (dp.toNat + 2))] es es' ∧ ∀ s, s < 36 → brow es' (dp.toNat + 1) s = mkF (brow es dp.toNat) cd.toNat s
theorem makes_loop {cd : Int} (hs : sh es) (hd : 0 ≤ dp ∧ dp ≤ 29) (hc : 0 ≤ cd ∧ cd ≤ 1295) : ∀ (m : Nat) (k : Int) (es1 : PH), k + m = 36 → 0 ≤ k → sh es1 → (hOK tT es → hOK tT es1) → fr [(87, 0, 36 * (dp.toNat + 1), 36 * (dp.toNat + 2))] es es1 →
    (∀ i : Nat, (i : Int) < k → gA es1 87 (36 * (dp.toNat + 1) + i) = gA es 87 (36 * dp.toNat + i)) →
    (∀ es', makesP dp cd es es' → Q (.inl none, es', kc, ks)) → aW O (d + 1) 253 kc ks Q (2, [some (.ref 143), some (.int (zI dp)), some (.int (zI cd)), some (.int (zI k))], [], es1) := by
  intro m
  have old : ∀ es1, fr [(87, 0, 36 * (dp.toNat + 1), 36 * (dp.toNat + 2))] es es1 → ∀ i, i < 36 → gA es1 87 (36 * dp.toNat + i) = gA es 87 (36 * dp.toNat + i) := fun es1 hf i hi => by
    rw [fr_gA hf hs (p := 87) (t := 0) (n := 1116) rfl (by decide)]
    rw [← Bool.not_eq_true]
    intro hm
    unfold mIn at hm
    simp only [List.any_cons, List.any_nil, Bool.or_false, Bool.and_eq_true, beq_iff_eq, Nat.ble_eq, Nat.blt_eq] at hm
    omega
  have st : ∀ (es1 : PH) (i : Nat) (x : Int32), i < 36 → sh es1 → (hOK tT es → hOK tT es1) → fr [(87, 0, 36 * (dp.toNat + 1), 36 * (dp.toNat + 2))] es es1 → (hOK tT es → -1 ≤ x.toInt ∧ x.toInt ≤ 9) →
      sh (sA es1 87 (36 * (dp.toNat + 1) + i) x) ∧ (hOK tT es → hOK tT (sA es1 87 (36 * (dp.toNat + 1) + i) x)) ∧ fr [(87, 0, 36 * (dp.toNat + 1), 36 * (dp.toNat + 2))] es (sA es1 87 (36 * (dp.toNat + 1) + i) x) ∧ gA (sA es1 87 (36 * (dp.toNat + 1) + i) x) 87 = upd (gA es1 87) (36 * (dp.toNat + 1) + i) x := fun es1 i x hi hs1 hT1 hf1 hx =>
    ⟨sh_sA hs1, fun h => hOK_sA (hT1 h) (p := 87) (t := 0) (n := 1116) rfl (fun _ => hx h), fr_trans hf1 (fr_sA (mIn_of (lo := 36 * (dp.toNat + 1)) (hi := 36 * (dp.toNat + 2)) List.mem_cons_self (by omega) (by omega))), gA_sA hs1 (p := 87) (t := 0) (n := 1116) rfl (by decide)⟩
  have bd : ∀ i, i < 36 → hOK tT es → -1 ≤ (gA es 87 (36 * dp.toNat + i)).toInt ∧ (gA es 87 (36 * dp.toNat + i)).toInt ≤ 9 := fun i hi h => gA_bd h (p := 87) (t := 0) (n := 1116) (k := 36 * dp.toNat + i) rfl (by omega) (by decide)
  induction m with
  | zero =>
    intro k es1 hk h0 hs1 hT1 hf1 hz K
    refine s_makes2 hs1 hd hc ⟨h0, by omega⟩ (fun _ v hv es3 he3 es4 he4 => ?_) (fun h => by omega)
    have e1 : ((36 * dp) + (cd / 36)).toNat = 36 * dp.toNat + (cd / 36).toNat := by omega
    have e2 : ((36 * (dp + 1)) + (cd % 36)).toNat = 36 * (dp.toNat + 1) + (cd % 36).toNat := by omega
    have e3 : ((36 * (dp + 1)) + (cd / 36)).toNat = 36 * (dp.toNat + 1) + (cd / 36).toNat := by omega
    have e4 : (cd / 36).toNat = cd.toNat / 36 := by omega
    have e5 : (cd % 36).toNat = cd.toNat % 36 := by omega
    rw [e1, e4, old es1 hf1 _ (by omega)] at hv
    rw [e2, e5] at he3
    rw [e3, e4] at he4
    have hzv : zI v = gA es 87 (36 * dp.toNat + cd.toNat / 36) := by rw [hv, zI_id]
    rw [hzv] at he3
    obtain ⟨a1, a2, a3, a4⟩ := st es1 (cd.toNat % 36) (gA es 87 (36 * dp.toNat + cd.toNat / 36)) (by omega) hs1 hT1 hf1 (bd _ (by omega))
    rw [← he3] at a1 a2 a3 a4
    obtain ⟨b1, b2, b3, b4⟩ := st es3 (cd.toNat / 36) (zI (-1)) (by omega) a1 a2 a3 (fun _ => by rw [zI_toInt (by unfold i32 iLO iHI; omega)]; omega)
    rw [← he4] at b1 b2 b3 b4
    refine K es4 ⟨b1, b2, b3, fun s hs36 => ?_⟩
    unfold brow mkF
    rw [if_pos hs36, b4, a4]
    unfold upd
    by_cases c1 : s = cd.toNat / 36
    · rw [if_pos (by omega), if_pos c1]; rfl
    · rw [if_neg (by omega), if_neg c1]
      by_cases c2 : s = cd.toNat % 36
      · rw [if_pos (by omega), if_pos c2]
        simp only
        rw [if_pos (by omega)]
      · rw [if_neg (by omega), if_neg c2]
        simp only
        rw [if_pos hs36, hz s (by omega)]
  | succ m ih =>
    intro k es1 hk h0 hs1 hT1 hf1 hz K
    refine s_makes2 hs1 hd hc ⟨h0, by omega⟩ (fun h => by omega) (fun _ v hv es6 he6 => ?_)
    have e1 : ((36 * dp) + k).toNat = 36 * dp.toNat + k.toNat := by omega
    have e2 : ((36 * (dp + 1)) + k).toNat = 36 * (dp.toNat + 1) + k.toNat := by omega
    rw [e1, old es1 hf1 _ (by omega)] at hv
    rw [e2] at he6
    have hzv : zI v = gA es 87 (36 * dp.toNat + k.toNat) := by rw [hv, zI_id]
    rw [hzv] at he6
    obtain ⟨a1, a2, a3, a4⟩ := st es1 k.toNat (gA es 87 (36 * dp.toNat + k.toNat)) (by omega) hs1 hT1 hf1 (bd _ (by omega))
    rw [← he6] at a1 a2 a3 a4
    refine ih (k + 1) es6 (by omega) (by omega) a1 a2 a3 (fun i hi => ?_) K
    rw [a4]
    unfold upd
    split
    · rename_i hik
      rw [show i = k.toNat by omega]
    · exact hz i (by omega)
theorem makes_spec {cd : Int} (hs : sh es) (hd : 0 ≤ dp ∧ dp ≤ 29) (hc : 0 ≤ cd ∧ cd ≤ 1295) (K : ∀ es', makesP dp cd es es' → Q (.inl none, es', kc, ks)) : aW O (d + 1) 253 kc ks Q (0, [some (.ref 143), some (.int (zI dp)), some (.int (zI cd)), none], [], es) :=
  s_makes0 hs (makes_loop hs hd hc 36 0 es (by omega) (by omega) hs (fun h => h) (fr_refl _ _) (fun i hi => by omega) K)
end
