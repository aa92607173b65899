/-! THE REFERENCE'S MOVES: rows of the board, rows of what can be done -/
def brow (es : PH) (D : Nat) : Nat → Int := fun i => if i < 36 then (gA es 87 (36 * D + i)).toInt else 0
def crow (es : PH) (D : Nat) : Nat → Int32 := fun c => if c < 1296 then gA es 88 (1296 * D + c) else 0
def offI (s f r : Int) : Int := if s % 6 + f < 0 then -1 else if 5 < s % 6 + f then -1 else if s / 6 + r < 0 then -1 else if 5 < s / 6 + r then -1 else 6 * (s / 6 + r) + (s % 6 + f)
def sdI (m : Int) : Int := (zI m &&& zI 1).toInt
/-- along: so many steps are left, at s -/
def algF (row : Nat → Int) (fm f r em : Int) : Nat → Int → (Nat → Int32) → Nat → Int32
  | 0, _, C => C
  | n + 1, s, C => if offI s f r < 0 then C else
    if row (offI s f r).toNat < 0 then algF row fm f r em n (offI s f r) (upd C (36 * fm + offI s f r).toNat (zI 1)) else
    if em ≠ 0 then C else if sdI (row (offI s f r).toNat) = sdI (row fm.toNat) then C else upd C (36 * fm + offI s f r).toNat (zI 1)
/-- only the row D of what can be done has changed -/
def canP (D : Nat) (g : Nat → Int32) (es es' : PH) : Prop := sh es' ∧ (hOK tT es → hOK tT es') ∧ fr [(88, 0, 1296 * D, 1296 * (D + 1))] es es' ∧ crow es' D = g
theorem canP_refl {D : Nat} {es : PH} (hs : sh es) : canP D (crow es D) es es := ⟨hs, fun h => h, fr_refl _ _, rfl⟩
theorem canP_trans {D : Nat} {g g' : Nat → Int32} {a b c : PH} (h1 : canP D g a b) (h2 : canP D g' b c) : canP D g' a c := ⟨h2.1, fun h => h2.2.1 (h1.2.1 h), fr_trans h1.2.2.1 h2.2.2.1, h2.2.2.2⟩
theorem canP_may {D : Nat} {es : PH} (hs : sh es) {i : Nat} (hi : i < 1296) {k : Nat} (hk : k = 1296 * D + i) : canP D (upd (crow es D) i (zI 1)) es (sA es 88 k (zI 1)) := by
  refine ⟨sh_sA hs, fun h => hOK_sA h (p := 88) (t := 3) (n := 40176) rfl (fun _ => by rw [zI_toInt (by unfold i32 iLO iHI; omega)]; exact ⟨by show (0 : Int) ≤ 1; omega, by show (1 : Int) ≤ 1; omega⟩), fr_sA (mIn_of (lo := 1296 * D) (hi := 1296 * (D + 1)) List.mem_cons_self (by omega) (by omega)), ?_⟩
  funext c
  unfold crow
  rw [gA_sA hs (p := 88) (t := 3) (n := 40176) rfl (by decide)]
  unfold upd
  by_cases hc : c = i
  · have h1 : c < 1296 := by omega
    have h2 : 1296 * D + c = k := by omega
    simp only [if_pos h1, if_pos h2, if_pos hc]
  · by_cases h1 : c < 1296
    · have h2 : ¬ 1296 * D + c = k := by omega
      simp only [if_pos h1, if_neg h2, if_neg hc]
    · simp only [if_neg h1, if_neg hc]
theorem canP_brow {D : Nat} {g : Nat → Int32} {es es' : PH} (hs : sh es) (h : canP D g es es') (D' : Nat) : brow es' D' = brow es D' := by
  funext i
  unfold brow
  rw [fr_gA h.2.2.1 hs (p := 87) (t := 0) (n := 1116) rfl (by decide)]
  unfold mIn
  simp
theorem canP_world {D : Nat} {g : Nat → Int32} {es es' : PH} (hs : sh es) (h : canP D g es es') : gA es' 80 = gA es 80 := by
  funext i
  rw [fr_gA h.2.2.1 hs (p := 80) (t := 0) (n := 2125) (sp := tS80) rfl (by decide)]
  unfold mIn
  simp
section
variable {O : pOut} {d kc ks : Nat} {Q : pRes → Prop} {dp fm f r mo em : Int}
theorem along_loop (hd : 0 ≤ dp ∧ dp ≤ 30) (hf : 0 ≤ fm ∧ fm ≤ 35) (h2 : -2 ≤ f ∧ f ≤ 2) (h3 : -2 ≤ r ∧ r ≤ 2) (h4 : -2147483648 ≤ mo ∧ mo ≤ 2147483647) (h5 : 0 ≤ em ∧ em ≤ 1) :
    ∀ (n : Nat) (k s : Int) (es : PH) (x9 : Option Value), n = (mo - k).toNat → 0 ≤ k → k ≤ 2147483647 → 0 ≤ s ∧ s ≤ 35 → sh es →
      (∀ es', canP dp.toNat (algF (brow es dp.toNat) fm f r em n s (crow es dp.toNat)) es es' → Q (.inl none, es', kc, ks)) →
      aW O (d + 2) 222 kc ks Q (6, [some (.ref 143), some (.int (zI dp)), some (.int (zI fm)), some (.int (zI f)), some (.int (zI r)), some (.int (zI mo)), some (.int (zI em)), some (.int (zI s)), some (.int (zI k)), x9], [], es) := by
  intro n
  induction n with
  | zero =>
    intro k s es x9 hn h0 hk hs hsh K
    have hmk : mo ≤ k := by omega
    refine x0 (r := (8, _, [.int (zI k)], es)) i_222_6 rfl ?_
    refine x0 (r := (10, _, [.int (zI mo), .int (zI k)], es)) i_222_8 rfl ?_
    refine x_cmpT i_222_10 (by unfold i32 iLO iHI; omega) (by unfold i32 iLO iHI; omega) rfl (by simp only [zC, cR]; omega) ?_
    refine x_ret (v := none) i_222_85 rfl (fun _ => rfl) rfl rfl rfl ?_
    exact K es (canP_refl hsh)
  | succ n ih =>
    intro k s es x9 hn h0 hk hs hsh K
    have hidx : ∀ t : Int, 0 ≤ t → t ≤ 35 → (((1296 * dp) + (36 * fm)) + t).toNat = 1296 * dp.toNat + (36 * fm + t).toNat := fun t h1 h2 => by omega
    have hrow : ∀ t : Int, 0 ≤ t → t ≤ 35 → (gA es 87 ((36 * dp) + t).toNat).toInt = brow es dp.toNat t.toNat := fun t h1 h2 => by
      unfold brow
      rw [if_pos (by omega), show ((36 * dp) + t).toNat = 36 * dp.toNat + t.toNat by omega]
    have stop : offI s f r < 0 → Q (.inl none, es, kc, ks) := fun hneg => by
      refine K es ?_
      rw [algF, if_pos hneg]
      exact canP_refl hsh
    refine s_along6 (d := d) hsh hd hf h2 h3 h4 h5 hs ⟨h0, by omega⟩ ?_ ?_ ?_ ?_ ?_ ?_ ?_ ?_ ?_ ?_
    · intro h; omega
    · intro _ c1; exact stop (by unfold offI; rw [if_pos c1]; omega)
    · intro _ c1 c2; exact stop (by unfold offI; rw [if_neg c1, if_pos c2]; omega)
    · intro _ c1 c2 c3; exact stop (by unfold offI; rw [if_neg c1, if_neg c2, if_pos c3]; omega)
    · intro _ c1 c2 c3 c4; exact stop (by unfold offI; rw [if_neg c1, if_neg c2, if_neg c3, if_pos c4]; omega)
    · intro c0 c1 c2 c3 c4 c5 v hv hv0 es9 he9
      have ho : offI s f r = 6 * (s / 6 + r) + (s % 6 + f) := by unfold offI; rw [if_neg c1, if_neg c2, if_neg c3, if_neg c4]
      rw [← ho] at hv he9 c5 ⊢
      have hb : offI s f r ≤ 35 := by rw [ho]; omega
      rw [hrow _ c5 hb] at hv
      rw [hidx _ c5 hb] at he9
      have hp := canP_may (D := dp.toNat) hsh (i := (36 * fm + offI s f r).toNat) (by omega) rfl
      rw [← he9] at hp
      refine ih (k + 1) (offI s f r) es9 _ (by omega) (by omega) (by omega) ⟨c5, hb⟩ hp.1 (fun es' hp' => K es' ?_)
      rw [canP_brow hsh hp, hp.2.2.2] at hp'
      rw [algF, if_neg (by omega), if_pos (by omega)]
      exact canP_trans hp hp'
    · intro c0 c1 c2 c3 c4 c5 v hv hv0 hem
      have ho : offI s f r = 6 * (s / 6 + r) + (s % 6 + f) := by unfold offI; rw [if_neg c1, if_neg c2, if_neg c3, if_neg c4]
      rw [← ho] at hv c5
      have hb : offI s f r ≤ 35 := by rw [ho]; omega
      rw [hrow _ c5 hb] at hv
      refine K es ?_
      rw [algF, if_neg (by omega), if_neg (by omega), if_pos hem]
      exact canP_refl hsh
    · intro c0 c1 c2 c3 c4 c5 v hv hv0 hem v11 hv11 v12 hv12 v13 hv13 heq
      have ho : offI s f r = 6 * (s / 6 + r) + (s % 6 + f) := by unfold offI; rw [if_neg c1, if_neg c2, if_neg c3, if_neg c4]
      rw [← ho] at hv c5
      have hb : offI s f r ≤ 35 := by rw [ho]; omega
      rw [hrow _ c5 hb] at hv
      rw [hrow _ hf.1 hf.2] at hv12
      refine K es ?_
      have hsd : sdI (brow es dp.toNat (offI s f r).toNat) = sdI (brow es dp.toNat fm.toNat) := by
        rw [← hv, ← hv12]
        unfold sdI
        rw [← hv11, ← hv13]; exact heq
      rw [algF, if_neg (by omega), if_neg (by omega), if_neg hem, if_pos hsd]
      exact canP_refl hsh
    · intro c0 c1 c2 c3 c4 c5 v hv hv0 hem v11 hv11 v12 hv12 v13 hv13 heq es15 he15
      have ho : offI s f r = 6 * (s / 6 + r) + (s % 6 + f) := by unfold offI; rw [if_neg c1, if_neg c2, if_neg c3, if_neg c4]
      rw [← ho] at hv c5 he15
      have hb : offI s f r ≤ 35 := by rw [ho]; omega
      rw [hrow _ c5 hb] at hv
      rw [hrow _ hf.1 hf.2] at hv12
      rw [hidx _ c5 hb] at he15
      refine K es15 ?_
      have hsd : ¬ sdI (brow es dp.toNat (offI s f r).toNat) = sdI (brow es dp.toNat fm.toNat) := by
        rw [← hv, ← hv12]
        unfold sdI
        rw [← hv11, ← hv13]; exact heq
      rw [algF, if_neg (by omega), if_neg (by omega), if_neg hem, if_neg hsd, he15]
      exact canP_may (D := dp.toNat) hsh (by omega) rfl
    · intro c0 c1 c2 c3 c4 c5
      exact absurd (show 0 ≤ 6 * (s / 6 + r) + (s % 6 + f) by omega) c5
/-- along, whole -/
def alongP (dp fm f r mo em : Int) (es es' : PH) : Prop := canP dp.toNat (algF (brow es dp.toNat) fm f r em mo.toNat fm (crow es dp.toNat)) es es'
theorem along_spec {es : PH} (hs : sh es) (hd : 0 ≤ dp ∧ dp ≤ 30) (hf : 0 ≤ fm ∧ fm ≤ 35) (h2 : -2 ≤ f ∧ f ≤ 2) (h3 : -2 ≤ r ∧ r ≤ 2) (h4 : -2147483648 ≤ mo ∧ mo ≤ 2147483647) (h5 : 0 ≤ em ∧ em ≤ 1) (K : ∀ es', alongP dp fm f r mo em es es' → Q (.inl none, es', kc, ks)) :
    aW O (d + 2) 222 kc ks Q (0, [some (.ref 143), some (.int (zI dp)), some (.int (zI fm)), some (.int (zI f)), some (.int (zI r)), some (.int (zI mo)), some (.int (zI em)), none, none, none], [], es) := by
  refine s_along0 hs ?_
  refine along_loop hd hf h2 h3 h4 h5 mo.toNat 0 fm es none (by omega) (by omega) (by omega) hf hs (fun es' h => K es' h)
end
